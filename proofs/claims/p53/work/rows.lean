section
-- ===== PART A: goes FIRST, ahead of the names: the tables' words, and 'selects' of the private methods out of them =====
/-- a private method of a class that the tables say can be made, by its rows of tables_1 -/
def lw_okq (q : MethodName × Nat) : Prop := (q.1.cls ≠ "java/lang/invoke/MethodHandle" ∧ q.1.cls ≠ "java/lang/invoke/VarHandle") ∧ Cond.instantiable q.1.cls q.2 ∈ tables_1 ∧ Cond.privateMethod q.1 ∈ tables_1 ∧ Cond.instanceMethod q.1 ∈ tables_1
theorem lw_p0 : lw_okq (⟨"WaveUpgrade$Text", "scanWord", "()V"⟩, 9) := ⟨⟨by decide +kernel, by decide +kernel⟩, List.mem_of_getElem? (i := 47) (by decide +kernel), List.mem_of_getElem? (i := 413) (by decide +kernel), List.mem_of_getElem? (i := 414) (by decide +kernel)⟩
theorem lw_p1 : lw_okq (⟨"WaveUpgrade$Text", "scanNumber", "()V"⟩, 9) := ⟨⟨by decide +kernel, by decide +kernel⟩, List.mem_of_getElem? (i := 47) (by decide +kernel), List.mem_of_getElem? (i := 417) (by decide +kernel), List.mem_of_getElem? (i := 418) (by decide +kernel)⟩
theorem lw_p2 : lw_okq (⟨"WaveUpgrade$ClusterReader", "readStatement", "()Z"⟩, 4) := ⟨⟨by decide +kernel, by decide +kernel⟩, List.mem_of_getElem? (i := 303) (by decide +kernel), List.mem_of_getElem? (i := 421) (by decide +kernel), List.mem_of_getElem? (i := 422) (by decide +kernel)⟩
theorem lw_p3 : lw_okq (⟨"WaveUpgrade$ClusterReader", "errorOfFirstWord", "(LWaveUpgrade$Statement;)I"⟩, 4) := ⟨⟨by decide +kernel, by decide +kernel⟩, List.mem_of_getElem? (i := 303) (by decide +kernel), List.mem_of_getElem? (i := 486) (by decide +kernel), List.mem_of_getElem? (i := 487) (by decide +kernel)⟩
theorem lw_p4 : lw_okq (⟨"WaveUpgrade$ClusterReader", "readRest", "(LWaveUpgrade$Statement;)Z"⟩, 4) := ⟨⟨by decide +kernel, by decide +kernel⟩, List.mem_of_getElem? (i := 303) (by decide +kernel), List.mem_of_getElem? (i := 503) (by decide +kernel), List.mem_of_getElem? (i := 504) (by decide +kernel)⟩
theorem lw_p5 : lw_okq (⟨"WaveUpgrade$ClusterReader", "readVersion", "()Z"⟩, 4) := ⟨⟨by decide +kernel, by decide +kernel⟩, List.mem_of_getElem? (i := 303) (by decide +kernel), List.mem_of_getElem? (i := 507) (by decide +kernel), List.mem_of_getElem? (i := 508) (by decide +kernel)⟩
theorem lw_p6 : lw_okq (⟨"WaveUpgrade$ClusterReader", "readTalks", "()Z"⟩, 4) := ⟨⟨by decide +kernel, by decide +kernel⟩, List.mem_of_getElem? (i := 303) (by decide +kernel), List.mem_of_getElem? (i := 532) (by decide +kernel), List.mem_of_getElem? (i := 533) (by decide +kernel)⟩
theorem lw_p7 : lw_okq (⟨"WaveUpgrade$ClusterReader", "readPlace", "()Z"⟩, 4) := ⟨⟨by decide +kernel, by decide +kernel⟩, List.mem_of_getElem? (i := 303) (by decide +kernel), List.mem_of_getElem? (i := 551) (by decide +kernel), List.mem_of_getElem? (i := 552) (by decide +kernel)⟩
theorem lw_p8 : lw_okq (⟨"WaveUpgrade$ClusterReader", "readMember", "()Z"⟩, 4) := ⟨⟨by decide +kernel, by decide +kernel⟩, List.mem_of_getElem? (i := 303) (by decide +kernel), List.mem_of_getElem? (i := 559) (by decide +kernel), List.mem_of_getElem? (i := 560) (by decide +kernel)⟩
theorem lw_p9 : lw_okq (⟨"WaveUpgrade$Layout", "join", "(II)V"⟩, 18) := ⟨⟨by decide +kernel, by decide +kernel⟩, List.mem_of_getElem? (i := 86) (by decide +kernel), List.mem_of_getElem? (i := 586) (by decide +kernel), List.mem_of_getElem? (i := 587) (by decide +kernel)⟩
theorem lw_p10 : lw_okq (⟨"WaveUpgrade$ClusterReader", "readLink", "()Z"⟩, 4) := ⟨⟨by decide +kernel, by decide +kernel⟩, List.mem_of_getElem? (i := 303) (by decide +kernel), List.mem_of_getElem? (i := 590) (by decide +kernel), List.mem_of_getElem? (i := 591) (by decide +kernel)⟩
theorem lw_p11 : lw_okq (⟨"WaveUpgrade$ClusterReader", "readWave", "()Z"⟩, 4) := ⟨⟨by decide +kernel, by decide +kernel⟩, List.mem_of_getElem? (i := 303) (by decide +kernel), List.mem_of_getElem? (i := 598) (by decide +kernel), List.mem_of_getElem? (i := 599) (by decide +kernel)⟩
theorem lw_p12 : lw_okq (⟨"WaveUpgrade$ClusterReader", "readPlaceOfWave", "(I)Z"⟩, 4) := ⟨⟨by decide +kernel, by decide +kernel⟩, List.mem_of_getElem? (i := 303) (by decide +kernel), List.mem_of_getElem? (i := 606) (by decide +kernel), List.mem_of_getElem? (i := 607) (by decide +kernel)⟩
theorem lw_p13 : lw_okq (⟨"WaveUpgrade$ClusterReader", "readSetting", "(LWaveUpgrade$Statement;)Z"⟩, 4) := ⟨⟨by decide +kernel, by decide +kernel⟩, List.mem_of_getElem? (i := 303) (by decide +kernel), List.mem_of_getElem? (i := 614) (by decide +kernel), List.mem_of_getElem? (i := 615) (by decide +kernel)⟩
theorem lw_p14 : lw_okq (⟨"java/lang/Throwable", "fillInStackTrace", "(I)Ljava/lang/Throwable;"⟩, 6) := ⟨⟨by decide +kernel, by decide +kernel⟩, List.mem_of_getElem? (i := 660) (by decide +kernel), List.mem_of_getElem? (i := 658) (by decide +kernel), List.mem_of_getElem? (i := 659) (by decide +kernel)⟩
theorem lw_p15 : lw_okq (⟨"WaveUpgradeLaw$World", "next", "(I)I"⟩, 28) := ⟨⟨by decide +kernel, by decide +kernel⟩, List.mem_of_getElem? (i := 725) (by decide +kernel), List.mem_of_getElem? (i := 893) (by decide +kernel), List.mem_of_getElem? (i := 894) (by decide +kernel)⟩
def lw_privs_1 : List (MethodName × Nat) := [(⟨"WaveUpgrade$Text", "scanWord", "()V"⟩, 9), (⟨"WaveUpgrade$Text", "scanNumber", "()V"⟩, 9), (⟨"WaveUpgrade$ClusterReader", "readStatement", "()Z"⟩, 4), (⟨"WaveUpgrade$ClusterReader", "errorOfFirstWord", "(LWaveUpgrade$Statement;)I"⟩, 4), (⟨"WaveUpgrade$ClusterReader", "readRest", "(LWaveUpgrade$Statement;)Z"⟩, 4), (⟨"WaveUpgrade$ClusterReader", "readVersion", "()Z"⟩, 4), (⟨"WaveUpgrade$ClusterReader", "readTalks", "()Z"⟩, 4), (⟨"WaveUpgrade$ClusterReader", "readPlace", "()Z"⟩, 4), (⟨"WaveUpgrade$ClusterReader", "readMember", "()Z"⟩, 4), (⟨"WaveUpgrade$Layout", "join", "(II)V"⟩, 18), (⟨"WaveUpgrade$ClusterReader", "readLink", "()Z"⟩, 4), (⟨"WaveUpgrade$ClusterReader", "readWave", "()Z"⟩, 4), (⟨"WaveUpgrade$ClusterReader", "readPlaceOfWave", "(I)Z"⟩, 4), (⟨"WaveUpgrade$ClusterReader", "readSetting", "(LWaveUpgrade$Statement;)Z"⟩, 4), (⟨"java/lang/Throwable", "fillInStackTrace", "(I)Ljava/lang/Throwable;"⟩, 6), (⟨"WaveUpgradeLaw$World", "next", "(I)I"⟩, 28)]
theorem lw_r1 : ∀ q ∈ lw_privs_1, lw_okq q := List.forall_mem_cons.mpr ⟨lw_p0, List.forall_mem_cons.mpr ⟨lw_p1, List.forall_mem_cons.mpr ⟨lw_p2, List.forall_mem_cons.mpr ⟨lw_p3, List.forall_mem_cons.mpr ⟨lw_p4, List.forall_mem_cons.mpr ⟨lw_p5, List.forall_mem_cons.mpr ⟨lw_p6, List.forall_mem_cons.mpr ⟨lw_p7, List.forall_mem_cons.mpr ⟨lw_p8, List.forall_mem_cons.mpr ⟨lw_p9, List.forall_mem_cons.mpr ⟨lw_p10, List.forall_mem_cons.mpr ⟨lw_p11, List.forall_mem_cons.mpr ⟨lw_p12, List.forall_mem_cons.mpr ⟨lw_p13, List.forall_mem_cons.mpr ⟨lw_p14, List.forall_mem_cons.mpr ⟨lw_p15, fun _ h => absurd h List.not_mem_nil⟩⟩⟩⟩⟩⟩⟩⟩⟩⟩⟩⟩⟩⟩⟩⟩
theorem lw_p16 : lw_okq (⟨"WaveUpgradeLaw$World", "talk", "(Ljava/lang/StringBuilder;II)V"⟩, 28) := ⟨⟨by decide +kernel, by decide +kernel⟩, List.mem_of_getElem? (i := 725) (by decide +kernel), List.mem_of_getElem? (i := 1108) (by decide +kernel), List.mem_of_getElem? (i := 1109) (by decide +kernel)⟩
theorem lw_p17 : lw_okq (⟨"WaveUpgradeLaw$World", "member", "(Ljava/lang/StringBuilder;)V"⟩, 28) := ⟨⟨by decide +kernel, by decide +kernel⟩, List.mem_of_getElem? (i := 725) (by decide +kernel), List.mem_of_getElem? (i := 1115) (by decide +kernel), List.mem_of_getElem? (i := 1116) (by decide +kernel)⟩
theorem lw_p18 : lw_okq (⟨"java/util/ArrayList", "add", "(Ljava/lang/Object;[Ljava/lang/Object;I)V"⟩, 3) := ⟨⟨by decide +kernel, by decide +kernel⟩, List.mem_of_getElem? (i := 733) (by decide +kernel), List.mem_of_getElem? (i := 1235) (by decide +kernel), List.mem_of_getElem? (i := 1236) (by decide +kernel)⟩
theorem lw_p19 : lw_okq (⟨"java/util/ArrayList", "grow", "()[Ljava/lang/Object;"⟩, 3) := ⟨⟨by decide +kernel, by decide +kernel⟩, List.mem_of_getElem? (i := 733) (by decide +kernel), List.mem_of_getElem? (i := 1239) (by decide +kernel), List.mem_of_getElem? (i := 1240) (by decide +kernel)⟩
theorem lw_p20 : lw_okq (⟨"java/util/ArrayList", "grow", "(I)[Ljava/lang/Object;"⟩, 3) := ⟨⟨by decide +kernel, by decide +kernel⟩, List.mem_of_getElem? (i := 733) (by decide +kernel), List.mem_of_getElem? (i := 1243) (by decide +kernel), List.mem_of_getElem? (i := 1244) (by decide +kernel)⟩
theorem lw_p21 : lw_okq (⟨"WaveUpgradeLaw$World", "link", "(Ljava/lang/StringBuilder;)V"⟩, 28) := ⟨⟨by decide +kernel, by decide +kernel⟩, List.mem_of_getElem? (i := 725) (by decide +kernel), List.mem_of_getElem? (i := 1282) (by decide +kernel), List.mem_of_getElem? (i := 1283) (by decide +kernel)⟩
theorem lw_p22 : lw_okq (⟨"WaveUpgradeLaw$World", "inWave", "(Ljava/lang/StringBuilder;I)V"⟩, 28) := ⟨⟨by decide +kernel, by decide +kernel⟩, List.mem_of_getElem? (i := 725) (by decide +kernel), List.mem_of_getElem? (i := 1304) (by decide +kernel), List.mem_of_getElem? (i := 1305) (by decide +kernel)⟩
theorem lw_p23 : lw_okq (⟨"WaveUpgrade", "needMember", "(I)V"⟩, 11) := ⟨⟨by decide +kernel, by decide +kernel⟩, List.mem_of_getElem? (i := 39) (by decide +kernel), List.mem_of_getElem? (i := 1389) (by decide +kernel), List.mem_of_getElem? (i := 1390) (by decide +kernel)⟩
theorem lw_p24 : lw_okq (⟨"WaveUpgrade", "needVersion", "(I)V"⟩, 11) := ⟨⟨by decide +kernel, by decide +kernel⟩, List.mem_of_getElem? (i := 39) (by decide +kernel), List.mem_of_getElem? (i := 1437) (by decide +kernel), List.mem_of_getElem? (i := 1438) (by decide +kernel)⟩
theorem lw_p25 : lw_okq (⟨"WaveUpgrade$State", "finishPlan", "()V"⟩, 16) := ⟨⟨by decide +kernel, by decide +kernel⟩, List.mem_of_getElem? (i := 84) (by decide +kernel), List.mem_of_getElem? (i := 1478) (by decide +kernel), List.mem_of_getElem? (i := 1479) (by decide +kernel)⟩
theorem lw_p26 : lw_okq (⟨"WaveUpgradeLaw$World", "note", "(III)V"⟩, 28) := ⟨⟨by decide +kernel, by decide +kernel⟩, List.mem_of_getElem? (i := 725) (by decide +kernel), List.mem_of_getElem? (i := 1496) (by decide +kernel), List.mem_of_getElem? (i := 1497) (by decide +kernel)⟩
theorem lw_p27 : lw_okq (⟨"WaveUpgrade$State", "endChanges", "()V"⟩, 16) := ⟨⟨by decide +kernel, by decide +kernel⟩, List.mem_of_getElem? (i := 84) (by decide +kernel), List.mem_of_getElem? (i := 1667) (by decide +kernel), List.mem_of_getElem? (i := 1668) (by decide +kernel)⟩
theorem lw_p28 : lw_okq (⟨"WaveUpgrade$State", "isOverLimit", "()Z"⟩, 16) := ⟨⟨by decide +kernel, by decide +kernel⟩, List.mem_of_getElem? (i := 84) (by decide +kernel), List.mem_of_getElem? (i := 1671) (by decide +kernel), List.mem_of_getElem? (i := 1672) (by decide +kernel)⟩
theorem lw_p29 : lw_okq (⟨"WaveUpgrade$State", "reachedOf", "(I)I"⟩, 16) := ⟨⟨by decide +kernel, by decide +kernel⟩, List.mem_of_getElem? (i := 84) (by decide +kernel), List.mem_of_getElem? (i := 1679) (by decide +kernel), List.mem_of_getElem? (i := 1680) (by decide +kernel)⟩
theorem lw_p30 : lw_okq (⟨"WaveUpgrade$State", "leaveWave", "()V"⟩, 16) := ⟨⟨by decide +kernel, by decide +kernel⟩, List.mem_of_getElem? (i := 84) (by decide +kernel), List.mem_of_getElem? (i := 1688) (by decide +kernel), List.mem_of_getElem? (i := 1689) (by decide +kernel)⟩
theorem lw_p31 : lw_okq (⟨"WaveUpgrade$State", "beginChanges", "()I"⟩, 16) := ⟨⟨by decide +kernel, by decide +kernel⟩, List.mem_of_getElem? (i := 84) (by decide +kernel), List.mem_of_getElem? (i := 1692) (by decide +kernel), List.mem_of_getElem? (i := 1693) (by decide +kernel)⟩
def lw_privs_2 : List (MethodName × Nat) := [(⟨"WaveUpgradeLaw$World", "talk", "(Ljava/lang/StringBuilder;II)V"⟩, 28), (⟨"WaveUpgradeLaw$World", "member", "(Ljava/lang/StringBuilder;)V"⟩, 28), (⟨"java/util/ArrayList", "add", "(Ljava/lang/Object;[Ljava/lang/Object;I)V"⟩, 3), (⟨"java/util/ArrayList", "grow", "()[Ljava/lang/Object;"⟩, 3), (⟨"java/util/ArrayList", "grow", "(I)[Ljava/lang/Object;"⟩, 3), (⟨"WaveUpgradeLaw$World", "link", "(Ljava/lang/StringBuilder;)V"⟩, 28), (⟨"WaveUpgradeLaw$World", "inWave", "(Ljava/lang/StringBuilder;I)V"⟩, 28), (⟨"WaveUpgrade", "needMember", "(I)V"⟩, 11), (⟨"WaveUpgrade", "needVersion", "(I)V"⟩, 11), (⟨"WaveUpgrade$State", "finishPlan", "()V"⟩, 16), (⟨"WaveUpgradeLaw$World", "note", "(III)V"⟩, 28), (⟨"WaveUpgrade$State", "endChanges", "()V"⟩, 16), (⟨"WaveUpgrade$State", "isOverLimit", "()Z"⟩, 16), (⟨"WaveUpgrade$State", "reachedOf", "(I)I"⟩, 16), (⟨"WaveUpgrade$State", "leaveWave", "()V"⟩, 16), (⟨"WaveUpgrade$State", "beginChanges", "()I"⟩, 16)]
theorem lw_r2 : ∀ q ∈ lw_privs_2, lw_okq q := List.forall_mem_cons.mpr ⟨lw_p16, List.forall_mem_cons.mpr ⟨lw_p17, List.forall_mem_cons.mpr ⟨lw_p18, List.forall_mem_cons.mpr ⟨lw_p19, List.forall_mem_cons.mpr ⟨lw_p20, List.forall_mem_cons.mpr ⟨lw_p21, List.forall_mem_cons.mpr ⟨lw_p22, List.forall_mem_cons.mpr ⟨lw_p23, List.forall_mem_cons.mpr ⟨lw_p24, List.forall_mem_cons.mpr ⟨lw_p25, List.forall_mem_cons.mpr ⟨lw_p26, List.forall_mem_cons.mpr ⟨lw_p27, List.forall_mem_cons.mpr ⟨lw_p28, List.forall_mem_cons.mpr ⟨lw_p29, List.forall_mem_cons.mpr ⟨lw_p30, List.forall_mem_cons.mpr ⟨lw_p31, fun _ h => absurd h List.not_mem_nil⟩⟩⟩⟩⟩⟩⟩⟩⟩⟩⟩⟩⟩⟩⟩⟩
theorem lw_p32 : lw_okq (⟨"WaveUpgrade$State", "soakIfComplete", "()V"⟩, 16) := ⟨⟨by decide +kernel, by decide +kernel⟩, List.mem_of_getElem? (i := 84) (by decide +kernel), List.mem_of_getElem? (i := 1702) (by decide +kernel), List.mem_of_getElem? (i := 1703) (by decide +kernel)⟩
theorem lw_p33 : lw_okq (⟨"WaveUpgrade$State", "isStuck", "(I)Z"⟩, 16) := ⟨⟨by decide +kernel, by decide +kernel⟩, List.mem_of_getElem? (i := 84) (by decide +kernel), List.mem_of_getElem? (i := 1789) (by decide +kernel), List.mem_of_getElem? (i := 1790) (by decide +kernel)⟩
def lw_privs_3 : List (MethodName × Nat) := [(⟨"WaveUpgrade$State", "soakIfComplete", "()V"⟩, 16), (⟨"WaveUpgrade$State", "isStuck", "(I)Z"⟩, 16)]
theorem lw_r3 : ∀ q ∈ lw_privs_3, lw_okq q := List.forall_mem_cons.mpr ⟨lw_p32, List.forall_mem_cons.mpr ⟨lw_p33, fun _ h => absurd h List.not_mem_nil⟩⟩
def lw_privs : List (MethodName × Nat) := lw_privs_1 ++ (lw_privs_2 ++ (lw_privs_3))
def lw_tbl : List Cond := k2_sels lw_privs ++ tables_1
theorem lw_privs_ok : ∀ q ∈ lw_privs, lw_okq q := by
  show ∀ q ∈ lw_privs_1 ++ (lw_privs_2 ++ (lw_privs_3)), lw_okq q
  exact List.forall_mem_append.mpr ⟨lw_r1, List.forall_mem_append.mpr ⟨lw_r2, lw_r3⟩⟩
end
section
/-! ===== BEGIN words of one list among another's, by their places ===== -/
theorem goodIn_r {big : List Cond} (ws : List Cond) (ps : List Nat) (hp : ws = ps.filterMap (fun i => big[i]?)) (h : ws.all goodWord = true) : GoodIn big ws := by
  intro w hw
  have h1 := List.all_eq_true.mp h w hw
  rw [hp] at hw
  obtain ⟨i, -, hi⟩ := List.mem_filterMap.mp hw
  have hm : w ∈ big := by first | exact List.mem_of_getElem? hi | exact List.getElem?_mem hi
  exact ⟨hm, good_of_word h1⟩
theorem goodIn_app {big a b : List Cond} (ha : GoodIn big a) (hb : GoodIn big b) : GoodIn big (a ++ b) := fun w h => (List.mem_append.mp h).elim (ha w) (hb w)
theorem goodIn_ca {big a b : List Cond} {c : Cond} (ha : GoodIn big (c :: a)) (hb : GoodIn big b) : GoodIn big (c :: (a ++ b)) := fun w h => (List.mem_cons.mp h).elim (fun e => ha w (List.mem_cons.mpr (Or.inl e))) (fun h => (List.mem_append.mp h).elim (fun h => ha w (List.mem_cons.mpr (Or.inr h))) (hb w))
theorem goodIn_sub {big ws : List Cond} (hm : ∀ w ∈ ws, w ∈ big) (h : ws.all goodWord = true) : GoodIn big ws := fun w hw => ⟨hm w hw, good_of_word (List.all_eq_true.mp h w hw)⟩
/-! ===== END ===== -/
/-! ===== BEGIN exceptions that leave a method, and their catching by the caller (launches without stack traces) ===== -/
section VXA
/-! The laws vx_back, vx_callV, vx_callS, vx_callSW, vx_throw0, vx_throwS follow proofs of the library, with one case more: JvmDerived/Free/Laws.lean (Back.of_free), Shelf42/LK1.lean (callV, callS), Shelf/KitTraced.lean (throwNew0V, throwNewS). -/
/-- where a method has thrown q: the class by its name, the cell, what was written, the world -/
def vx_T (XC : String → State → State → Prop) (st : State) (q : Addr) (t : State) (mc ms : Nat) (free : Addr → Prop) : Prop :=
  ∃ (E : String) (ce : Cell) (L : List Loc), XC E st t ∧ t.heap[q]? = some ce ∧ ce.vm = .none ∧ st.vm.findClass E = some ce.cls ∧ st.WarmedH t.vm ∧ st.sameButNew ({ t with vm := st.vm } : State) L mc ms ∧ ∀ z ∈ L, free z.base
def vx_Q (Qc : Array Value → State → Outcome → State → Prop) (XC : String → State → State → Prop) (mc ms : Nat) (free : Addr → Prop) : Array Value → State → Outcome → State → Prop := fun a st o t =>
  (Qc a st o t ∧ ∃ L, FrameEnd st o t L mc ms ∧ ∀ q ∈ L, free q.base) ∨ ∃ q, o = .threw q ∧ vx_T XC st q t mc ms free
/-- a callee that returns or throws -/
def vx_Met (l : Launch) (y : MethodName) (ws : List Cond) (rm : Room) (Pc : Array Value → State → Prop) (Qc : Array Value → State → Outcome → State → Prop) (XC : String → State → State → Prop) (mc ms : Nat) (free : Addr → Prop) : Prop :=
  MetFree l y (headSpec ws rm) Pc (fun _ _ _ _ _ => True) (vx_Q Qc XC mc ms free)
def vx_Post (XC : String → State → State → Prop) (mc ms : Nat) (free : Addr → Prop) : Pt → Array Value → Addr → Pt → Prop := fun A a q B =>
  ∃ (g : JFrame) (mk : MethodId) (t : State) (L : List Loc) (E : String) (ce : Cell), B.U.heap = t.heap ∧ B.U.vm = t.vm ∧ XC E (A.U.calling g mk a) t ∧ t.heap[q]? = some ce ∧ ce.vm = .none ∧ A.U.vm.findClass E = some ce.cls ∧ B.locs = A.locs ++ L ∧ (∀ z ∈ L, free z.base) ∧ B.cells = A.cells + mc ∧ B.slots = A.slots + ms
def vx_Back (l : Launch) (R : Room) (p : Program) (e : Env) (below : List Frame) (s : State) (sargs : Array Value) (y : MethodName) (len W9 : Nat)
    (Pre : Pt → Array Value → Prop) (Post : Pt → Array Value → Option Value → Pt → Prop) (PostX : Pt → Array Value → Addr → Pt → Prop) : Prop :=
  ∀ (m : MethodId) (meth : Method) (c : Code) (A : Pt) (g : JFrame) (ig : Instr) (mk : MethodId) (a : Array Value),
    Stand p l e R s m sargs below meth c A.U A.locs A.cells A.slots → g.method = m → g.locals.size = c.maxLocals → decode c.code g.pc = .ok (ig, len) →
    2 * g.monitorRoom + (g.stack.map fun v => v.category).sum ≤ W9 → A.U.methodNamed? y = some mk → Pre A a →
    (∃ (v : Option Value) (B : Pt), Stand p l e R s m sargs below meth c B.U B.locs B.cells B.slots ∧ Post A a v B ∧
      Steps p.tables e below (doInvoke e (A.U.setTop g) [] mk a).1 (B.U.setTop { g with pc := g.pc + len, stack := v.toList ++ g.stack })) ∨
    (∃ (q : Addr) (B : Pt), Stand p l e R s m sargs below meth c B.U B.locs B.cells B.slots ∧ PostX A a q B ∧
      Steps p.tables e below (doInvoke e (A.U.setTop g) [] mk a).1 ((B.U.setTop g).pushFrame (.throwing q)))
section Payer
variable {l : Launch} {R : Room} {p : Program} {e : Env} {below : List Frame} {s : State} {sargs : Array Value} {y : MethodName} {len W9 : Nat}
theorem vx_back {ws : List Cond} {rm : Room} {Pc : Array Value → State → Prop} {Qc : Array Value → State → Outcome → State → Prop} {XC : String → State → State → Prop} {mc ms : Nat} {free : Addr → Prop} {bytes : ByteArray} {maxL : Nat} {ret : Option FieldType}
    (hM : vx_Met l y ws rm Pc Qc XC mc ms free) (hblind : FrameBlind Pc) (hrc : rm.cells = mc) (hrs : rm.slots = ms)
    (hframes : rm.frames + 1 ≤ R.frames) (hlocals : W9 + (maxL + 11) + rm.locals ≤ R.locals)
    (hws : ∀ w ∈ ws, ∀ a' U, s.WarmedH U.vm → w.before a' U = true) (hcode : Cond.code y bytes maxL ret ∈ ws) (hinit : ∀ a' U, s.WarmedH U.vm → (Cond.initialized y.cls).before a' U = true) :
    vx_Back l R p e below s sargs y len W9 (PreOf R mc ms Pc) (PostOf Qc mc ms free) (vx_Post XC mc ms free) := by
  intro m meth c A g ig mk a X hg hsize hdg hW hn hp
  have h1 : (headSpec ws rm).pre.before a A.U = true := atoms_intro fun w hw => hws w hw _ _ X.warmed
  have h2 : (Cond.code y bytes maxL ret).before a A.U = true := hws _ hcode _ _ X.warmed
  have h3 : (Cond.initialized y.cls).before a A.U = true := hinit _ _ X.warmed
  have h4 : A.cells + (headSpec ws rm).room.cells ≤ R.cells := by rw [show (headSpec ws rm).room.cells = mc from hrc]; exact hp.1
  have h5 : A.slots + (headSpec ws rm).room.slots ≤ R.slots := by rw [show (headSpec ws rm).room.slots = ms from hrs]; exact hp.2.1
  have hPc : Pc a (A.U.calling g mk a) := hblind _ _ _ _ hp.2.2
  obtain ⟨U, Ls, c0, s0⟩ := A
  dsimp only [Pt.U, Pt.locs, Pt.cells, Pt.slots] at h1 h2 h3 h4 h5 X hn hPc ⊢
  obtain ⟨methY, cY, hmY, hcY, -, hlY, -, -, -, -⟩ := Cond.code_spec hn h2
  obtain ⟨kY, hkY, -⟩ := className_of_methodNamed hn
  have hinitY : kY.init = .initialized := Cond.initialized_spec (findClass_of_methodNamed hn) hkY h3
  have h : At U g.method c below := by rw [hg]; exact X.here
  have hlocals9 : W9 + (maxL + 11) + (headSpec ws rm).room.locals ≤ R.locals := hlocals
  have happ : (headSpec ws rm).appliesLoose y e.platform (U.calling g mk a) = true :=
    Spec.appliesLoose_calling (g := g) h hdg hn hkY hinitY
      (X.room_calling (g := g) (R' := (headSpec ws rm).room) hsize hmY hcY hframes (by rw [hlY]; omega) h4 h5) h1
  obtain ⟨mid, hmid⟩ := h.above
  have hfr : (U.setTop g).frames = (.java g :: mid) ++ below := by rw [State.frames_setTop' g h.top, hmid]; rfl
  obtain ⟨o, s₂, hsteps, -, hend, hq⟩ := Steps.callFree hM p X.admits X.cas X.clock (acts := []) hfr happ hPc trivial
  have hq' : vx_Q Qc XC mc ms free a (U.calling g mk a) o s₂ := hq
  rw [State.frames_setTop' g h.top] at hend
  obtain ⟨g₀, hg0⟩ := Option.isSome_iff_exists.mp h.top
  obtain ⟨r, hr⟩ := State.topJava?_eq_some.mp hg0
  have hr' : (({ U with heap := s₂.heap, slotsUsed := s₂.slotsUsed } : State).setVm s₂.vm).frames = .java g₀ :: r := hr
  rcases hq' with ⟨hqc, L, hfe, hL⟩ | ⟨q, rfl, E, ce, L, hx, hce, hcv, hcl, hW₂, hsm, hL⟩
  · obtain ⟨⟨v, rfl⟩, hW₂, e2, q2, q3, q4, q5, q6⟩ := id hfe
    have e3 : s₂ = ({ (U.calling g mk a).setFrames s₂.frames with heap := s₂.heap, slotsUsed := s₂.slotsUsed } : State).setVm s₂.vm := by
      have : s₂ = ({ s₂ with vm := (U.calling g mk a).vm } : State).setVm s₂.vm := rfl
      rw [e2] at this
      exact this
    obtain ⟨c₂, i₂, len₂, hc₂, hd₂, hf₂⟩ := hend
    have hW' : U.WarmedH s₂.vm := hW₂
    have hcc : c₂ = c := by
      have h1 : s₂.code? g.method = U.code? g.method := by
        rw [State.code?_eq, State.code?_eq, hW'.alike.method?]
      exact Option.some.inj (hc₂.symm.trans (h1.trans h.code))
    subst hcc
    have hlen : len₂ = len := by rw [hdg] at hd₂; cases hd₂; rfl
    subst hlen
    have hs₂ : s₂ = (({ U with heap := s₂.heap, slotsUsed := s₂.slotsUsed } : State).setVm s₂.vm).setTop { g with pc := g.pc + len₂, stack := v.toList ++ g.stack } := by
      refine e3.trans ?_
      rw [hf₂, State.calling_eq h.top, State.setFrames_setFrames, State.setTop_of_frames _ hr', hr]
      rfl
    have hsame : U.sameButNew ({ U with heap := s₂.heap, slotsUsed := s₂.slotsUsed } : State) L mc ms := by
      refine ⟨?_, q2, q3, q4, q5, q6⟩
      obtain ⟨t, ht, -⟩ := State.frames_cons hr
      show ({ U with heap := s₂.heap, slotsUsed := s₂.slotsUsed } : State) = { U.setFrames U.frames with heap := s₂.heap, slotsUsed := s₂.slotsUsed }
      rw [State.setFrames_self ht]
    subst hg
    refine Or.inl ⟨v, ⟨(({ U with heap := s₂.heap, slotsUsed := s₂.slotsUsed } : State).setVm s₂.vm), Ls ++ L, c0 + mc, s0 + ms⟩,
      ⟨X.admits, X.cas, X.clock, X.frames, X.room, X.hears, X.method, X.code, (X.here.setHeapUsed s₂.heap s₂.slotsUsed).setVm hW'.alike, X.tail, State.WarmedH.trans X.warmed hW', X.limits, X.bytes, X.same.trans (hsame.setVm s.vm)⟩,
      ⟨g, mk, s₂, L, rfl, rfl, hqc, rfl, hL, rfl, rfl⟩, ?_⟩
    show Steps p.tables e below _ ((({ U with heap := s₂.heap, slotsUsed := s₂.slotsUsed } : State).setVm s₂.vm).setTop { g with pc := g.pc + len₂, stack := v.toList ++ g.stack })
    rw [← hs₂]
    exact hsteps
  · obtain ⟨e2, q2, q3, q4, q5, q6⟩ := id hsm
    have e3 : s₂ = ({ (U.calling g mk a).setFrames s₂.frames with heap := s₂.heap, slotsUsed := s₂.slotsUsed } : State).setVm s₂.vm := by
      have : s₂ = ({ s₂ with vm := (U.calling g mk a).vm } : State).setVm s₂.vm := rfl
      rw [e2] at this
      exact this
    have hf₂ : s₂.frames = .throwing q :: .java g :: U.frames.tail := hend
    have hW' : U.WarmedH s₂.vm := hW₂
    have hs₂ : s₂ = ((({ U with heap := s₂.heap, slotsUsed := s₂.slotsUsed } : State).setVm s₂.vm).setTop g).pushFrame (.throwing q) := by
      refine e3.trans ?_
      rw [hf₂, State.calling_eq h.top, State.setFrames_setFrames, State.pushFrame, State.frames_setTop _ hr', State.setTop_of_frames _ hr', State.setFrames_setFrames, hr]
      rfl
    have hsame : U.sameButNew ({ U with heap := s₂.heap, slotsUsed := s₂.slotsUsed } : State) L mc ms := by
      refine ⟨?_, q2, q3, q4, q5, q6⟩
      obtain ⟨t, ht, -⟩ := State.frames_cons hr
      show ({ U with heap := s₂.heap, slotsUsed := s₂.slotsUsed } : State) = { U.setFrames U.frames with heap := s₂.heap, slotsUsed := s₂.slotsUsed }
      rw [State.setFrames_self ht]
    subst hg
    refine Or.inr ⟨q, ⟨(({ U with heap := s₂.heap, slotsUsed := s₂.slotsUsed } : State).setVm s₂.vm), Ls ++ L, c0 + mc, s0 + ms⟩,
      ⟨X.admits, X.cas, X.clock, X.frames, X.room, X.hears, X.method, X.code, (X.here.setHeapUsed s₂.heap s₂.slotsUsed).setVm hW'.alike, X.tail, State.WarmedH.trans X.warmed hW', X.limits, X.bytes, X.same.trans (hsame.setVm s.vm)⟩,
      ⟨g, mk, s₂, L, E, ce, rfl, rfl, hx, hce, hcv, hcl, rfl, hL, rfl, rfl⟩, ?_⟩
    show Steps p.tables e below _ (((({ U with heap := s₂.heap, slotsUsed := s₂.slotsUsed } : State).setVm s₂.vm).setTop g).pushFrame (.throwing q))
    rw [← hs₂]
    exact hsteps
end Payer
section Calls
variable {p : Program} {l : Launch} {e : Env} {R : Room} {s : State} {m : MethodId} {args : Array Value} {below : List Frame} {meth : Method} {c : Code} {T : State} {locs : List Loc} {cells slots : Nat}
theorem vx_callV (X : Stand p l e R s m args below meth c T locs cells slots) (hexec : p.tables.exec = Jvm.exec) {own C : String} {index : Nat} {y : MethodName} {bytes : ByteArray} {maxL : Nat} {ret : Option FieldType}
    (hown : s.vm.findClass own = some m.cls) (hlink : (Cond.methodLink own index y).before args s = true) (hinst : (Cond.instanceMethod y).before args s = true) (hsel : (Cond.selects C y y).before args s = true)
    (hcode : (Cond.code y bytes maxL ret).before args s = true) (hy : y.cls ≠ "java/lang/invoke/MethodHandle" ∧ y.cls ≠ "java/lang/invoke/VarHandle")
    {W9 : Nat} {Pre : Pt → Array Value → Prop} {Post : Pt → Array Value → Option Value → Pt → Prop} {PostX : Pt → Array Value → Addr → Pt → Prop} (hK : vx_Back l R p e below s args y 3 W9 Pre Post PostX)
    {b : Addr} {cellB : Cell} (hcell : T.heap[b]? = some cellB) (hobj : cellB.vm.isStatics = false) (hcls : s.vm.findClass C = some cellB.cls)
    {g : JFrame} (hg : g.method = m) (hsize : g.locals.size = c.maxLocals) {argsL rest : List Value} (hlen : ∀ sig, parseMethodDescriptor y.desc = some sig → argsL.length = sig.parameters.length)
    (hstack : g.stack = argsL.reverse ++ .ref b :: rest) (hW : 2 * g.monitorRoom + (rest.map fun v => v.category).sum ≤ W9) (hdg : decode c.code g.pc = .ok (.invokevirtual index, 3))
    (hpre : ∀ vm₁, s.WarmedH vm₁ → Pre ⟨T.setVm vm₁, locs, cells, slots⟩ (Value.ref b :: argsL).toArray) :
    (∃ (v : Option Value) (vm₁ : Vm) (B : Pt), s.WarmedH vm₁ ∧ Stand p l e R s m args below meth c B.U B.locs B.cells B.slots ∧ Post ⟨T.setVm vm₁, locs, cells, slots⟩ (Value.ref b :: argsL).toArray v B ∧
      ∀ target, Steps p.tables e below (B.U.setTop { g with pc := g.pc + 3, stack := v.toList ++ rest }) target → Steps p.tables e below (T.setTop g) target) ∨
    (∃ (q : Addr) (vm₁ : Vm) (B : Pt), s.WarmedH vm₁ ∧ Stand p l e R s m args below meth c B.U B.locs B.cells B.slots ∧ PostX ⟨T.setVm vm₁, locs, cells, slots⟩ (Value.ref b :: argsL).toArray q B ∧
      Steps p.tables e below (T.setTop g) ((B.U.setTop { g with stack := rest }).pushFrame (.throwing q))) := by
  obtain ⟨mk, methM, hnamed, hmethM, hstM, habM⟩ := Cond.instanceMethod_spec hinst
  obtain ⟨methM', cM, hmethM', -, -, -, -, -, -, hsigM⟩ := Cond.code_spec hnamed hcode
  cases hmethM.symm.trans hmethM'
  obtain ⟨c2, r2, m2, q1, q2, q3, q4, kP, hkP, hkPi⟩ := Cond.selects_spec hsel
  cases hcls.symm.trans q1
  cases (State.methodFound?_of_named hnamed hy).symm.trans q2
  cases hnamed.symm.trans q3
  have hselP : selectMethod e.platform s.vm cellB.cls mk = .method mk := by rw [Launch.admits_selectMethod X.admits]; exact q4
  obtain ⟨vm₁, X₁, hstep₁⟩ := X.invokevirtual hexec hown hlink hnamed hmethM hstM hkP hkPi hy (a := b) (cell := cellB) hcell
    (fun z h => by rw [h] at hobj; cases hobj) hselP hmethM habM hkP hkPi (g := g) hg (argsL := argsL) (rest := rest) (hlen _ hsigM) hstack hdg
  rcases hK m meth c ⟨T.setVm vm₁, locs, cells, slots⟩ { g with stack := rest } (.invokevirtual index) mk (Value.ref b :: argsL).toArray X₁ hg hsize hdg hW (X₁.named hnamed) (hpre vm₁ X₁.warmed) with ⟨v, B, X', hpost, hsteps⟩ | ⟨q, B, X', hpost, hsteps⟩
  · exact Or.inl ⟨v, vm₁, B, X₁.warmed, X', hpost, fun target h => hstep₁ _ fun acts => by rw [doInvoke_state]; exact hsteps.trans h⟩
  · exact Or.inr ⟨q, vm₁, B, X₁.warmed, X', hpost, hstep₁ _ fun acts => by rw [doInvoke_state]; exact hsteps⟩
theorem vx_callS (X : Stand p l e R s m args below meth c T locs cells slots) (hexec : p.tables.exec = Jvm.exec) {own : String} {index : Nat} {y : MethodName} {bytes : ByteArray} {maxL : Nat} {ret : Option FieldType}
    (hown : s.vm.findClass own = some m.cls) (hlink : (Cond.methodLink own index y).before args s = true) (hstat : (Cond.static y).before args s = true) (hinit : (Cond.initialized y.cls).before args s = true)
    (hcode : (Cond.code y bytes maxL ret).before args s = true) (hy : y.cls ≠ "java/lang/invoke/MethodHandle" ∧ y.cls ≠ "java/lang/invoke/VarHandle")
    {W9 : Nat} {Pre : Pt → Array Value → Prop} {Post : Pt → Array Value → Option Value → Pt → Prop} {PostX : Pt → Array Value → Addr → Pt → Prop} (hK : vx_Back l R p e below s args y 3 W9 Pre Post PostX)
    {g : JFrame} (hg : g.method = m) (hsize : g.locals.size = c.maxLocals) {argsL rest : List Value} (hlen : ∀ sig, parseMethodDescriptor y.desc = some sig → argsL.length = sig.parameters.length)
    (hstack : g.stack = argsL.reverse ++ rest) (hW : 2 * g.monitorRoom + (rest.map fun v => v.category).sum ≤ W9) (hdg : decode c.code g.pc = .ok (.invokestatic index, 3))
    (hpre : ∀ vm₁, s.WarmedH vm₁ → Pre ⟨T.setVm vm₁, locs, cells, slots⟩ argsL.toArray) :
    (∃ (v : Option Value) (vm₁ : Vm) (B : Pt), s.WarmedH vm₁ ∧ Stand p l e R s m args below meth c B.U B.locs B.cells B.slots ∧ Post ⟨T.setVm vm₁, locs, cells, slots⟩ argsL.toArray v B ∧
      ∀ target, Steps p.tables e below (B.U.setTop { g with pc := g.pc + 3, stack := v.toList ++ rest }) target → Steps p.tables e below (T.setTop g) target) ∨
    (∃ (q : Addr) (vm₁ : Vm) (B : Pt), s.WarmedH vm₁ ∧ Stand p l e R s m args below meth c B.U B.locs B.cells B.slots ∧ PostX ⟨T.setVm vm₁, locs, cells, slots⟩ argsL.toArray q B ∧
      Steps p.tables e below (T.setTop g) ((B.U.setTop { g with stack := rest }).pushFrame (.throwing q))) := by
  obtain ⟨mk, hnamed⟩ := Cond.code_named hcode
  obtain ⟨methM, cM, hmethM, -, -, -, -, -, -, hsigM⟩ := Cond.code_spec hnamed hcode
  have hstatic : methM.isStatic = true := Cond.static_spec hnamed hmethM hstat
  obtain ⟨kP, hkP, -⟩ := className_of_methodNamed hnamed
  have hinitP : kP.init = .initialized := Cond.initialized_spec (findClass_of_methodNamed hnamed) hkP hinit
  obtain ⟨vm₁, X₁, hstep₁⟩ := X.invokestatic hexec hown hlink hnamed hmethM hstatic hkP hinitP hy (g := g) hg (argsL := argsL) (rest := rest) (hlen _ hsigM) hstack hdg
  rcases hK m meth c ⟨T.setVm vm₁, locs, cells, slots⟩ { g with stack := rest } (.invokestatic index) mk argsL.toArray X₁ hg hsize hdg hW (X₁.named hnamed) (hpre vm₁ X₁.warmed) with ⟨v, B, X', hpost, hsteps⟩ | ⟨q, B, X', hpost, hsteps⟩
  · exact Or.inl ⟨v, vm₁, B, X₁.warmed, X', hpost, fun target h => hstep₁ _ fun acts => by rw [doInvoke_state]; exact hsteps.trans h⟩
  · exact Or.inr ⟨q, vm₁, B, X₁.warmed, X', hpost, hstep₁ _ fun acts => by rw [doInvoke_state]; exact hsteps⟩
end Calls
theorem vx_cls {s : State} {T : State} {vm₁ : Vm} {E : String} {k : ClassId} (hW : s.WarmedH vm₁) (h : (T.setVm vm₁).vm.findClass E = some k) : s.vm.findClass E = some k := by
  have h1 : vm₁.findClass E = some k := h
  rw [hW.alike.findClass] at h1
  exact h1
/-- the method's frame g, with q thrown over it -/
def vx_W (p : Program) (l : Launch) (e : Env) (R : Room) (s : State) (m : MethodId) (args : Array Value) (below : List Frame) (meth : Method) (c : Code) (H : Heap) (locs : List Loc) (cells slots : Nat) (Q : State → Prop) (g : JFrame) (q : Addr) : Prop :=
  ∀ T : State, T.heap = H → Stand p l e R s m args below meth c T locs cells slots → ∃ t, Steps p.tables e below ((T.setTop g).pushFrame (.throwing q)) t ∧ Q t
def vx_Run (p : Program) (l : Launch) (e : Env) (R : Room) (s : State) (m : MethodId) (args : Array Value) (below : List Frame) (meth : Method) (c : Code) (H : Heap) (locs : List Loc) (cells slots mc ms : Nat) (g : JFrame) (rest : List Value) (Qa : State → Outcome → State → Prop) (XC : String → State → State → Prop) (free : Addr → Prop) : Prop :=
  ∀ T : State, T.heap = H → Stand p l e R s m args below meth c T locs cells slots →
    (∃ (v : Option Value) (st₀ t T' : State) (L : List Loc), st₀.heap = H ∧ Stand p l e R s m args below meth c T' (locs ++ L) (cells + mc) (slots + ms) ∧ (∀ q ∈ L, free q.base) ∧ T'.heap = t.heap ∧ T'.vm = t.vm ∧ Qa st₀ (.returned v) t ∧
      Goes p e below T g T' { g with pc := g.pc + 3, stack := v.toList ++ rest }) ∨
    (∃ (q : Addr) (st₀ t T' : State) (L : List Loc) (E : String) (ce : Cell), st₀.heap = H ∧ Stand p l e R s m args below meth c T' (locs ++ L) (cells + mc) (slots + ms) ∧ (∀ z ∈ L, free z.base) ∧ T'.heap = t.heap ∧ T'.vm = t.vm ∧ XC E st₀ t ∧ t.heap[q]? = some ce ∧ ce.vm = .none ∧ s.vm.findClass E = some ce.cls ∧
      Steps p.tables e below (T.setTop g) ((T'.setTop { g with stack := rest }).pushFrame (.throwing q)))
def vx_X {S : Type} (px : S → Prop) (B : String → S → State → Prop) (A : Nat → Prop) : String → State → State → Prop := fun E st t => ∃ u : S, px u ∧ B E u t ∧ va_F A st t
section Runs
variable {p : Program} {l : Launch} {e : Env} {R : Room} {s : State} {m : MethodId} {args : Array Value} {below : List Frame} {meth : Method} {c : Code} {H : Heap} {locs : List Loc} {cells slots : Nat}
variable {y : MethodName} {bytes cc : ByteArray} {maxL nL mc ms n index : Nat} {ret : Option FieldType} {ws : List Cond} {rm : Room} {Pc : Array Value → State → Prop} {Qc : Array Value → State → Outcome → State → Prop} {XC : String → State → State → Prop} {free : Addr → Prop} {Ts : List Cond} {own C : String} {b : Addr} {As rest : List Value} {g : JFrame}
theorem vx_callBack (cb : CallB R s args own index y bytes maxL ret ws rm mc ms n) (hM : vx_Met l y ws rm Pc Qc XC mc ms free) (hbl : FrameBlind Pc) : vx_Back l R p e below s args y 3 8 (PreOf R mc ms Pc) (PostOf Qc mc ms free) (vx_Post XC mc ms free) := by
  obtain ⟨hrc, hrs, hfr, hlo, hws, hcw, -, hini, -⟩ := cb
  exact vx_back (bytes := bytes) (maxL := maxL) (ret := ret) hM hbl hrc hrs hfr hlo hws hcw (fun a' U hW => word_at hW (Or.inl (by first | rfl | simp [Cond.onTables, Cond.keeps, Cond.steady])) hini)
theorem vx_runV (S : CallFix p m c cc nL s args Ts own) (hM : vx_Met l y ws rm Pc Qc XC mc ms free) (cw : CallW R s args own C index y bytes maxL ret ws rm mc ms n) (hp : PreV s H C b Pc As)
    (hg : g.method = m) (hn : As.length = n) (hsize : g.locals.size = nL) (hstack : g.stack = As.reverse ++ .ref b :: rest) (hW : 2 * g.monitorRoom + (rest.map fun v => v.category).sum ≤ 8) (hdg : decode cc g.pc = .ok (.invokevirtual index, 3)) (hf : cells + mc ≤ R.cells ∧ slots + ms ≤ R.slots) :
    vx_Run p l e R s m args below meth c H locs cells slots mc ms g rest (Qc (Value.ref b :: As).toArray) XC free := by
  have hK : vx_Back l R p e below s args y 3 8 (PreOf R mc ms Pc) (PostOf Qc mc ms free) (vx_Post XC mc ms free) := vx_callBack cw.1 hM hp.1
  obtain ⟨⟨-, -, -, -, -, -, hcode, -, hy, hlen, hl⟩, hin, hse⟩ := cw
  obtain ⟨hx, hb, hml, ho, -⟩ := S
  obtain ⟨-, ⟨cellB, hcB, hoB, hclB⟩, hPc⟩ := hp
  intro T hT X
  rcases vx_callV X hx (C := C) (bytes := bytes) (maxL := maxL) (ret := ret) ho hl hin hse hcode hy hK (by rw [hT]; exact hcB) hoB hclB hg (hsize.trans hml.symm) (argsL := As) (rest := rest) (fun sig h => hn.trans (hlen sig h)) hstack hW (by rw [hb]; exact hdg)
    (fun vm₁ hW₁ => ⟨hf.1, hf.2, hPc (T.setVm vm₁) hT hW₁⟩) with ⟨v, vm₁, ⟨U', l2, c2, s2⟩, hW₁, X', ⟨g', mk, t, L, e1, e2, hq, h1, hL, h2, h3⟩, st⟩ | ⟨q, vm₁, ⟨U', l2, c2, s2⟩, hW₁, X', ⟨g', mk, t, L, E, ce, e1, e2, hq, hce, hcv, hcl, h1, hL, h2, h3⟩, st⟩
  · dsimp only [Pt.U, Pt.locs, Pt.cells, Pt.slots] at X' e1 e2 h1 h2 h3 st
    subst h1; subst h2; subst h3
    exact Or.inl ⟨v, (T.setVm vm₁).calling g' mk (Value.ref b :: As).toArray, t, U', L, hT, X', hL, e1, e2, hq, st⟩
  · dsimp only [Pt.U, Pt.locs, Pt.cells, Pt.slots] at X' e1 e2 h1 h2 h3 st hcl
    subst h1; subst h2; subst h3
    exact Or.inr ⟨q, (T.setVm vm₁).calling g' mk (Value.ref b :: As).toArray, t, U', L, E, ce, hT, X', hL, e1, e2, hq, hce, hcv, vx_cls hW₁ hcl, st⟩
theorem vx_runS (S : CallFix p m c cc nL s args Ts own) (hM : vx_Met l y ws rm Pc Qc XC mc ms free) (cw : CallB R s args own index y bytes maxL ret ws rm mc ms n ∧ (Cond.static y).before args s = true) (hp : PreS s H Pc As)
    (hg : g.method = m) (hn : As.length = n) (hsize : g.locals.size = nL) (hstack : g.stack = As.reverse ++ rest) (hW : 2 * g.monitorRoom + (rest.map fun v => v.category).sum ≤ 8) (hdg : decode cc g.pc = .ok (.invokestatic index, 3)) (hf : cells + mc ≤ R.cells ∧ slots + ms ≤ R.slots) :
    vx_Run p l e R s m args below meth c H locs cells slots mc ms g rest (Qc As.toArray) XC free := by
  have hK : vx_Back l R p e below s args y 3 8 (PreOf R mc ms Pc) (PostOf Qc mc ms free) (vx_Post XC mc ms free) := vx_callBack cw.1 hM hp.1
  obtain ⟨⟨-, -, -, -, -, -, hcode, hini, hy, hlen, hl⟩, hstt⟩ := cw
  obtain ⟨hx, hb, hml, ho, -⟩ := S
  intro T hT X
  rcases vx_callS X hx (bytes := bytes) (maxL := maxL) (ret := ret) ho hl hstt hini hcode hy hK hg (hsize.trans hml.symm) (argsL := As) (rest := rest) (fun sig h => hn.trans (hlen sig h)) hstack hW (by rw [hb]; exact hdg)
    (fun vm₁ hW₁ => ⟨hf.1, hf.2, hp.2 (T.setVm vm₁) hT hW₁⟩) with ⟨v, vm₁, ⟨U', l2, c2, s2⟩, hW₁, X', ⟨g', mk, t, L, e1, e2, hq, h1, hL, h2, h3⟩, st⟩ | ⟨q, vm₁, ⟨U', l2, c2, s2⟩, hW₁, X', ⟨g', mk, t, L, E, ce, e1, e2, hq, hce, hcv, hcl, h1, hL, h2, h3⟩, st⟩
  · dsimp only [Pt.U, Pt.locs, Pt.cells, Pt.slots] at X' e1 e2 h1 h2 h3 st
    subst h1; subst h2; subst h3
    exact Or.inl ⟨v, (T.setVm vm₁).calling g' mk As.toArray, t, U', L, hT, X', hL, e1, e2, hq, st⟩
  · dsimp only [Pt.U, Pt.locs, Pt.cells, Pt.slots] at X' e1 e2 h1 h2 h3 st hcl
    subst h1; subst h2; subst h3
    exact Or.inr ⟨q, (T.setVm vm₁).calling g' mk As.toArray, t, U', L, E, ce, hT, X', hL, e1, e2, hq, hce, hcv, vx_cls hW₁ hcl, st⟩
end Runs
section Rows
variable {p : Program} {l : Launch} {e : Env} {R : Room} {s : State} {m : MethodId} {args : Array Value} {below : List Frame} {meth : Method} {c : Code} {H : Heap} {locs : List Loc} {cells slots : Nat} {Q : State → Prop}
variable {mc ms : Nat} {free : Addr → Prop} {A0 A1 : Nat → Prop} {H0 : Heap} {a : Array Value} {pc : Nat} {ls : Array Slot} {st0 rest : List Value}
theorem vx_keep {st₀ t T' : State} {L : List Loc} (h0 : st₀.heap = H) (e1 : T'.heap = t.heap) (hS : va_S A0 H0 H locs) (hA : ∀ q, q < H.size → A1 q → A0 q) (hf : ∀ q, free q → A0 q) (hL : ∀ q ∈ L, free q.base) (hF : va_F A1 st₀ t) :
    H.size ≤ T'.heap.size ∧ (∀ q : Nat, q < H.size → ¬ A1 q → T'.heap[q]? = H[q]?) ∧ va_S A0 H0 T'.heap (locs ++ L) := by
  obtain ⟨hz, hk⟩ := hF
  rw [h0] at hz hk
  exact ⟨by rw [e1]; exact hz, fun q h1 h2 => by rw [e1]; exact hk q h1 h2,
    ⟨Nat.le_trans hS.1 (by rw [e1]; exact hz), fun q h1 h2 => by rw [e1, hk q (Nat.lt_of_lt_of_le h1 hS.1) (fun z => h2 (hA q (Nat.lt_of_lt_of_le h1 hS.1) z))]; exact hS.2.1 q h1 h2, fun q hq => by
      rcases List.mem_append.mp hq with h | h
      · exact hS.2.2 q h
      · exact hf _ (hL q h)⟩⟩
theorem vx_calli {S SX : Type} {post : Int32 → S → Prop} {px : SX → Prop} {B : S → State → Prop} {BX : String → SX → State → Prop} {AX : Nat → Prop} (hr : vx_Run p l e R s m args below meth c H locs cells slots mc ms (F0 m pc ls st0) rest (va_Qi post B A1 a) (vx_X px BX AX) free) (hS : va_S A0 H0 H locs) (hA : ∀ q, q < H.size → A1 q → A0 q) (hf : ∀ q, free q → A0 q) (hAX : ∀ q, q < H.size → AX q → A0 q)
    (kx : ∀ (E : String) (ce : Cell) (q9 : Addr) (u : SX) (t : State) (H1 : Heap) (locs1 : List Loc), t.heap = H1 → s.vm.Alike t.vm → px u → BX E u t → H.size ≤ H1.size → (∀ q : Nat, q < H.size → ¬ AX q → H1[q]? = H[q]?) → va_S A0 H0 H1 locs1 → H1[q9]? = some ce → ce.vm = .none → s.vm.findClass E = some ce.cls → vx_W p l e R s m args below meth c H1 locs1 (cells + mc) (slots + ms) Q (F0 m pc ls rest) q9)
    (kk : ∀ (r : Int32) (u : S) (t : State) (H1 : Heap) (locs1 : List Loc), t.heap = H1 → s.vm.Alike t.vm → post r u → B u t → H.size ≤ H1.size → (∀ q : Nat, q < H.size → ¬ A1 q → H1[q]? = H[q]?) → va_S A0 H0 H1 locs1 → W p l e R s m args below meth c H1 locs1 (cells + mc) (slots + ms) Q (F0 m (pc + 3) ls (.int r :: rest))) : W p l e R s m args below meth c H locs cells slots Q (F0 m pc ls st0) := by
  intro T hT X
  rcases hr T hT X with ⟨v, st₀, t, T', L, h0, X', hL, e1, e2, ⟨⟨r, u, hv, hp, hb⟩, hF⟩, st⟩ | ⟨q, st₀, t, T', L, E, ce, h0, X', hL, e1, e2, ⟨u, hp, hb, hF⟩, hce, hcv, hcl, st⟩
  · cases hv
    obtain ⟨k1, k2, k3⟩ := vx_keep h0 e1 hS hA hf hL hF
    obtain ⟨t2, a1, b1⟩ := kk r u t T'.heap (locs ++ L) e1.symm (by rw [← e2]; exact X'.warmed.alike) hp hb k1 k2 k3 T' rfl X'
    exact ⟨t2, st t2 a1, b1⟩
  · obtain ⟨k1, k2, k3⟩ := vx_keep h0 e1 hS hAX hf hL hF
    obtain ⟨t2, a1, b1⟩ := kx E ce q u t T'.heap (locs ++ L) e1.symm (by rw [← e2]; exact X'.warmed.alike) hp hb k1 k2 k3 (by rw [e1]; exact hce) hcv hcl T' rfl X'
    exact ⟨t2, st.trans a1, b1⟩
theorem vx_calll {S SX : Type} {post : Int64 → S → Prop} {px : SX → Prop} {B : S → State → Prop} {BX : String → SX → State → Prop} {AX : Nat → Prop} (hr : vx_Run p l e R s m args below meth c H locs cells slots mc ms (F0 m pc ls st0) rest (va_Ql post B A1 a) (vx_X px BX AX) free) (hS : va_S A0 H0 H locs) (hA : ∀ q, q < H.size → A1 q → A0 q) (hf : ∀ q, free q → A0 q) (hAX : ∀ q, q < H.size → AX q → A0 q)
    (kx : ∀ (E : String) (ce : Cell) (q9 : Addr) (u : SX) (t : State) (H1 : Heap) (locs1 : List Loc), t.heap = H1 → s.vm.Alike t.vm → px u → BX E u t → H.size ≤ H1.size → (∀ q : Nat, q < H.size → ¬ AX q → H1[q]? = H[q]?) → va_S A0 H0 H1 locs1 → H1[q9]? = some ce → ce.vm = .none → s.vm.findClass E = some ce.cls → vx_W p l e R s m args below meth c H1 locs1 (cells + mc) (slots + ms) Q (F0 m pc ls rest) q9)
    (kk : ∀ (r : Int64) (u : S) (t : State) (H1 : Heap) (locs1 : List Loc), t.heap = H1 → s.vm.Alike t.vm → post r u → B u t → H.size ≤ H1.size → (∀ q : Nat, q < H.size → ¬ A1 q → H1[q]? = H[q]?) → va_S A0 H0 H1 locs1 → W p l e R s m args below meth c H1 locs1 (cells + mc) (slots + ms) Q (F0 m (pc + 3) ls (.long r :: rest))) : W p l e R s m args below meth c H locs cells slots Q (F0 m pc ls st0) := by
  intro T hT X
  rcases hr T hT X with ⟨v, st₀, t, T', L, h0, X', hL, e1, e2, ⟨⟨r, u, hv, hp, hb⟩, hF⟩, st⟩ | ⟨q, st₀, t, T', L, E, ce, h0, X', hL, e1, e2, ⟨u, hp, hb, hF⟩, hce, hcv, hcl, st⟩
  · cases hv
    obtain ⟨k1, k2, k3⟩ := vx_keep h0 e1 hS hA hf hL hF
    obtain ⟨t2, a1, b1⟩ := kk r u t T'.heap (locs ++ L) e1.symm (by rw [← e2]; exact X'.warmed.alike) hp hb k1 k2 k3 T' rfl X'
    exact ⟨t2, st t2 a1, b1⟩
  · obtain ⟨k1, k2, k3⟩ := vx_keep h0 e1 hS hAX hf hL hF
    obtain ⟨t2, a1, b1⟩ := kx E ce q u t T'.heap (locs ++ L) e1.symm (by rw [← e2]; exact X'.warmed.alike) hp hb k1 k2 k3 (by rw [e1]; exact hce) hcv hcl T' rfl X'
    exact ⟨t2, st.trans a1, b1⟩
theorem vx_callf {S SX : Type} {post : UInt32 → S → Prop} {px : SX → Prop} {B : S → State → Prop} {BX : String → SX → State → Prop} {AX : Nat → Prop} (hr : vx_Run p l e R s m args below meth c H locs cells slots mc ms (F0 m pc ls st0) rest (va_Qf post B A1 a) (vx_X px BX AX) free) (hS : va_S A0 H0 H locs) (hA : ∀ q, q < H.size → A1 q → A0 q) (hf : ∀ q, free q → A0 q) (hAX : ∀ q, q < H.size → AX q → A0 q)
    (kx : ∀ (E : String) (ce : Cell) (q9 : Addr) (u : SX) (t : State) (H1 : Heap) (locs1 : List Loc), t.heap = H1 → s.vm.Alike t.vm → px u → BX E u t → H.size ≤ H1.size → (∀ q : Nat, q < H.size → ¬ AX q → H1[q]? = H[q]?) → va_S A0 H0 H1 locs1 → H1[q9]? = some ce → ce.vm = .none → s.vm.findClass E = some ce.cls → vx_W p l e R s m args below meth c H1 locs1 (cells + mc) (slots + ms) Q (F0 m pc ls rest) q9)
    (kk : ∀ (r : UInt32) (u : S) (t : State) (H1 : Heap) (locs1 : List Loc), t.heap = H1 → s.vm.Alike t.vm → post r u → B u t → H.size ≤ H1.size → (∀ q : Nat, q < H.size → ¬ A1 q → H1[q]? = H[q]?) → va_S A0 H0 H1 locs1 → W p l e R s m args below meth c H1 locs1 (cells + mc) (slots + ms) Q (F0 m (pc + 3) ls (.float r :: rest))) : W p l e R s m args below meth c H locs cells slots Q (F0 m pc ls st0) := by
  intro T hT X
  rcases hr T hT X with ⟨v, st₀, t, T', L, h0, X', hL, e1, e2, ⟨⟨r, u, hv, hp, hb⟩, hF⟩, st⟩ | ⟨q, st₀, t, T', L, E, ce, h0, X', hL, e1, e2, ⟨u, hp, hb, hF⟩, hce, hcv, hcl, st⟩
  · cases hv
    obtain ⟨k1, k2, k3⟩ := vx_keep h0 e1 hS hA hf hL hF
    obtain ⟨t2, a1, b1⟩ := kk r u t T'.heap (locs ++ L) e1.symm (by rw [← e2]; exact X'.warmed.alike) hp hb k1 k2 k3 T' rfl X'
    exact ⟨t2, st t2 a1, b1⟩
  · obtain ⟨k1, k2, k3⟩ := vx_keep h0 e1 hS hAX hf hL hF
    obtain ⟨t2, a1, b1⟩ := kx E ce q u t T'.heap (locs ++ L) e1.symm (by rw [← e2]; exact X'.warmed.alike) hp hb k1 k2 k3 (by rw [e1]; exact hce) hcv hcl T' rfl X'
    exact ⟨t2, st.trans a1, b1⟩
theorem vx_calld {S SX : Type} {post : UInt64 → S → Prop} {px : SX → Prop} {B : S → State → Prop} {BX : String → SX → State → Prop} {AX : Nat → Prop} (hr : vx_Run p l e R s m args below meth c H locs cells slots mc ms (F0 m pc ls st0) rest (va_Qd post B A1 a) (vx_X px BX AX) free) (hS : va_S A0 H0 H locs) (hA : ∀ q, q < H.size → A1 q → A0 q) (hf : ∀ q, free q → A0 q) (hAX : ∀ q, q < H.size → AX q → A0 q)
    (kx : ∀ (E : String) (ce : Cell) (q9 : Addr) (u : SX) (t : State) (H1 : Heap) (locs1 : List Loc), t.heap = H1 → s.vm.Alike t.vm → px u → BX E u t → H.size ≤ H1.size → (∀ q : Nat, q < H.size → ¬ AX q → H1[q]? = H[q]?) → va_S A0 H0 H1 locs1 → H1[q9]? = some ce → ce.vm = .none → s.vm.findClass E = some ce.cls → vx_W p l e R s m args below meth c H1 locs1 (cells + mc) (slots + ms) Q (F0 m pc ls rest) q9)
    (kk : ∀ (r : UInt64) (u : S) (t : State) (H1 : Heap) (locs1 : List Loc), t.heap = H1 → s.vm.Alike t.vm → post r u → B u t → H.size ≤ H1.size → (∀ q : Nat, q < H.size → ¬ A1 q → H1[q]? = H[q]?) → va_S A0 H0 H1 locs1 → W p l e R s m args below meth c H1 locs1 (cells + mc) (slots + ms) Q (F0 m (pc + 3) ls (.double r :: rest))) : W p l e R s m args below meth c H locs cells slots Q (F0 m pc ls st0) := by
  intro T hT X
  rcases hr T hT X with ⟨v, st₀, t, T', L, h0, X', hL, e1, e2, ⟨⟨r, u, hv, hp, hb⟩, hF⟩, st⟩ | ⟨q, st₀, t, T', L, E, ce, h0, X', hL, e1, e2, ⟨u, hp, hb, hF⟩, hce, hcv, hcl, st⟩
  · cases hv
    obtain ⟨k1, k2, k3⟩ := vx_keep h0 e1 hS hA hf hL hF
    obtain ⟨t2, a1, b1⟩ := kk r u t T'.heap (locs ++ L) e1.symm (by rw [← e2]; exact X'.warmed.alike) hp hb k1 k2 k3 T' rfl X'
    exact ⟨t2, st t2 a1, b1⟩
  · obtain ⟨k1, k2, k3⟩ := vx_keep h0 e1 hS hAX hf hL hF
    obtain ⟨t2, a1, b1⟩ := kx E ce q u t T'.heap (locs ++ L) e1.symm (by rw [← e2]; exact X'.warmed.alike) hp hb k1 k2 k3 (by rw [e1]; exact hce) hcv hcl T' rfl X'
    exact ⟨t2, st.trans a1, b1⟩
theorem vx_callv {S SX : Type} {post : S → Prop} {px : SX → Prop} {B : S → State → Prop} {BX : String → SX → State → Prop} {AX : Nat → Prop} (hr : vx_Run p l e R s m args below meth c H locs cells slots mc ms (F0 m pc ls st0) rest (va_Qv post B A1 a) (vx_X px BX AX) free) (hS : va_S A0 H0 H locs) (hA : ∀ q, q < H.size → A1 q → A0 q) (hf : ∀ q, free q → A0 q) (hAX : ∀ q, q < H.size → AX q → A0 q)
    (kx : ∀ (E : String) (ce : Cell) (q9 : Addr) (u : SX) (t : State) (H1 : Heap) (locs1 : List Loc), t.heap = H1 → s.vm.Alike t.vm → px u → BX E u t → H.size ≤ H1.size → (∀ q : Nat, q < H.size → ¬ AX q → H1[q]? = H[q]?) → va_S A0 H0 H1 locs1 → H1[q9]? = some ce → ce.vm = .none → s.vm.findClass E = some ce.cls → vx_W p l e R s m args below meth c H1 locs1 (cells + mc) (slots + ms) Q (F0 m pc ls rest) q9)
    (kk : ∀ (u : S) (t : State) (H1 : Heap) (locs1 : List Loc), t.heap = H1 → s.vm.Alike t.vm → post u → B u t → H.size ≤ H1.size → (∀ q : Nat, q < H.size → ¬ A1 q → H1[q]? = H[q]?) → va_S A0 H0 H1 locs1 → W p l e R s m args below meth c H1 locs1 (cells + mc) (slots + ms) Q (F0 m (pc + 3) ls (rest))) : W p l e R s m args below meth c H locs cells slots Q (F0 m pc ls st0) := by
  intro T hT X
  rcases hr T hT X with ⟨v, st₀, t, T', L, h0, X', hL, e1, e2, ⟨⟨u, hv, hp, hb⟩, hF⟩, st⟩ | ⟨q, st₀, t, T', L, E, ce, h0, X', hL, e1, e2, ⟨u, hp, hb, hF⟩, hce, hcv, hcl, st⟩
  · cases hv
    obtain ⟨k1, k2, k3⟩ := vx_keep h0 e1 hS hA hf hL hF
    obtain ⟨t2, a1, b1⟩ := kk u t T'.heap (locs ++ L) e1.symm (by rw [← e2]; exact X'.warmed.alike) hp hb k1 k2 k3 T' rfl X'
    exact ⟨t2, st t2 a1, b1⟩
  · obtain ⟨k1, k2, k3⟩ := vx_keep h0 e1 hS hAX hf hL hF
    obtain ⟨t2, a1, b1⟩ := kx E ce q u t T'.heap (locs ++ L) e1.symm (by rw [← e2]; exact X'.warmed.alike) hp hb k1 k2 k3 (by rw [e1]; exact hce) hcv hcl T' rfl X'
    exact ⟨t2, st.trans a1, b1⟩
/-- caught by the row x of this method's table; the rows ahead don't take it -/
theorem vx_catch {own name : String} {E : String} {ce : Cell} {q : Addr} (hown : s.vm.findClass own = some m.cls) (pre : List ExceptionTableEntry) (x : ExceptionTableEntry) (suf : List ExceptionTableEntry) (hsplit : c.exceptionTable.toList = pre ++ x :: suf)
    (hpass : ∀ z ∈ pre, covers z pc = false ∨ (z.catchType ≠ 0 ∧ ∃ nm : String, (Cond.classLink own z.catchType nm).before args s = true ∧ va_Nc E nm s)) (hx : covers x pc = true) (h0 : x.catchType ≠ 0)
    (hlink : (Cond.classLink own x.catchType name).before args s = true) (hcast : (Cond.castable E name).before args s = true) (hcell : H[q]? = some ce) (hv : ce.vm = .none) (hcl : s.vm.findClass E = some ce.cls)
    (kk : W p l e R s m args below meth c H locs cells slots Q (F0 m x.handlerPc ls [.ref q])) : vx_W p l e R s m args below meth c H locs cells slots Q (F0 m pc ls rest) q := by
  intro T hT X
  have hpl : e.platform.magicAccessors = ({} : Platform).magicAccessors := by rw [X.admits.platform]
  obtain ⟨c3, c4, hc3, hc4, hasg⟩ := Cond.castable_spec hcast
  cases Option.some.inj (hc3.symm.trans hcl)
  obtain ⟨c5, hc5, hcl5⟩ := Cond.classLink_spec hown hlink e.platform hpl
  cases Option.some.inj (hc4.symm.trans hc5)
  obtain ⟨vm', X', st⟩ := X.thenCaughtThrough q (g := F0 m pc ls rest) rfl (Steps.refl _) (by rw [hT]; exact hcell) (by rw [hv]; rfl) (by obtain ⟨k9, h9, -⟩ := Vm.findClass_spec hcl; exact ⟨k9, h9⟩) pre x suf hsplit
    (fun z hz => by
      rcases hpass z hz with h | ⟨hz0, nm, hl1, hn1⟩
      · exact Or.inl h
      · obtain ⟨c6, hc6, hcl6⟩ := Cond.classLink_spec hown hl1 e.platform hpl
        obtain ⟨a8, b8, h1, h2, h3⟩ := hn1
        cases Option.some.inj (h1.symm.trans hcl)
        cases Option.some.inj (h2.symm.trans hc6)
        exact Or.inr ⟨hz0, _, hcl6, h3⟩) hx (Or.inr ⟨h0, c4, hcl5, hasg⟩)
  obtain ⟨t, a1, b1⟩ := kk (T.setVm vm') hT X'
  exact ⟨t, st.trans a1, b1⟩
end Rows
section Ends
variable {p : Program} {l : Launch} {e : Env} {R : Room} {s : State} {m : MethodId} {args : Array Value} {below : List Frame} {meth : Method} {c : Code} {H : Heap} {locs : List Loc} {cells slots : Nat} {Q : State → Prop}
variable {mc ms : Nat} {free : Addr → Prop} {A0 A1 : Nat → Prop} {H0 : Heap} {a : Array Value} {ls : Array Slot} {st0 rest : List Value}
variable {Qc : Array Value → State → Outcome → State → Prop} {XC : String → State → State → Prop}
/-- what a body that may throw owes at its end -/
def vx_MQ (below : List Frame) (Qc : Array Value → State → Outcome → State → Prop) (XC : String → State → State → Prop) (a : Array Value) (s : State) (mc ms : Nat) (free : Addr → Prop) : State → Prop := fun t =>
  ∃ o, t.status = .running ∧ Ended t below o ∧ vx_Q Qc XC mc ms free a s o t
theorem vx_ret {g : JFrame} {mc ms : Nat} (k : W p l e R s m args below meth c H locs cells slots (MQ below Qc args s mc ms free) g) : W p l e R s m args below meth c H locs cells slots (vx_MQ below Qc XC args s mc ms free) g := by
  intro T hT X
  obtain ⟨t, a1, o, b1, b2, b3, b4⟩ := k T hT X
  exact ⟨t, a1, o, b1, b2, Or.inl ⟨b3, b4⟩⟩
/-- not caught here: it goes on to the caller -/
theorem vx_widen {g : JFrame} {q : Addr} {k n : Nat} (h1 : cells ≤ k) (h2 : slots ≤ n) (kk : vx_W p l e R s m args below meth c H locs k n Q g q) : vx_W p l e R s m args below meth c H locs cells slots Q g q := fun T hT X => kk T hT (stand_widen X h1 h2)
theorem vx_out {pc : Nat} {E : String} {ce : Cell} {q : Addr} {mc ms : Nat} (hout : ∀ x ∈ c.exceptionTable.toList, covers x pc = false) (hlocks : meth.locks = false) (hcell : H[q]? = some ce) (hv : ce.vm = .none) (hcl : s.vm.findClass E = some ce.cls)
    (hx : ∀ t : State, t.heap = H → s.vm.Alike t.vm → XC E s t) (hf : ∀ z ∈ locs, free z.base) (hc : cells ≤ mc) (hs : slots ≤ ms) :
    vx_W p l e R s m args below meth c H locs cells slots (vx_MQ below Qc XC args s mc ms free) (F0 m pc ls rest) q := by
  intro T hT X
  obtain ⟨st1, hrun, hend, hW, hsm⟩ := X.leaveThrown q (g := F0 m pc ls rest) rfl rfl rfl hout hlocks
  have hcell9 : (T.setFrames (.throwing q :: below)).heap[q]? = some ce := by
    show T.heap[q]? = some ce
    rw [hT]; exact hcell
  exact ⟨_, st1, .threw q, hrun, hend, Or.inr ⟨q, rfl, E, ce, locs, hx _ hT hW.alike, hcell9, hv, hcl, hW, hsm.mono hc hs, hf⟩⟩
theorem vx_frame {U : State} {k n : Nat} (h : s.sameButNew ({ U with vm := s.vm } : State) locs k n) : s.heap.size ≤ U.heap.size ∧ ∀ q : Nat, q < s.heap.size → (∀ z ∈ locs, z.base ≠ q) → U.heap[q]? = s.heap[q]? := by
  obtain ⟨-, h2, -, -, -, h6⟩ := h
  refine ⟨h2, fun q hq hz => ?_⟩
  obtain ⟨c9, e1, e2, e3, e4⟩ := h6 q _ (Array.getElem?_eq_getElem hq)
  have hs : c9.slots = (s.heap[q]).slots := Array.ext_getElem? fun i => e4 i fun hm => hz _ hm rfl
  have h9 : c9 = s.heap[q] := by
    rw [hs] at e2
    exact e2
  have e5 : U.heap[q]? = some c9 := e1
  rw [e5, h9, Array.getElem?_eq_getElem hq]
/-- the words of a throw but the four that speak of the heap -/
def vx_no (w : Cond) : Bool := decide (w ≠ .isRef (.static Bundle.tN "UNASSIGNED_STACK" Bundle.steD)) && decide (w ≠ .isRef (.static Bundle.tN "SUPPRESSED_SENTINEL" Bundle.listD)) && decide (w ≠ .laysStatic Bundle.tN "UNASSIGNED_STACK" Bundle.steD) && decide (w ≠ .laysStatic Bundle.tN "SUPPRESSED_SENTINEL" Bundle.listD)
def vx_at0 (own : String) (ic : Nat) (X : String) (names : List String) : List Cond := (Bundle.ownAtoms0 own ic X names).filter vx_no
def vx_atS (own : String) (ic : Nat) (X : String) (names : List String) : List Cond := (Bundle.ownAtoms own ic X names).filter vx_no
/-- a word that the tables alone decide, or a good one -/
def vx_ot (w : Cond) : Bool := w.onTables || goodWord w
theorem vx_ot_at {args a' : Array Value} {s U : State} {w : Cond} (hW : s.WarmedH U.vm) (hvm : s.vm = U.vm) (hg : vx_ot w = true) (h : w.before args s = true) : w.before a' U = true := by
  simp only [vx_ot, Bool.or_eq_true] at hg
  rcases hg with hg | hg
  · exact va_tabs hg hvm h
  · exact word_at hW (good_of_word hg) h
/-- a list's words: the good ones out of the method's own list, the others by premises of their own -/
theorem vx_hat {args : Array Value} {s : State} {L B : List Cond} (h1 : ∀ w ∈ L.filter goodWord, w.before args s = true) (h2 : ∀ w ∈ L.filter (fun w => !goodWord w), w ∈ B) (h3 : ∀ w ∈ B, w.before args s = true) : ∀ w ∈ L, w.before args s = true := by
  intro w hw
  by_cases g : goodWord w = true
  · exact h1 w (List.mem_filter.mpr ⟨hw, g⟩)
  · refine h3 w (h2 w (List.mem_filter.mpr ⟨hw, ?_⟩))
    show (!goodWord w) = true
    cases hgw : goodWord w
    · rfl
    · exact absurd hgw g
theorem vx_c {args : Array Value} {s : State} {w : Cond} {B : List Cond} (h : w.before args s = true) (t : ∀ w ∈ B, w.before args s = true) : ∀ w' ∈ w :: B, w'.before args s = true := fun w' h' => (List.mem_cons.mp h').elim (fun e => by rw [e]; exact h) (t w')
theorem vx_n {args : Array Value} {s : State} : ∀ w ∈ ([] : List Cond), w.before args s = true := fun _ h => nomatch h
theorem vx_own {args : Array Value} {s : State} {L : List Cond} (h1 : ∀ w ∈ L.filter vx_no, w.before args s = true)
    (hU : (Cond.isRef (.static Bundle.tN "UNASSIGNED_STACK" Bundle.steD)).before args s = true) (hN : (Cond.isRef (.static Bundle.tN "SUPPRESSED_SENTINEL" Bundle.listD)).before args s = true)
    (lU : (Cond.laysStatic Bundle.tN "UNASSIGNED_STACK" Bundle.steD).before args s = true) (lN : (Cond.laysStatic Bundle.tN "SUPPRESSED_SENTINEL" Bundle.listD).before args s = true) : ∀ w ∈ L, w.before args s = true := by
  intro w hw
  by_cases e1 : w = .isRef (.static Bundle.tN "UNASSIGNED_STACK" Bundle.steD)
  · rw [e1]; exact hU
  · by_cases e2 : w = .isRef (.static Bundle.tN "SUPPRESSED_SENTINEL" Bundle.listD)
    · rw [e2]; exact hN
    · by_cases e3 : w = .laysStatic Bundle.tN "UNASSIGNED_STACK" Bundle.steD
      · rw [e3]; exact lU
      · by_cases e4 : w = .laysStatic Bundle.tN "SUPPRESSED_SENTINEL" Bundle.listD
        · rw [e4]; exact lN
        · exact h1 w (List.mem_filter.mpr ⟨hw, by unfold vx_no; rw [decide_eq_true e1, decide_eq_true e2, decide_eq_true e3, decide_eq_true e4]; rfl⟩)
/-- where a static field lies, its class's statics cell in H -/
def vx_L (C n d : String) (A : Nat → Prop) (U : State) (H : Heap) : Prop := ∃ (c : ClassId) (k : Class) (i : Nat) (f : Field) (a : Nat) (cell : Cell), U.vm.findClass C = some c ∧ U.fieldFound? C n d = some (c, k, i, f) ∧ f.isStatic = true ∧ k.statics = some a ∧ H[a]? = some cell ∧ cell.vm.isStatics = true ∧ cell.cls = c ∧ f.slot < cell.slots.size ∧ k.staticTypes[f.slot]? = some f.type ∧ ¬ A a
theorem vx_L.moved {C n d : String} {A : Nat → Prop} {u U : State} {H : Heap} (hvm : u.vm.Alike U.vm) (h : vx_L C n d A u H) : vx_L C n d A U H := by
  obtain ⟨c, k, i, f, a, cell, h1, h2, h3, h4, h5, h6, h7, h8, h9, h10⟩ := h
  obtain ⟨k', hi', he⟩ := State.fieldFound?_setVm hvm h2
  exact ⟨c, k', i, f, a, cell, by rw [hvm.findClass]; exact h1, hi', h3, by rw [he]; exact h4, h5, h6, h7, h8, by rw [he]; exact h9, h10⟩
theorem vx_L.kept {C n d : String} {A : Nat → Prop} {U : State} {H H1 : Heap} (h : vx_L C n d A U H) (hq : ∀ a : Nat, a < H.size → ¬ A a → H1[a]? = H[a]?) : vx_L C n d A U H1 := by
  obtain ⟨c, k, i, f, a, cell, h1, h2, h3, h4, h5, h6, h7, h8, h9, h10⟩ := h
  exact ⟨c, k, i, f, a, cell, h1, h2, h3, h4, by rw [hq a (Array.getElem?_eq_some_iff.mp h5).1 h10]; exact h5, h6, h7, h8, h9, h10⟩
theorem vx_L.narrow {C n d : String} {A B : Nat → Prop} {U : State} {H : Heap} (h : vx_L C n d A U H) (hAB : ∀ q, B q → A q) : vx_L C n d B U H := by
  obtain ⟨c, k, i, f, a, cell, h1, h2, h3, h4, h5, h6, h7, h8, h9, h10⟩ := h
  exact ⟨c, k, i, f, a, cell, h1, h2, h3, h4, h5, h6, h7, h8, h9, fun z => h10 (hAB _ z)⟩
theorem vx_L.word {C n d : String} {A : Nat → Prop} {s : State} {args : Array Value} (h : vx_L C n d A s s.heap) : (Cond.laysStatic C n d).before args s = true := by
  obtain ⟨c, k, i, f, a, cell, h1, h2, h3, h4, h5, h6, h7, h8, h9, -⟩ := h
  show (Cond.laysStatic C n d).holds args s none s [] = true
  exact Cond.laysStatic_of h1 h2 h3 h4 h5 h6 h7 h8 h9
/-- .. and what it holds: null or some reference -/
def vx_Zq (C n d : String) (A : Nat → Prop) (U : State) (H : Heap) : Prop := va_Zq C n d A U H ∧ vx_L C n d A U H
theorem vx_Zq.moved {C n d : String} {A : Nat → Prop} {u U : State} {H : Heap} (hvm : u.vm.Alike U.vm) (h : vx_Zq C n d A u H) : vx_Zq C n d A U H := ⟨va_Zq.moved hvm h.1, vx_L.moved hvm h.2⟩
theorem vx_Zq.kept {C n d : String} {A : Nat → Prop} {U : State} {H H1 : Heap} (h : vx_Zq C n d A U H) (hq : ∀ a : Nat, a < H.size → ¬ A a → H1[a]? = H[a]?) : vx_Zq C n d A U H1 := ⟨va_Zq.kept h.1 hq, vx_L.kept h.2 hq⟩
theorem vx_Zq.narrow {C n d : String} {A B : Nat → Prop} {U : State} {H : Heap} (h : vx_Zq C n d A U H) (hAB : ∀ q, B q → A q) : vx_Zq C n d B U H := ⟨va_Zq.narrow h.1 hAB, vx_L.narrow h.2 hAB⟩
theorem vx_Zqof {args : Array Value} {s : State} {C n d : String} {A : Nat → Prop} (hl : (Cond.laysStatic C n d).before args s = true) (hini : (Cond.initialized C).before args s = true) (h : (Cond.isRef (.static C n d)).before args s = true) (hA : ∀ a : Nat, a < s.heap.size → ¬ A a) : vx_Zq C n d A s s.heap := by
  refine ⟨va_Zqof hl hini h hA, ?_⟩
  obtain ⟨c, k, i, f, a, cell, h1, h2, h3, h4, h5, h6, h7, h8, h9⟩ := Cond.laysStatic_spec hl
  exact ⟨c, k, i, f, a, cell, h1, h2, h3, h4, h5, h6, h7, h8, h9, hA a (Array.getElem?_eq_some_iff.mp h5).1⟩
theorem vx_isRef {C n d : String} {v : Value} {A : Nat → Prop} {s : State} {args : Array Value} (h : va_Z C n d v A s s.heap) (hv : v.isRef = true) : (Cond.isRef (.static C n d)).before args s = true := by
  obtain ⟨cf, kf, fi, f, a, cell, h1, h2, h3, h4, h5, h6, h7, -⟩ := h
  have he : (Term.static C n d).eval args s none [] s = some v := by
    simp [Term.eval, State.fieldNamed?, h1, h2, h4, h5, h6, h7]
  simp only [Cond.before, Cond.holds, Cond.value, he]
  cases v <;> simp_all [Value.isRef]
theorem vx_isRefq {C n d : String} {A : Nat → Prop} {s : State} {args : Array Value} (h : va_Zq C n d A s s.heap) : (Cond.isRef (.static C n d)).before args s = true := by
  rcases h with h | ⟨t, h⟩
  · exact vx_isRef h rfl
  · exact vx_isRef h rfl
/-- the same frame, seen from here: as if the method were called anew in this heap -/
theorem vx_rebase {T : State} (X : Stand p l e R s m args below meth c T locs cells slots) {R' : Room} (hf : R'.frames ≤ R.frames) (hl : R'.locals ≤ R.locals) (hc : cells + R'.cells ≤ R.cells) (hs : slots + R'.slots ≤ R.slots) :
    Stand p l e R' ((T.setVm s.vm).setFrames (.invoking m args :: below)) m args below meth c T [] 0 0 := by
  have htop : (T.setVm s.vm).topJava?.isSome := X.here.top
  have hF : ((T.setVm s.vm).setFrames (.invoking m args :: below)).frames = .invoking m args :: below := State.frames_setFrames _ (State.cur_lt_of_top htop)
  obtain ⟨g₀, hg0⟩ := Option.isSome_iff_exists.mp htop
  obtain ⟨r, hr⟩ := State.topJava?_eq_some.mp hg0
  have hl9 : e.platform.stackLimits (T.setVm s.vm).me = e.platform.stackLimits s.me := X.limits
  have hb9 : (T.setVm s.vm).me.stackBytes = s.me.stackBytes := X.bytes
  refine ⟨X.admits, X.cas, X.clock, hF, ?_, X.hears, X.method, X.code, X.here, X.tail, X.warmed, ?_, ?_, ?_⟩
  · have h := X.room
    have hU : ((T.setVm s.vm).setFrames (.invoking m args :: below)).localsInUse = s.localsInUse := by
      rw [State.localsInUse_invoking hF (meth := meth) (c := c) X.method X.code, State.localsInUse_invoking X.frames X.method X.code]
    simp only [State.hasRoom, Bool.and_eq_true, decide_eq_true_eq] at h ⊢
    obtain ⟨⟨⟨⟨h1, h2, h3, h4, h5, h6⟩, h7⟩, h8⟩, h9⟩ := h
    rw [X.frames, List.length_cons] at h2 h3
    have q1 := X.heapSize
    have q2 := X.used
    simp only [hF, hU, List.length_cons, State.stackLimits_setFrames, State.stackBytes_setFrames, hl9, hb9]
    refine ⟨⟨⟨⟨by omega, by omega, by omega, by omega, by omega, h6⟩, ?_⟩, ?_⟩, X.book⟩
    · show T.heap.size + R'.cells ≤ e.platform.maxCells
      omega
    · show T.slotsUsed + R'.slots ≤ e.platform.maxSlots
      omega
  · rw [State.stackLimits_setFrames]; rfl
  · rw [State.stackBytes_setFrames]; rfl
  · refine ⟨?_, Nat.le_refl _, Nat.le_refl _, ?_, ?_, fun a c9 h9 => ⟨c9, h9, rfl, rfl, fun _ _ => rfl⟩⟩
    · obtain ⟨t, ht, -⟩ := State.frames_cons hr
      show T.setVm s.vm = { ((T.setVm s.vm).setFrames (.invoking m args :: below)).setFrames (T.setVm s.vm).frames with heap := T.heap, slotsUsed := T.slotsUsed }
      rw [State.setFrames_setFrames, State.setFrames_self ht]
      rfl
    · show T.slotsUsed = T.slotsUsed + ((T.heap.toList.drop T.heap.size).map (·.slots.size)).sum
      rw [List.drop_eq_nil_of_le (Nat.le_of_eq Array.length_toList)]
      rfl
    · show ((T.heap.toList.drop T.heap.size).map (·.slots.size)).sum ≤ 0
      rw [List.drop_eq_nil_of_le (Nat.le_of_eq Array.length_toList)]
      exact Nat.le_refl _
/-- 'throw new E()': new; dup; invokespecial; athrow -/
theorem vx_throw0 {cc : ByteArray} {pc : Nat} (hexec : p.tables.exec = Jvm.exec) (hb : c.code = cc) (hl : l.stackTraces = false) {own cls : String} {names : List String} {ik ic mc ms : Nat} {A : Nat → Prop}
    (hown : s.vm.findClass own = some m.cls) (hcls : Bundle.fit cls = true) (hnames : ∀ n ∈ names, Bundle.fit n = true)
    (hk : (Cond.classLink own ik cls).before args s = true) (hini : (Cond.initialized cls).before args s = true) (hat : ∀ w ∈ vx_at0 own ic cls names, w.before args s = true)
    (hgood : ∀ w ∈ Cond.classLink own ik cls :: Cond.initialized cls :: vx_at0 own ic cls names, vx_ot w = true)
    (hU : vx_Zq Bundle.tN "UNASSIGNED_STACK" Bundle.steD A s s.heap) (hN : vx_Zq Bundle.tN "SUPPRESSED_SENTINEL" Bundle.listD A s s.heap) (hS : va_S A s.heap H locs) (hsize : ls.size = c.maxLocals)
    (d0 : decode cc pc = .ok (.new ik, 3)) (d3 : decode cc (pc + 3) = .ok (.dup, 1)) (d4 : decode cc (pc + 4) = .ok (.invokespecial ic, 3)) (d7 : decode cc (pc + 7) = .ok (.athrow, 1))
    (hout : ∀ x ∈ c.exceptionTable.toList, covers x (pc + 7) = false)
    (hRframes : names.length + 3 < R.frames) (hRlocals : (rest.map fun v => v.category).sum + (13 * (names.length + 1) + 42) ≤ R.locals) (hRcells : cells + 1 ≤ R.cells) (hRslots : slots + 6 ≤ R.slots) (hlocks : meth.locks = false)
    (hx : ∀ t : State, s.vm.Alike t.vm → H.size ≤ t.heap.size → (∀ q : Nat, q < H.size → t.heap[q]? = H[q]?) → XC cls s t)
    (hf : ∀ z ∈ locs, free z.base) (hc : cells + 1 ≤ mc) (hs : slots + 6 ≤ ms) :
    W p l e R s m args below meth c H locs cells slots (vx_MQ below Qc XC args s mc ms free) (F0 m pc ls rest) := by
  intro T hT X
  have htr : e.platform.stackTraces = false := (show e.platform.stackTraces = l.stackTraces by rw [X.admits.platform]).trans hl
  have Y := vx_rebase X (R' := { frames := R.frames, locals := R.locals, cells := 1, slots := 6 }) (Nat.le_refl _) (Nat.le_refl _) hRcells hRslots
  obtain ⟨s', hA⟩ : ∃ z, z = (T.setVm s.vm).setFrames (.invoking m args :: below) := ⟨_, rfl⟩
  rw [← hA] at Y
  have hvm : s'.vm = s.vm := by rw [hA]; rfl
  have hhp : s'.heap = H := by rw [hA]; exact hT
  have hW0 : s.WarmedH s'.vm := by rw [hvm]; exact State.WarmedH.refl s
  have hat' : ∀ w ∈ vx_at0 own ic cls names, w.before args s' = true := fun w hw => vx_ot_at hW0 hvm.symm (hgood w (List.mem_cons_of_mem _ (List.mem_cons_of_mem _ hw))) (hat w hw)
  have hk' : (Cond.classLink own ik cls).before args s' = true := vx_ot_at hW0 hvm.symm (hgood _ List.mem_cons_self) hk
  have hini' : (Cond.initialized cls).before args s' = true := vx_ot_at hW0 hvm.symm (hgood _ (List.mem_cons_of_mem _ List.mem_cons_self)) hini
  have hU' : vx_Zq Bundle.tN "UNASSIGNED_STACK" Bundle.steD A s' s'.heap := by rw [hhp]; exact vx_Zq.moved hW0.alike (hU.kept hS.2.1)
  have hN' : vx_Zq Bundle.tN "SUPPRESSED_SENTINEL" Bundle.listD A s' s'.heap := by rw [hhp]; exact vx_Zq.moved hW0.alike (hN.kept hS.2.1)
  have h : ∀ w ∈ Bundle.ownAtoms0 own ic cls names, w.before args s' = true := vx_own hat' (vx_isRefq hU'.1) (vx_isRefq hN'.1) hU'.2.word hN'.2.word
  have hown' : s'.vm.findClass own = some m.cls := by rw [hvm]; exact hown
  have hins : (Cond.instantiable cls 6).before args s' = true := h _ (by simp [Bundle.ownAtoms0])
  obtain ⟨vm₁, cX, kX, hfX, hkX, -, -, X₁, st1⟩ := Y.newCold hexec (own := own) (C := cls) (index := ik) (n := 6) hown' hk' hins hini'
    (g := F0 m pc ls rest) rfl (by rw [hb]; exact d0) (Nat.le_refl _) (Nat.le_refl _)
  generalize hT1 : (T.setVm vm₁).pushCell { cls := cX, slots := kX.instanceTypes.map defaultValue, vm := .none } = T1 at X₁ st1
  have hcat : (Value.ref T.heap.size).category = 1 := rfl
  have hcellA : T1.heap[T.heap.size]? = some (freshCell cX kX) := by rw [← hT1]; exact State.heap_pushCell_size _ _
  have d3' : decode c.code (pc + 3) = .ok (.dup, 1) := by rw [hb]; exact d3
  obtain ⟨U, hsteps, hrun, hend, hW, hsame, ce, hce, hO⟩ := X₁.ctorThrow0 hexec htr (own := own) (cls := cls) (names := names) (ic := ic) hown' hcls hnames h (fun x hx => nomatch hx) hfX hkX hcellA (by rw [hhp, hT]; exact Nat.le_refl _)
    (g := { method := m, pc := pc + 4, locals := ls, stack := .ref T.heap.size :: .ref T.heap.size :: rest, locked := none }) rfl hsize rfl rfl (rest := rest) rfl
    (by rw [hb]; exact d4) (by rw [hb]; exact d7) hout hRframes (by simp only [List.map_cons, List.sum_cons, hcat]; omega) hlocks
  obtain ⟨f1, f2⟩ := vx_frame hsame
  rw [hhp] at f1 f2
  have hWs : s.WarmedH U.vm := State.WarmedH.trans hW0 hW
  have hcl : s.vm.findClass cls = some ce.cls := by
    have h9 := hO.cls
    rw [hvm] at h9
    exact h9
  have hall : s.sameButNew ({ U with vm := s.vm } : State) locs mc ms := by
    subst hA
    obtain ⟨e1, e2⟩ := hsame
    rw [State.setFrames_setFrames] at e1
    have h2 : (T.setVm s.vm).sameButNew ({ U with vm := s.vm } : State) [] (0 + 1) (0 + 6) := ⟨e1, e2⟩
    have h3 := X.same.trans h2
    rw [List.append_nil] at h3
    exact h3.mono hc hs
  refine ⟨U, ?_, .threw T.heap.size, hrun, hend, Or.inr ⟨T.heap.size, rfl, cls, ce, locs, hx U hWs.alike f1 (fun q hq => f2 q hq (fun z hz => nomatch hz)), hce, hO.vm, hcl, hWs, hall, hf⟩⟩
  refine st1 _ ?_
  show Steps p.tables e below (T1.setTop { method := m, pc := pc + 3, locals := ls, stack := .ref T.heap.size :: rest, locked := none }) _
  jvm_step X₁.here [X₁.here.top, hexec, d3', Value.category]
  exact hsteps
/-- 'throw new E("text")': new; dup; ldc; invokespecial; athrow -/
theorem vx_throwS {cc : ByteArray} {pc : Nat} (hexec : p.tables.exec = Jvm.exec) (hb : c.code = cc) (hl : l.stackTraces = false) {own cls text : String} {names : List String} {ik is ic mc ms sa : Nat} {A : Nat → Prop}
    (hown : s.vm.findClass own = some m.cls) (hcls : Bundle.fit cls = true) (hnames : ∀ n ∈ names, Bundle.fit n = true)
    (hk : (Cond.classLink own ik cls).before args s = true) (hini : (Cond.initialized cls).before args s = true) (hstr : vk_R own is text sa s) (hat : ∀ w ∈ vx_atS own ic cls names, w.before args s = true)
    (hgood : ∀ w ∈ Cond.classLink own ik cls :: Cond.initialized cls :: vx_atS own ic cls names, vx_ot w = true)
    (hU : vx_Zq Bundle.tN "UNASSIGNED_STACK" Bundle.steD A s s.heap) (hN : vx_Zq Bundle.tN "SUPPRESSED_SENTINEL" Bundle.listD A s s.heap) (hS : va_S A s.heap H locs) (hsize : ls.size = c.maxLocals)
    (d0 : decode cc pc = .ok (.new ik, 3)) (d3 : decode cc (pc + 3) = .ok (.dup, 1)) (d4 : decode cc (pc + 4) = .ok (.ldc is, 2)) (d6 : decode cc (pc + 6) = .ok (.invokespecial ic, 3)) (d9 : decode cc (pc + 9) = .ok (.athrow, 1))
    (hout : ∀ x ∈ c.exceptionTable.toList, covers x (pc + 9) = false)
    (hRframes : names.length + 3 < R.frames) (hRlocals : (rest.map fun v => v.category).sum + (13 * (names.length + 1) + 43) ≤ R.locals) (hRcells : cells + 1 ≤ R.cells) (hRslots : slots + 6 ≤ R.slots) (hlocks : meth.locks = false)
    (hx : ∀ t : State, s.vm.Alike t.vm → H.size ≤ t.heap.size → (∀ q : Nat, q < H.size → t.heap[q]? = H[q]?) → XC cls s t)
    (hf : ∀ z ∈ locs, free z.base) (hc : cells + 1 ≤ mc) (hs : slots + 6 ≤ ms) :
    W p l e R s m args below meth c H locs cells slots (vx_MQ below Qc XC args s mc ms free) (F0 m pc ls rest) := by
  intro T hT X
  have htr : e.platform.stackTraces = false := (show e.platform.stackTraces = l.stackTraces by rw [X.admits.platform]).trans hl
  have Y := vx_rebase X (R' := { frames := R.frames, locals := R.locals, cells := 1, slots := 6 }) (Nat.le_refl _) (Nat.le_refl _) hRcells hRslots
  obtain ⟨s', hA⟩ : ∃ z, z = (T.setVm s.vm).setFrames (.invoking m args :: below) := ⟨_, rfl⟩
  rw [← hA] at Y
  have hvm : s'.vm = s.vm := by rw [hA]; rfl
  have hhp : s'.heap = H := by rw [hA]; exact hT
  have hW0 : s.WarmedH s'.vm := by rw [hvm]; exact State.WarmedH.refl s
  have hat' : ∀ w ∈ vx_atS own ic cls names, w.before args s' = true := fun w hw => vx_ot_at hW0 hvm.symm (hgood w (List.mem_cons_of_mem _ (List.mem_cons_of_mem _ hw))) (hat w hw)
  have hk' : (Cond.classLink own ik cls).before args s' = true := vx_ot_at hW0 hvm.symm (hgood _ List.mem_cons_self) hk
  have hini' : (Cond.initialized cls).before args s' = true := vx_ot_at hW0 hvm.symm (hgood _ (List.mem_cons_of_mem _ List.mem_cons_self)) hini
  have hU' : vx_Zq Bundle.tN "UNASSIGNED_STACK" Bundle.steD A s' s'.heap := by rw [hhp]; exact vx_Zq.moved hW0.alike (hU.kept hS.2.1)
  have hN' : vx_Zq Bundle.tN "SUPPRESSED_SENTINEL" Bundle.listD A s' s'.heap := by rw [hhp]; exact vx_Zq.moved hW0.alike (hN.kept hS.2.1)
  have h : ∀ w ∈ Bundle.ownAtoms own ic cls names, w.before args s' = true := vx_own hat' (vx_isRefq hU'.1) (vx_isRefq hN'.1) hU'.2.word hN'.2.word
  have hown' : s'.vm.findClass own = some m.cls := by rw [hvm]; exact hown
  have hins : (Cond.instantiable cls 6).before args s' = true := h _ (by simp [Bundle.ownAtoms])
  obtain ⟨vm₁, cX, kX, hfX, hkX, -, -, X₁, st1⟩ := Y.newCold hexec (own := own) (C := cls) (index := ik) (n := 6) hown' hk' hins hini'
    (g := F0 m pc ls rest) rfl (by rw [hb]; exact d0) (Nat.le_refl _) (Nat.le_refl _)
  generalize hT1 : (T.setVm vm₁).pushCell { cls := cX, slots := kX.instanceTypes.map defaultValue, vm := .none } = T1 at X₁ st1
  have hcat : (Value.ref T.heap.size).category = 1 := rfl
  have hcellA : T1.heap[T.heap.size]? = some (freshCell cX kX) := by rw [← hT1]; exact State.heap_pushCell_size _ _
  have d3' : decode c.code (pc + 3) = .ok (.dup, 1) := by rw [hb]; exact d3
  have d4' : decode c.code (pc + 4) = .ok (.ldc is, 2) := by rw [hb]; exact d4
  have hstr' : vk_R own is text sa s' := vk_R.warm hW0 hstr
  obtain ⟨U, hsteps, hrun, hend, hW, hsame, ce, hce, hO⟩ := X₁.ctorThrowS hexec htr (own := own) (cls := cls) (names := names) (ic := ic) hown' hcls hnames h (fun x hx => nomatch hx) hfX hkX hcellA (by rw [hhp, hT]; exact Nat.le_refl _) (msg := .ref sa) rfl
    (g := { method := m, pc := pc + 6, locals := ls, stack := .ref sa :: .ref T.heap.size :: .ref T.heap.size :: rest, locked := none }) rfl hsize rfl rfl (rest := rest) rfl
    (by rw [hb]; exact d6) (by rw [hb]; exact d9) hout hRframes (by simp only [List.map_cons, List.sum_cons, hcat]; omega) hlocks
  obtain ⟨f1, f2⟩ := vx_frame hsame
  rw [hhp] at f1 f2
  have hWs : s.WarmedH U.vm := State.WarmedH.trans hW0 hW
  have hcl : s.vm.findClass cls = some ce.cls := by
    have h9 := hO.cls
    rw [hvm] at h9
    exact h9
  have hall : s.sameButNew ({ U with vm := s.vm } : State) locs mc ms := by
    subst hA
    obtain ⟨e1, e2⟩ := hsame
    rw [State.setFrames_setFrames] at e1
    have h2 : (T.setVm s.vm).sameButNew ({ U with vm := s.vm } : State) [] (0 + 1) (0 + 6) := ⟨e1, e2⟩
    have h3 := X.same.trans h2
    rw [List.append_nil] at h3
    exact h3.mono hc hs
  refine ⟨U, ?_, .threw T.heap.size, hrun, hend, Or.inr ⟨T.heap.size, rfl, cls, ce, locs, hx U hWs.alike f1 (fun q hq => f2 q hq (fun z hz => nomatch hz)), hce, hO.vm, hcl, hWs, hall, hf⟩⟩
  refine st1 _ ?_
  show Steps p.tables e below (T1.setTop { method := m, pc := pc + 3, locals := ls, stack := .ref T.heap.size :: rest, locked := none }) _
  jvm_step X₁.here [X₁.here.top, hexec, d3', Value.category]
  exact X₁.ldcString hexec (own := own) (text := text) (index := is) (a := sa) hown' hstr'.1 hstr'.2
    (g := { method := m, pc := pc + 4, locals := ls, stack := .ref T.heap.size :: .ref T.heap.size :: rest, locked := none }) rfl d4' _ hsteps
/-- 'throw new E("text")', the text by a wide index -/
theorem vx_throwSW {cc : ByteArray} {pc : Nat} (hexec : p.tables.exec = Jvm.exec) (hb : c.code = cc) (hl : l.stackTraces = false) {own cls text : String} {names : List String} {ik is ic mc ms sa : Nat} {A : Nat → Prop}
    (hown : s.vm.findClass own = some m.cls) (hcls : Bundle.fit cls = true) (hnames : ∀ n ∈ names, Bundle.fit n = true)
    (hk : (Cond.classLink own ik cls).before args s = true) (hini : (Cond.initialized cls).before args s = true) (hstr : vk_R own is text sa s) (hat : ∀ w ∈ vx_atS own ic cls names, w.before args s = true)
    (hgood : ∀ w ∈ Cond.classLink own ik cls :: Cond.initialized cls :: vx_atS own ic cls names, vx_ot w = true)
    (hU : vx_Zq Bundle.tN "UNASSIGNED_STACK" Bundle.steD A s s.heap) (hN : vx_Zq Bundle.tN "SUPPRESSED_SENTINEL" Bundle.listD A s s.heap) (hS : va_S A s.heap H locs) (hsize : ls.size = c.maxLocals)
    (d0 : decode cc pc = .ok (.new ik, 3)) (d3 : decode cc (pc + 3) = .ok (.dup, 1)) (d4 : decode cc (pc + 4) = .ok (.ldc_w is, 3)) (d7 : decode cc (pc + 7) = .ok (.invokespecial ic, 3)) (d10 : decode cc (pc + 10) = .ok (.athrow, 1))
    (hout : ∀ x ∈ c.exceptionTable.toList, covers x (pc + 10) = false)
    (hRframes : names.length + 3 < R.frames) (hRlocals : (rest.map fun v => v.category).sum + (13 * (names.length + 1) + 43) ≤ R.locals) (hRcells : cells + 1 ≤ R.cells) (hRslots : slots + 6 ≤ R.slots) (hlocks : meth.locks = false)
    (hx : ∀ t : State, s.vm.Alike t.vm → H.size ≤ t.heap.size → (∀ q : Nat, q < H.size → t.heap[q]? = H[q]?) → XC cls s t)
    (hf : ∀ z ∈ locs, free z.base) (hc : cells + 1 ≤ mc) (hs : slots + 6 ≤ ms) :
    W p l e R s m args below meth c H locs cells slots (vx_MQ below Qc XC args s mc ms free) (F0 m pc ls rest) := by
  intro T hT X
  have htr : e.platform.stackTraces = false := (show e.platform.stackTraces = l.stackTraces by rw [X.admits.platform]).trans hl
  have Y := vx_rebase X (R' := { frames := R.frames, locals := R.locals, cells := 1, slots := 6 }) (Nat.le_refl _) (Nat.le_refl _) hRcells hRslots
  obtain ⟨s', hA⟩ : ∃ z, z = (T.setVm s.vm).setFrames (.invoking m args :: below) := ⟨_, rfl⟩
  rw [← hA] at Y
  have hvm : s'.vm = s.vm := by rw [hA]; rfl
  have hhp : s'.heap = H := by rw [hA]; exact hT
  have hW0 : s.WarmedH s'.vm := by rw [hvm]; exact State.WarmedH.refl s
  have hat' : ∀ w ∈ vx_atS own ic cls names, w.before args s' = true := fun w hw => vx_ot_at hW0 hvm.symm (hgood w (List.mem_cons_of_mem _ (List.mem_cons_of_mem _ hw))) (hat w hw)
  have hk' : (Cond.classLink own ik cls).before args s' = true := vx_ot_at hW0 hvm.symm (hgood _ List.mem_cons_self) hk
  have hini' : (Cond.initialized cls).before args s' = true := vx_ot_at hW0 hvm.symm (hgood _ (List.mem_cons_of_mem _ List.mem_cons_self)) hini
  have hU' : vx_Zq Bundle.tN "UNASSIGNED_STACK" Bundle.steD A s' s'.heap := by rw [hhp]; exact vx_Zq.moved hW0.alike (hU.kept hS.2.1)
  have hN' : vx_Zq Bundle.tN "SUPPRESSED_SENTINEL" Bundle.listD A s' s'.heap := by rw [hhp]; exact vx_Zq.moved hW0.alike (hN.kept hS.2.1)
  have h : ∀ w ∈ Bundle.ownAtoms own ic cls names, w.before args s' = true := vx_own hat' (vx_isRefq hU'.1) (vx_isRefq hN'.1) hU'.2.word hN'.2.word
  have hown' : s'.vm.findClass own = some m.cls := by rw [hvm]; exact hown
  have hins : (Cond.instantiable cls 6).before args s' = true := h _ (by simp [Bundle.ownAtoms])
  obtain ⟨vm₁, cX, kX, hfX, hkX, -, -, X₁, st1⟩ := Y.newCold hexec (own := own) (C := cls) (index := ik) (n := 6) hown' hk' hins hini'
    (g := F0 m pc ls rest) rfl (by rw [hb]; exact d0) (Nat.le_refl _) (Nat.le_refl _)
  generalize hT1 : (T.setVm vm₁).pushCell { cls := cX, slots := kX.instanceTypes.map defaultValue, vm := .none } = T1 at X₁ st1
  have hcat : (Value.ref T.heap.size).category = 1 := rfl
  have hcellA : T1.heap[T.heap.size]? = some (freshCell cX kX) := by rw [← hT1]; exact State.heap_pushCell_size _ _
  have d3' : decode c.code (pc + 3) = .ok (.dup, 1) := by rw [hb]; exact d3
  have d4' : decode c.code (pc + 4) = .ok (.ldc_w is, 3) := by rw [hb]; exact d4
  have hstr' : vk_R own is text sa s' := vk_R.warm hW0 hstr
  obtain ⟨U, hsteps, hrun, hend, hW, hsame, ce, hce, hO⟩ := X₁.ctorThrowS hexec htr (own := own) (cls := cls) (names := names) (ic := ic) hown' hcls hnames h (fun x hx => nomatch hx) hfX hkX hcellA (by rw [hhp, hT]; exact Nat.le_refl _) (msg := .ref sa) rfl
    (g := { method := m, pc := pc + 7, locals := ls, stack := .ref sa :: .ref T.heap.size :: .ref T.heap.size :: rest, locked := none }) rfl hsize rfl rfl (rest := rest) rfl
    (by rw [hb]; exact d7) (by rw [hb]; exact d10) hout hRframes (by simp only [List.map_cons, List.sum_cons, hcat]; omega) hlocks
  obtain ⟨f1, f2⟩ := vx_frame hsame
  rw [hhp] at f1 f2
  have hWs : s.WarmedH U.vm := State.WarmedH.trans hW0 hW
  have hcl : s.vm.findClass cls = some ce.cls := by
    have h9 := hO.cls
    rw [hvm] at h9
    exact h9
  have hall : s.sameButNew ({ U with vm := s.vm } : State) locs mc ms := by
    subst hA
    obtain ⟨e1, e2⟩ := hsame
    rw [State.setFrames_setFrames] at e1
    have h2 : (T.setVm s.vm).sameButNew ({ U with vm := s.vm } : State) [] (0 + 1) (0 + 6) := ⟨e1, e2⟩
    have h3 := X.same.trans h2
    rw [List.append_nil] at h3
    exact h3.mono hc hs
  refine ⟨U, ?_, .threw T.heap.size, hrun, hend, Or.inr ⟨T.heap.size, rfl, cls, ce, locs, hx U hWs.alike f1 (fun q hq => f2 q hq (fun z hz => nomatch hz)), hce, hO.vm, hcl, hWs, hall, hf⟩⟩
  refine st1 _ ?_
  show Steps p.tables e below (T1.setTop { method := m, pc := pc + 3, locals := ls, stack := .ref T.heap.size :: rest, locked := none }) _
  jvm_step X₁.here [X₁.here.top, hexec, d3', Value.category]
  exact X₁.ldcStringW hexec (own := own) (text := text) (index := is) (a := sa) hown' hstr'.1 hstr'.2
    (g := { method := m, pc := pc + 4, locals := ls, stack := .ref T.heap.size :: .ref T.heap.size :: rest, locked := none }) rfl d4' _ hsteps
end Ends
section Bodies
variable {l : Launch}
theorem vx_ofW {y : MethodName} {ws ws' : List Cond} {rm : Room} {Pc : Array Value → State → Prop} {Qc : Array Value → State → Outcome → State → Prop} {XC : String → State → State → Prop} {mc ms : Nat} {free : Addr → Prop} {cc : ByteArray} {maxL : Nat} {ret : Option FieldType}
    (hy : plainName y.cls = true) (hw : ws = Cond.code y cc maxL ret :: ws')
    (body : ∀ p e s m args below meth c s₁, BodyLoose p l y (headSpec ws rm) cc maxL ret e s m args below meth c s₁ → c.maxLocals = maxL → (∀ x ∈ c.exceptionTable.toList, False) → Pc args s →
      W p l e (headSpec ws rm).room s m args below meth c s.heap [] 0 0 (vx_MQ below Qc XC args s mc ms free) (entryFrame m args maxL)) : vx_Met l y ws rm Pc Qc XC mc ms free := by
  refine MetFree.of_bodyS (code := cc) (maxLocals := maxL) (ret := ret) hy ?_ ?_
  · intro args s m h hn
    obtain ⟨meth, c, h1, h2, h3, h4, h5, h6, -, -⟩ := Cond.code_spec hn (atoms_spec (ws := ws) h _ (by rw [hw]; exact List.mem_cons_self))
    exact ⟨meth, c, h1, h2, h3, h4, h5, h6⟩
  · intro p e s m args below meth c s₁ B hml hP _
    have hh0 : s₁.heap = s.heap := by rw [B.state]; rfl
    have ht : ∀ x ∈ c.exceptionTable.toList, False := by
      obtain ⟨meth9, c9, h1, h2, -, -, -, -, h7, -⟩ := Cond.code_spec B.named (atoms_spec (ws := ws) B.pre _ (by rw [hw]; exact List.mem_cons_self))
      cases Option.some.inj (h1.symm.trans B.method)
      cases Option.some.inj (h2.symm.trans (Stand.of_body B).code)
      intro x hx
      rw [Array.isEmpty_iff.mp h7] at hx
      cases hx
    obtain ⟨t, a1, o, b1, b2, b3⟩ := body p e s m args below meth c s₁ B hml ht hP s₁ hh0 (Stand.of_body B)
    exact ⟨t, o, a1, b1, b2, b3⟩
/-- the table of a body with handlers -/
theorem vx_table {p : Program} {x y : MethodName} {S : Spec} {cc bytes : ByteArray} {maxL maxL' : Nat} {ret ret' : Option FieldType} {e : Env} {s s₁ : State} {m : MethodId} {args : Array Value} {below : List Frame} {meth : Method} {c : Code} {hh : List (Nat × Nat × Nat × Nat)}
    (B : BodyLoose p l y S cc maxL ret e s m args below meth c s₁) (h : (Cond.codeWith y bytes maxL' ret' hh).before args s = true) : c.exceptionTable.toList = tableOf hh := by
  obtain ⟨m9, meth9, c9, hn9, h1, h2, -, -, h6, -⟩ := Cond.codeWith_spec h
  cases Option.some.inj (hn9.symm.trans B.named)
  cases Option.some.inj (h1.symm.trans B.method)
  cases Option.some.inj (h2.symm.trans (Stand.of_body B).code)
  rw [← h6, table_eq]
end Bodies
end VXA
/-! ===== END ===== -/
/-! ===== BEGIN a static call of a method with an exception table ===== -/
section VXS
variable {p : Program} {l : Launch} {e : Env} {R : Room} {s : State} {m : MethodId} {args : Array Value} {below : List Frame} {meth : Method} {c : Code} {T : State} {H : Heap} {locs : List Loc} {cells slots : Nat}
abbrev vx_CSW (R : Room) (s : State) (args : Array Value) (own : String) (index : Nat) (y : MethodName) (bytes : ByteArray) (maxL : Nat) (ret : Option FieldType) (hh : List (Nat × Nat × Nat × Nat)) (ws : List Cond) (rm : Room) (mc ms n : Nat) : Prop :=
  (rm.cells = mc ∧ rm.slots = ms ∧ rm.frames + 1 ≤ R.frames ∧ 8 + (maxL + 11) + rm.locals ≤ R.locals ∧ (∀ w ∈ ws, ∀ (a' : Array Value) (U : State), s.WarmedH U.vm → w.before a' U = true) ∧ Cond.codeWith y bytes maxL ret hh ∈ ws) ∧
  (Cond.codeWith y bytes maxL ret hh).before args s = true ∧ (Cond.initialized y.cls).before args s = true ∧ (y.cls ≠ "java/lang/invoke/MethodHandle" ∧ y.cls ≠ "java/lang/invoke/VarHandle") ∧
  (∀ sig, parseMethodDescriptor y.desc = some sig → n = sig.parameters.length) ∧ (Cond.methodLink own index y).before args s = true ∧ (Cond.static y).before args s = true
theorem vx_cwSW {own : String} {index maxL mc ms : Nat} {y : MethodName} {bytes : ByteArray} {ret : Option FieldType} {hh : List (Nat × Nat × Nat × Nat)} {Ts ws ws' : List Cond} {rm : Room} (n : Nat) (ht : ∀ w ∈ Ts, w.before args s = true) (hT : GoodIn Ts (va_wsS own index y ws)) (hw : ws = Cond.codeWith y bytes maxL ret hh :: ws') (hrc : rm.cells = mc) (hrs : rm.slots = ms)
    (hd : y.cls ≠ "java/lang/invoke/MethodHandle" ∧ y.cls ≠ "java/lang/invoke/VarHandle" ∧ (parseMethodDescriptor y.desc).map (fun d => d.parameters.length) = some n) (hR : rm.frames + 1 ≤ R.frames ∧ 8 + (maxL + 11) + rm.locals ≤ R.locals) :
    vx_CSW R s args own index y bytes maxL ret hh ws rm mc ms n := by
  have ok : ∀ w ∈ va_wsS own index y ws, w.before args s = true := fun w h => ht w (hT w h).1
  have hG : GoodIn Ts ws := fun w h => hT w (by unfold va_wsS; exact List.mem_append_right _ h)
  have hc : Cond.codeWith y bytes maxL ret hh ∈ ws := by rw [hw]; exact List.mem_cons_self
  refine ⟨⟨hrc, hrs, hR.1, hR.2, pay_in ht hG, hc⟩, ht _ (hG _ hc).1, ok _ (by simp [va_wsS]), ⟨hd.1, hd.2.1⟩, fun sig h => ?_, ok _ (by simp [va_wsS]), ok _ (by simp [va_wsS])⟩
  have h2 := hd.2.2
  rw [h] at h2
  exact (Option.some.inj h2).symm
theorem vx_callSW (X : Stand p l e R s m args below meth c T locs cells slots) (hexec : p.tables.exec = Jvm.exec) {own : String} {index : Nat} {y : MethodName} {bytes : ByteArray} {maxL : Nat} {ret : Option FieldType} {hh : List (Nat × Nat × Nat × Nat)}
    (hown : s.vm.findClass own = some m.cls) (hlink : (Cond.methodLink own index y).before args s = true) (hstat : (Cond.static y).before args s = true) (hinit : (Cond.initialized y.cls).before args s = true)
    (hcode : (Cond.codeWith y bytes maxL ret hh).before args s = true) (hy : y.cls ≠ "java/lang/invoke/MethodHandle" ∧ y.cls ≠ "java/lang/invoke/VarHandle")
    {W9 : Nat} {Pre : Pt → Array Value → Prop} {Post : Pt → Array Value → Option Value → Pt → Prop} (hK : Back l R p e below s args y 3 W9 Pre Post)
    {g : JFrame} (hg : g.method = m) (hsize : g.locals.size = c.maxLocals) {argsL rest : List Value} (hlen : ∀ sig, parseMethodDescriptor y.desc = some sig → argsL.length = sig.parameters.length)
    (hstack : g.stack = argsL.reverse ++ rest) (hW : 2 * g.monitorRoom + (rest.map fun v => v.category).sum ≤ W9) (hdg : decode c.code g.pc = .ok (.invokestatic index, 3))
    (hpre : ∀ vm₁, s.WarmedH vm₁ → Pre ⟨T.setVm vm₁, locs, cells, slots⟩ argsL.toArray) :
    ∃ (v : Option Value) (vm₁ : Vm) (B : Pt), s.WarmedH vm₁ ∧ Stand p l e R s m args below meth c B.U B.locs B.cells B.slots ∧ Post ⟨T.setVm vm₁, locs, cells, slots⟩ argsL.toArray v B ∧
      ∀ target, Steps p.tables e below (B.U.setTop { g with pc := g.pc + 3, stack := v.toList ++ rest }) target → Steps p.tables e below (T.setTop g) target := by
  obtain ⟨mk, methM, cM, hnamed, hmethM, -, -, -, -, -, -, hsigM⟩ := Cond.codeWith_spec hcode
  have hstatic : methM.isStatic = true := Cond.static_spec hnamed hmethM hstat
  obtain ⟨kP, hkP, -⟩ := className_of_methodNamed hnamed
  have hinitP : kP.init = .initialized := Cond.initialized_spec (findClass_of_methodNamed hnamed) hkP hinit
  obtain ⟨vm₁, X₁, hstep₁⟩ := X.invokestatic hexec hown hlink hnamed hmethM hstatic hkP hinitP hy (g := g) hg (argsL := argsL) (rest := rest) (hlen _ hsigM) hstack hdg
  obtain ⟨v, B, X', hpost, hsteps⟩ := hK m meth c ⟨T.setVm vm₁, locs, cells, slots⟩ { g with stack := rest } (.invokestatic index) mk argsL.toArray X₁ hg hsize hdg hW (X₁.named hnamed) (hpre vm₁ X₁.warmed)
  exact ⟨v, vm₁, B, X₁.warmed, X', hpost, fun target h => hstep₁ _ fun acts => by rw [doInvoke_state]; exact hsteps.trans h⟩
theorem vx_runSW {y : MethodName} {bytes cc : ByteArray} {maxL nL mc ms n index : Nat} {ret : Option FieldType} {hh : List (Nat × Nat × Nat × Nat)} {ws : List Cond} {rm : Room} {Pc : Array Value → State → Prop} {Qc : Array Value → State → Outcome → State → Prop} {free : Addr → Prop} {Ts : List Cond} {own : String} {As rest : List Value} {g : JFrame}
    (S : CallFix p m c cc nL s args Ts own) (hM : Met l y ws rm Pc Qc mc ms free) (cw : vx_CSW R s args own index y bytes maxL ret hh ws rm mc ms n) (hp : PreS s H Pc As)
    (hg : g.method = m) (hn : As.length = n) (hsize : g.locals.size = nL) (hstack : g.stack = As.reverse ++ rest) (hW : 2 * g.monitorRoom + (rest.map fun v => v.category).sum ≤ 8) (hdg : decode cc g.pc = .ok (.invokestatic index, 3)) (hf : cells + mc ≤ R.cells ∧ slots + ms ≤ R.slots) :
    va_Run p l e R s m args below meth c H locs cells slots mc ms g rest (Qc As.toArray) (free) := by
  obtain ⟨⟨hrc, hrs, hfr, hlo, hws, hcw⟩, hcode, hini, hy, hlen, hl, hstt⟩ := cw
  have hK : Back l R p e below s args y 3 8 (PreOf R mc ms Pc) (PostOf Qc mc ms free) := va_backW (hh := hh) (bytes := bytes) (maxL := maxL) (ret := ret) hM hp.1 hrc hrs hfr hlo hws hcw (fun a' U hW => word_at hW (Or.inl (by first | rfl | simp [Cond.onTables, Cond.keeps, Cond.steady])) hini)
  obtain ⟨hx, hb, hml, ho, -⟩ := S
  intro T hT X
  obtain ⟨v, vm₁, ⟨U', l2, c2, s2⟩, hW₁, X', ⟨g', mk, t, L, e1, e2, hq, h1, hL, h2, h3⟩, st⟩ := vx_callSW X hx (hh := hh) (bytes := bytes) (maxL := maxL) (ret := ret) ho hl hstt hini hcode hy hK hg (hsize.trans hml.symm) (argsL := As) (rest := rest) (fun sig h => hn.trans (hlen sig h)) hstack hW (by rw [hb]; exact hdg)
    (fun vm₁ hW₁ => ⟨hf.1, hf.2, hp.2 (T.setVm vm₁) hT hW₁⟩)
  dsimp only [Pt.U, Pt.locs, Pt.cells, Pt.slots] at X' e1 e2 h1 h2 h3 st
  subst h1; subst h2; subst h3
  exact ⟨v, (T.setVm vm₁).calling g' mk As.toArray, t, U', L, hT, X', hL, e1, e2, hq, st⟩
/-- not caught here, past rows that name other classes: it goes on to the caller -/
theorem vx_outP {p : Program} {l : Launch} {e : Env} {R : Room} {s : State} {m : MethodId} {args : Array Value} {below : List Frame} {meth : Method} {c : Code} {H : Heap} {locs : List Loc} {cells slots : Nat} {free : Addr → Prop} {ls : Array Slot} {rest : List Value} {Qc : Array Value → State → Outcome → State → Prop} {XC : String → State → State → Prop}
    {pc : Nat} {own E : String} {ce : Cell} {q : Addr} {mc ms : Nat} (hown : s.vm.findClass own = some m.cls) (hlocks : meth.locks = false)
    (hpass : ∀ z ∈ c.exceptionTable.toList, covers z pc = false ∨ (z.catchType ≠ 0 ∧ ∃ nm : String, (Cond.classLink own z.catchType nm).before args s = true ∧ va_Nc E nm s)) (hcell : H[q]? = some ce) (hv : ce.vm = .none) (hcl : s.vm.findClass E = some ce.cls)
    (hx : ∀ t : State, t.heap = H → s.vm.Alike t.vm → XC E s t) (hf : ∀ z ∈ locs, free z.base) (hc : cells ≤ mc) (hs : slots ≤ ms) :
    vx_W p l e R s m args below meth c H locs cells slots (vx_MQ below Qc XC args s mc ms free) (F0 m pc ls rest) q := by
  intro T hT X
  have hpl : e.platform.magicAccessors = ({} : Platform).magicAccessors := by rw [X.admits.platform]
  obtain ⟨vm', hW', X', st⟩ := X.outThrough hlocks q (g := F0 m pc ls rest) rfl rfl rfl (cell := ce) (by rw [hT]; exact hcell) (by rw [hv]; rfl)
    (by obtain ⟨k9, h9, -⟩ := Vm.findClass_spec hcl; exact ⟨k9, h9⟩) (fun z hz => by
      rcases hpass z hz with h | ⟨hz0, nm, hl1, hn1⟩
      · exact Or.inl h
      · obtain ⟨c6, hc6, hcl6⟩ := Cond.classLink_spec hown hl1 e.platform hpl
        obtain ⟨a8, b8, h1, h2, h3⟩ := hn1
        cases Option.some.inj (h1.symm.trans hcl)
        cases Option.some.inj (h2.symm.trans hc6)
        exact Or.inr ⟨hz0, _, hcl6, h3⟩)
  obtain ⟨g₀, hfr⟩ := X'.frames_eq
  have hcell9 : ((T.setVm vm').setFrames (.throwing q :: below)).heap[q]? = some ce := by
    show T.heap[q]? = some ce
    rw [hT]; exact hcell
  have hend : Ended ((T.setVm vm').setFrames (.throwing q :: below)) below (.threw q) := State.frames_setFrames _ (State.cur_lt_of_frames hfr)
  refine ⟨(T.setVm vm').setFrames (.throwing q :: below), ?_, .threw q, X'.here.running, hend, Or.inr ⟨q, rfl, E, ce, locs, hx _ hT (X'.ends _).1.alike, hcell9, hv, hcl, (X'.ends _).1, (X'.ends _).2.mono hc hs, hf⟩⟩
  rw [X.pushThrowing_eq]
  exact st
/-- a thing of a world lies in the heap -/
theorem vx_lt {D : va_G} {cl : List vw_C} {ws : va_W} {H1 : Heap} (h : va_P D cl ws H1) {k : Nat} {q : Nat × va_E} (hk : ws[k]? = some q) : q.1 < H1.size := (h k q hk).lt
end VXS
/-! ===== END ===== -/
/-! ===== BEGIN methods with a table of their own: called by a name, returning or throwing ===== -/
section VXH
/-! vx_backW, vx_callVX, vx_callSX, vx_callVW, vx_runVW, vx_runVX, vx_runSX, vx_ofWH follow the same proofs as their sisters above (Free/Laws.lean, Shelf42/LK1.lean); vx_outP calls Shelf42/NT130.lean (outThrough). -/
section
variable {l : Launch} {R : Room} {p : Program} {e : Env} {below : List Frame} {s : State} {sargs : Array Value} {y : MethodName} {len W9 : Nat}
theorem vx_backW {ws : List Cond} {rm : Room} {Pc : Array Value → State → Prop} {Qc : Array Value → State → Outcome → State → Prop} {XC : String → State → State → Prop} {mc ms : Nat} {free : Addr → Prop} {bytes : ByteArray} {maxL : Nat} {ret : Option FieldType} {hh : List (Nat × Nat × Nat × Nat)}
    (hM : vx_Met l y ws rm Pc Qc XC mc ms free) (hblind : FrameBlind Pc) (hrc : rm.cells = mc) (hrs : rm.slots = ms)
    (hframes : rm.frames + 1 ≤ R.frames) (hlocals : W9 + (maxL + 11) + rm.locals ≤ R.locals)
    (hws : ∀ w ∈ ws, ∀ a' U, s.WarmedH U.vm → w.before a' U = true) (hcode : Cond.codeWith y bytes maxL ret hh ∈ ws) (hinit : ∀ a' U, s.WarmedH U.vm → (Cond.initialized y.cls).before a' U = true) :
    vx_Back l R p e below s sargs y len W9 (PreOf R mc ms Pc) (PostOf Qc mc ms free) (vx_Post XC mc ms free) := by
  intro m meth c A g ig mk a X hg hsize hdg hW hn hp
  have h1 : (headSpec ws rm).pre.before a A.U = true := atoms_intro fun w hw => hws w hw _ _ X.warmed
  have h2 : (Cond.codeWith y bytes maxL ret hh).before a A.U = true := hws _ hcode _ _ X.warmed
  have h3 : (Cond.initialized y.cls).before a A.U = true := hinit _ _ X.warmed
  have h4 : A.cells + (headSpec ws rm).room.cells ≤ R.cells := by rw [show (headSpec ws rm).room.cells = mc from hrc]; exact hp.1
  have h5 : A.slots + (headSpec ws rm).room.slots ≤ R.slots := by rw [show (headSpec ws rm).room.slots = ms from hrs]; exact hp.2.1
  have hPc : Pc a (A.U.calling g mk a) := hblind _ _ _ _ hp.2.2
  obtain ⟨U, Ls, c0, s0⟩ := A
  dsimp only [Pt.U, Pt.locs, Pt.cells, Pt.slots] at h1 h2 h3 h4 h5 X hn hPc ⊢
  obtain ⟨m9, methY, cY, hn9, hmY, hcY, -, hlY, -⟩ := Cond.codeWith_spec h2
  cases Option.some.inj (hn9.symm.trans hn)
  obtain ⟨kY, hkY, -⟩ := className_of_methodNamed hn
  have hinitY : kY.init = .initialized := Cond.initialized_spec (findClass_of_methodNamed hn) hkY h3
  have h : At U g.method c below := by rw [hg]; exact X.here
  have hlocals9 : W9 + (maxL + 11) + (headSpec ws rm).room.locals ≤ R.locals := hlocals
  have happ : (headSpec ws rm).appliesLoose y e.platform (U.calling g mk a) = true :=
    Spec.appliesLoose_calling (g := g) h hdg hn hkY hinitY
      (X.room_calling (g := g) (R' := (headSpec ws rm).room) hsize hmY hcY hframes (by rw [hlY]; omega) h4 h5) h1
  obtain ⟨mid, hmid⟩ := h.above
  have hfr : (U.setTop g).frames = (.java g :: mid) ++ below := by rw [State.frames_setTop' g h.top, hmid]; rfl
  obtain ⟨o, s₂, hsteps, -, hend, hq⟩ := Steps.callFree hM p X.admits X.cas X.clock (acts := []) hfr happ hPc trivial
  have hq' : vx_Q Qc XC mc ms free a (U.calling g mk a) o s₂ := hq
  rw [State.frames_setTop' g h.top] at hend
  obtain ⟨g₀, hg0⟩ := Option.isSome_iff_exists.mp h.top
  obtain ⟨r, hr⟩ := State.topJava?_eq_some.mp hg0
  have hr' : (({ U with heap := s₂.heap, slotsUsed := s₂.slotsUsed } : State).setVm s₂.vm).frames = .java g₀ :: r := hr
  rcases hq' with ⟨hqc, L, hfe, hL⟩ | ⟨q, rfl, E, ce, L, hx, hce, hcv, hcl, hW₂, hsm, hL⟩
  · obtain ⟨⟨v, rfl⟩, hW₂, e2, q2, q3, q4, q5, q6⟩ := id hfe
    have e3 : s₂ = ({ (U.calling g mk a).setFrames s₂.frames with heap := s₂.heap, slotsUsed := s₂.slotsUsed } : State).setVm s₂.vm := by
      have : s₂ = ({ s₂ with vm := (U.calling g mk a).vm } : State).setVm s₂.vm := rfl
      rw [e2] at this
      exact this
    obtain ⟨c₂, i₂, len₂, hc₂, hd₂, hf₂⟩ := hend
    have hW' : U.WarmedH s₂.vm := hW₂
    have hcc : c₂ = c := by
      have h1 : s₂.code? g.method = U.code? g.method := by
        rw [State.code?_eq, State.code?_eq, hW'.alike.method?]
      exact Option.some.inj (hc₂.symm.trans (h1.trans h.code))
    subst hcc
    have hlen : len₂ = len := by rw [hdg] at hd₂; cases hd₂; rfl
    subst hlen
    have hs₂ : s₂ = (({ U with heap := s₂.heap, slotsUsed := s₂.slotsUsed } : State).setVm s₂.vm).setTop { g with pc := g.pc + len₂, stack := v.toList ++ g.stack } := by
      refine e3.trans ?_
      rw [hf₂, State.calling_eq h.top, State.setFrames_setFrames, State.setTop_of_frames _ hr', hr]
      rfl
    have hsame : U.sameButNew ({ U with heap := s₂.heap, slotsUsed := s₂.slotsUsed } : State) L mc ms := by
      refine ⟨?_, q2, q3, q4, q5, q6⟩
      obtain ⟨t, ht, -⟩ := State.frames_cons hr
      show ({ U with heap := s₂.heap, slotsUsed := s₂.slotsUsed } : State) = { U.setFrames U.frames with heap := s₂.heap, slotsUsed := s₂.slotsUsed }
      rw [State.setFrames_self ht]
    subst hg
    refine Or.inl ⟨v, ⟨(({ U with heap := s₂.heap, slotsUsed := s₂.slotsUsed } : State).setVm s₂.vm), Ls ++ L, c0 + mc, s0 + ms⟩,
      ⟨X.admits, X.cas, X.clock, X.frames, X.room, X.hears, X.method, X.code, (X.here.setHeapUsed s₂.heap s₂.slotsUsed).setVm hW'.alike, X.tail, State.WarmedH.trans X.warmed hW', X.limits, X.bytes, X.same.trans (hsame.setVm s.vm)⟩,
      ⟨g, mk, s₂, L, rfl, rfl, hqc, rfl, hL, rfl, rfl⟩, ?_⟩
    show Steps p.tables e below _ ((({ U with heap := s₂.heap, slotsUsed := s₂.slotsUsed } : State).setVm s₂.vm).setTop { g with pc := g.pc + len₂, stack := v.toList ++ g.stack })
    rw [← hs₂]
    exact hsteps
  · obtain ⟨e2, q2, q3, q4, q5, q6⟩ := id hsm
    have e3 : s₂ = ({ (U.calling g mk a).setFrames s₂.frames with heap := s₂.heap, slotsUsed := s₂.slotsUsed } : State).setVm s₂.vm := by
      have : s₂ = ({ s₂ with vm := (U.calling g mk a).vm } : State).setVm s₂.vm := rfl
      rw [e2] at this
      exact this
    have hf₂ : s₂.frames = .throwing q :: .java g :: U.frames.tail := hend
    have hW' : U.WarmedH s₂.vm := hW₂
    have hs₂ : s₂ = ((({ U with heap := s₂.heap, slotsUsed := s₂.slotsUsed } : State).setVm s₂.vm).setTop g).pushFrame (.throwing q) := by
      refine e3.trans ?_
      rw [hf₂, State.calling_eq h.top, State.setFrames_setFrames, State.pushFrame, State.frames_setTop _ hr', State.setTop_of_frames _ hr', State.setFrames_setFrames, hr]
      rfl
    have hsame : U.sameButNew ({ U with heap := s₂.heap, slotsUsed := s₂.slotsUsed } : State) L mc ms := by
      refine ⟨?_, q2, q3, q4, q5, q6⟩
      obtain ⟨t, ht, -⟩ := State.frames_cons hr
      show ({ U with heap := s₂.heap, slotsUsed := s₂.slotsUsed } : State) = { U.setFrames U.frames with heap := s₂.heap, slotsUsed := s₂.slotsUsed }
      rw [State.setFrames_self ht]
    subst hg
    refine Or.inr ⟨q, ⟨(({ U with heap := s₂.heap, slotsUsed := s₂.slotsUsed } : State).setVm s₂.vm), Ls ++ L, c0 + mc, s0 + ms⟩,
      ⟨X.admits, X.cas, X.clock, X.frames, X.room, X.hears, X.method, X.code, (X.here.setHeapUsed s₂.heap s₂.slotsUsed).setVm hW'.alike, X.tail, State.WarmedH.trans X.warmed hW', X.limits, X.bytes, X.same.trans (hsame.setVm s.vm)⟩,
      ⟨g, mk, s₂, L, E, ce, rfl, rfl, hx, hce, hcv, hcl, rfl, hL, rfl, rfl⟩, ?_⟩
    show Steps p.tables e below _ (((({ U with heap := s₂.heap, slotsUsed := s₂.slotsUsed } : State).setVm s₂.vm).setTop g).pushFrame (.throwing q))
    rw [← hs₂]
    exact hsteps
end
variable {p : Program} {l : Launch} {e : Env} {R : Room} {s : State} {m : MethodId} {args : Array Value} {below : List Frame} {meth : Method} {c : Code} {T : State} {H : Heap} {locs : List Loc} {cells slots : Nat}
theorem vx_callVX (X : Stand p l e R s m args below meth c T locs cells slots) (hexec : p.tables.exec = Jvm.exec) {own C : String} {index : Nat} {y : MethodName} {bytes : ByteArray} {maxL : Nat} {ret : Option FieldType} {hh : List (Nat × Nat × Nat × Nat)}
    (hown : s.vm.findClass own = some m.cls) (hlink : (Cond.methodLink own index y).before args s = true) (hinst : (Cond.instanceMethod y).before args s = true) (hsel : (Cond.selects C y y).before args s = true)
    (hcode : (Cond.codeWith y bytes maxL ret hh).before args s = true) (hy : y.cls ≠ "java/lang/invoke/MethodHandle" ∧ y.cls ≠ "java/lang/invoke/VarHandle")
    {W9 : Nat} {Pre : Pt → Array Value → Prop} {Post : Pt → Array Value → Option Value → Pt → Prop} {PostX : Pt → Array Value → Addr → Pt → Prop} (hK : vx_Back l R p e below s args y 3 W9 Pre Post PostX)
    {b : Addr} {cellB : Cell} (hcell : T.heap[b]? = some cellB) (hobj : cellB.vm.isStatics = false) (hcls : s.vm.findClass C = some cellB.cls)
    {g : JFrame} (hg : g.method = m) (hsize : g.locals.size = c.maxLocals) {argsL rest : List Value} (hlen : ∀ sig, parseMethodDescriptor y.desc = some sig → argsL.length = sig.parameters.length)
    (hstack : g.stack = argsL.reverse ++ .ref b :: rest) (hW : 2 * g.monitorRoom + (rest.map fun v => v.category).sum ≤ W9) (hdg : decode c.code g.pc = .ok (.invokevirtual index, 3))
    (hpre : ∀ vm₁, s.WarmedH vm₁ → Pre ⟨T.setVm vm₁, locs, cells, slots⟩ (Value.ref b :: argsL).toArray) :
    (∃ (v : Option Value) (vm₁ : Vm) (B : Pt), s.WarmedH vm₁ ∧ Stand p l e R s m args below meth c B.U B.locs B.cells B.slots ∧ Post ⟨T.setVm vm₁, locs, cells, slots⟩ (Value.ref b :: argsL).toArray v B ∧
      ∀ target, Steps p.tables e below (B.U.setTop { g with pc := g.pc + 3, stack := v.toList ++ rest }) target → Steps p.tables e below (T.setTop g) target) ∨
    (∃ (q : Addr) (vm₁ : Vm) (B : Pt), s.WarmedH vm₁ ∧ Stand p l e R s m args below meth c B.U B.locs B.cells B.slots ∧ PostX ⟨T.setVm vm₁, locs, cells, slots⟩ (Value.ref b :: argsL).toArray q B ∧
      Steps p.tables e below (T.setTop g) ((B.U.setTop { g with stack := rest }).pushFrame (.throwing q))) := by
  obtain ⟨mk, methM, hnamed, hmethM, hstM, habM⟩ := Cond.instanceMethod_spec hinst
  obtain ⟨m8, methM', cM, hn8, hmethM', -, -, -, -, -, -, hsigM⟩ := Cond.codeWith_spec hcode
  cases Option.some.inj (hn8.symm.trans hnamed)
  cases hmethM.symm.trans hmethM'
  obtain ⟨c2, r2, m2, q1, q2, q3, q4, kP, hkP, hkPi⟩ := Cond.selects_spec hsel
  cases hcls.symm.trans q1
  cases (State.methodFound?_of_named hnamed hy).symm.trans q2
  cases hnamed.symm.trans q3
  have hselP : selectMethod e.platform s.vm cellB.cls mk = .method mk := by rw [Launch.admits_selectMethod X.admits]; exact q4
  obtain ⟨vm₁, X₁, hstep₁⟩ := X.invokevirtual hexec hown hlink hnamed hmethM hstM hkP hkPi hy (a := b) (cell := cellB) hcell
    (fun z h => by rw [h] at hobj; cases hobj) hselP hmethM habM hkP hkPi (g := g) hg (argsL := argsL) (rest := rest) (hlen _ hsigM) hstack hdg
  rcases hK m meth c ⟨T.setVm vm₁, locs, cells, slots⟩ { g with stack := rest } (.invokevirtual index) mk (Value.ref b :: argsL).toArray X₁ hg hsize hdg hW (X₁.named hnamed) (hpre vm₁ X₁.warmed) with ⟨v, B, X', hpost, hsteps⟩ | ⟨q, B, X', hpost, hsteps⟩
  · exact Or.inl ⟨v, vm₁, B, X₁.warmed, X', hpost, fun target h => hstep₁ _ fun acts => by rw [doInvoke_state]; exact hsteps.trans h⟩
  · exact Or.inr ⟨q, vm₁, B, X₁.warmed, X', hpost, hstep₁ _ fun acts => by rw [doInvoke_state]; exact hsteps⟩
theorem vx_callSX (X : Stand p l e R s m args below meth c T locs cells slots) (hexec : p.tables.exec = Jvm.exec) {own : String} {index : Nat} {y : MethodName} {bytes : ByteArray} {maxL : Nat} {ret : Option FieldType} {hh : List (Nat × Nat × Nat × Nat)}
    (hown : s.vm.findClass own = some m.cls) (hlink : (Cond.methodLink own index y).before args s = true) (hstat : (Cond.static y).before args s = true) (hinit : (Cond.initialized y.cls).before args s = true)
    (hcode : (Cond.codeWith y bytes maxL ret hh).before args s = true) (hy : y.cls ≠ "java/lang/invoke/MethodHandle" ∧ y.cls ≠ "java/lang/invoke/VarHandle")
    {W9 : Nat} {Pre : Pt → Array Value → Prop} {Post : Pt → Array Value → Option Value → Pt → Prop} {PostX : Pt → Array Value → Addr → Pt → Prop} (hK : vx_Back l R p e below s args y 3 W9 Pre Post PostX)
    {g : JFrame} (hg : g.method = m) (hsize : g.locals.size = c.maxLocals) {argsL rest : List Value} (hlen : ∀ sig, parseMethodDescriptor y.desc = some sig → argsL.length = sig.parameters.length)
    (hstack : g.stack = argsL.reverse ++ rest) (hW : 2 * g.monitorRoom + (rest.map fun v => v.category).sum ≤ W9) (hdg : decode c.code g.pc = .ok (.invokestatic index, 3))
    (hpre : ∀ vm₁, s.WarmedH vm₁ → Pre ⟨T.setVm vm₁, locs, cells, slots⟩ argsL.toArray) :
    (∃ (v : Option Value) (vm₁ : Vm) (B : Pt), s.WarmedH vm₁ ∧ Stand p l e R s m args below meth c B.U B.locs B.cells B.slots ∧ Post ⟨T.setVm vm₁, locs, cells, slots⟩ argsL.toArray v B ∧
      ∀ target, Steps p.tables e below (B.U.setTop { g with pc := g.pc + 3, stack := v.toList ++ rest }) target → Steps p.tables e below (T.setTop g) target) ∨
    (∃ (q : Addr) (vm₁ : Vm) (B : Pt), s.WarmedH vm₁ ∧ Stand p l e R s m args below meth c B.U B.locs B.cells B.slots ∧ PostX ⟨T.setVm vm₁, locs, cells, slots⟩ argsL.toArray q B ∧
      Steps p.tables e below (T.setTop g) ((B.U.setTop { g with stack := rest }).pushFrame (.throwing q))) := by
  obtain ⟨mk, methM, cM, hnamed, hmethM, -, -, -, -, -, -, hsigM⟩ := Cond.codeWith_spec hcode
  have hstatic : methM.isStatic = true := Cond.static_spec hnamed hmethM hstat
  obtain ⟨kP, hkP, -⟩ := className_of_methodNamed hnamed
  have hinitP : kP.init = .initialized := Cond.initialized_spec (findClass_of_methodNamed hnamed) hkP hinit
  obtain ⟨vm₁, X₁, hstep₁⟩ := X.invokestatic hexec hown hlink hnamed hmethM hstatic hkP hinitP hy (g := g) hg (argsL := argsL) (rest := rest) (hlen _ hsigM) hstack hdg
  rcases hK m meth c ⟨T.setVm vm₁, locs, cells, slots⟩ { g with stack := rest } (.invokestatic index) mk argsL.toArray X₁ hg hsize hdg hW (X₁.named hnamed) (hpre vm₁ X₁.warmed) with ⟨v, B, X', hpost, hsteps⟩ | ⟨q, B, X', hpost, hsteps⟩
  · exact Or.inl ⟨v, vm₁, B, X₁.warmed, X', hpost, fun target h => hstep₁ _ fun acts => by rw [doInvoke_state]; exact hsteps.trans h⟩
  · exact Or.inr ⟨q, vm₁, B, X₁.warmed, X', hpost, hstep₁ _ fun acts => by rw [doInvoke_state]; exact hsteps⟩
theorem vx_callVW (X : Stand p l e R s m args below meth c T locs cells slots) (hexec : p.tables.exec = Jvm.exec) {own C : String} {index : Nat} {y : MethodName} {bytes : ByteArray} {maxL : Nat} {ret : Option FieldType} {hh : List (Nat × Nat × Nat × Nat)}
    (hown : s.vm.findClass own = some m.cls) (hlink : (Cond.methodLink own index y).before args s = true) (hinst : (Cond.instanceMethod y).before args s = true) (hsel : (Cond.selects C y y).before args s = true)
    (hcode : (Cond.codeWith y bytes maxL ret hh).before args s = true) (hy : y.cls ≠ "java/lang/invoke/MethodHandle" ∧ y.cls ≠ "java/lang/invoke/VarHandle")
    {W9 : Nat} {Pre : Pt → Array Value → Prop} {Post : Pt → Array Value → Option Value → Pt → Prop} (hK : Back l R p e below s args y 3 W9 Pre Post)
    {b : Addr} {cellB : Cell} (hcell : T.heap[b]? = some cellB) (hobj : cellB.vm.isStatics = false) (hcls : s.vm.findClass C = some cellB.cls)
    {g : JFrame} (hg : g.method = m) (hsize : g.locals.size = c.maxLocals) {argsL rest : List Value} (hlen : ∀ sig, parseMethodDescriptor y.desc = some sig → argsL.length = sig.parameters.length)
    (hstack : g.stack = argsL.reverse ++ .ref b :: rest) (hW : 2 * g.monitorRoom + (rest.map fun v => v.category).sum ≤ W9) (hdg : decode c.code g.pc = .ok (.invokevirtual index, 3))
    (hpre : ∀ vm₁, s.WarmedH vm₁ → Pre ⟨T.setVm vm₁, locs, cells, slots⟩ (Value.ref b :: argsL).toArray) :
    ∃ (v : Option Value) (vm₁ : Vm) (B : Pt), s.WarmedH vm₁ ∧ Stand p l e R s m args below meth c B.U B.locs B.cells B.slots ∧ Post ⟨T.setVm vm₁, locs, cells, slots⟩ (Value.ref b :: argsL).toArray v B ∧
      ∀ target, Steps p.tables e below (B.U.setTop { g with pc := g.pc + 3, stack := v.toList ++ rest }) target → Steps p.tables e below (T.setTop g) target := by
  obtain ⟨mk, methM, hnamed, hmethM, hstM, habM⟩ := Cond.instanceMethod_spec hinst
  obtain ⟨m8, methM', cM, hn8, hmethM', -, -, -, -, -, -, hsigM⟩ := Cond.codeWith_spec hcode
  cases Option.some.inj (hn8.symm.trans hnamed)
  cases hmethM.symm.trans hmethM'
  obtain ⟨c2, r2, m2, q1, q2, q3, q4, kP, hkP, hkPi⟩ := Cond.selects_spec hsel
  cases hcls.symm.trans q1
  cases (State.methodFound?_of_named hnamed hy).symm.trans q2
  cases hnamed.symm.trans q3
  have hselP : selectMethod e.platform s.vm cellB.cls mk = .method mk := by rw [Launch.admits_selectMethod X.admits]; exact q4
  obtain ⟨vm₁, X₁, hstep₁⟩ := X.invokevirtual hexec hown hlink hnamed hmethM hstM hkP hkPi hy (a := b) (cell := cellB) hcell
    (fun z h => by rw [h] at hobj; cases hobj) hselP hmethM habM hkP hkPi (g := g) hg (argsL := argsL) (rest := rest) (hlen _ hsigM) hstack hdg
  obtain ⟨v, B, X', hpost, hsteps⟩ := hK m meth c ⟨T.setVm vm₁, locs, cells, slots⟩ { g with stack := rest } (.invokevirtual index) mk (Value.ref b :: argsL).toArray X₁ hg hsize hdg hW (X₁.named hnamed) (hpre vm₁ X₁.warmed)
  exact ⟨v, vm₁, B, X₁.warmed, X', hpost, fun target h => hstep₁ _ fun acts => by rw [doInvoke_state]; exact hsteps.trans h⟩
abbrev vx_CVW (R : Room) (s : State) (args : Array Value) (own C : String) (index : Nat) (y : MethodName) (bytes : ByteArray) (maxL : Nat) (ret : Option FieldType) (hh : List (Nat × Nat × Nat × Nat)) (ws : List Cond) (rm : Room) (mc ms n : Nat) : Prop :=
  (rm.cells = mc ∧ rm.slots = ms ∧ rm.frames + 1 ≤ R.frames ∧ 8 + (maxL + 11) + rm.locals ≤ R.locals ∧ (∀ w ∈ ws, ∀ (a' : Array Value) (U : State), s.WarmedH U.vm → w.before a' U = true) ∧ Cond.codeWith y bytes maxL ret hh ∈ ws) ∧
  (Cond.codeWith y bytes maxL ret hh).before args s = true ∧ (Cond.initialized y.cls).before args s = true ∧ (y.cls ≠ "java/lang/invoke/MethodHandle" ∧ y.cls ≠ "java/lang/invoke/VarHandle") ∧
  (∀ sig, parseMethodDescriptor y.desc = some sig → n = sig.parameters.length) ∧ (Cond.methodLink own index y).before args s = true ∧ (Cond.instanceMethod y).before args s = true ∧ (Cond.selects C y y).before args s = true
theorem vx_cwVW {own C : String} {index maxL mc ms : Nat} {y : MethodName} {bytes : ByteArray} {ret : Option FieldType} {hh : List (Nat × Nat × Nat × Nat)} {Ts ws ws' : List Cond} {rm : Room} (n : Nat) (ht : ∀ w ∈ Ts, w.before args s = true) (hT : GoodIn Ts (wsV own index C y ws)) (hw : ws = Cond.codeWith y bytes maxL ret hh :: ws') (hrc : rm.cells = mc) (hrs : rm.slots = ms)
    (hd : y.cls = C ∧ y.cls ≠ "java/lang/invoke/MethodHandle" ∧ y.cls ≠ "java/lang/invoke/VarHandle" ∧ (parseMethodDescriptor y.desc).map (fun d => d.parameters.length) = some n) (hR : rm.frames + 1 ≤ R.frames ∧ 8 + (maxL + 11) + rm.locals ≤ R.locals) :
    vx_CVW R s args own C index y bytes maxL ret hh ws rm mc ms n := by
  obtain ⟨hC, hd⟩ := hd
  subst hC
  have ok : ∀ w ∈ wsV own index y.cls y ws, w.before args s = true := fun w h => ht w (hT w h).1
  have hG : GoodIn Ts ws := fun w h => hT w (by unfold wsV; exact List.mem_append_right _ h)
  have hc : Cond.codeWith y bytes maxL ret hh ∈ ws := by rw [hw]; exact List.mem_cons_self
  refine ⟨⟨hrc, hrs, hR.1, hR.2, pay_in ht hG, hc⟩, ht _ (hG _ hc).1, ok _ (by simp [wsV]), ⟨hd.1, hd.2.1⟩, fun sig h => ?_, ok _ (by simp [wsV]), ok _ (by simp [wsV]), ok _ (by simp [wsV])⟩
  have h2 := hd.2.2
  rw [h] at h2
  exact (Option.some.inj h2).symm
theorem vx_runVW {y : MethodName} {bytes cc : ByteArray} {maxL nL mc ms n index : Nat} {ret : Option FieldType} {hh : List (Nat × Nat × Nat × Nat)} {ws : List Cond} {rm : Room} {Pc : Array Value → State → Prop} {Qc : Array Value → State → Outcome → State → Prop} {free : Addr → Prop} {Ts : List Cond} {own C : String} {b : Addr} {As rest : List Value} {g : JFrame}
    (S : CallFix p m c cc nL s args Ts own) (hM : Met l y ws rm Pc Qc mc ms free) (cw : vx_CVW R s args own C index y bytes maxL ret hh ws rm mc ms n) (hp : PreV s H C b Pc As)
    (hg : g.method = m) (hn : As.length = n) (hsize : g.locals.size = nL) (hstack : g.stack = As.reverse ++ .ref b :: rest) (hW : 2 * g.monitorRoom + (rest.map fun v => v.category).sum ≤ 8) (hdg : decode cc g.pc = .ok (.invokevirtual index, 3)) (hf : cells + mc ≤ R.cells ∧ slots + ms ≤ R.slots) :
    va_Run p l e R s m args below meth c H locs cells slots mc ms g rest (Qc (Value.ref b :: As).toArray) free := by
  obtain ⟨⟨hrc, hrs, hfr, hlo, hws, hcw⟩, hcode, hini, hy, hlen, hl, hin, hse⟩ := cw
  have hK : Back l R p e below s args y 3 8 (PreOf R mc ms Pc) (PostOf Qc mc ms free) := va_backW (hh := hh) (bytes := bytes) (maxL := maxL) (ret := ret) hM hp.1 hrc hrs hfr hlo hws hcw (fun a' U hW => word_at hW (Or.inl (by first | rfl | simp [Cond.onTables, Cond.keeps, Cond.steady])) hini)
  obtain ⟨hx, hb, hml, ho, -⟩ := S
  obtain ⟨-, ⟨cellB, hcB, hoB, hclB⟩, hPc⟩ := hp
  intro T hT X
  obtain ⟨v, vm₁, ⟨U', l2, c2, s2⟩, hW₁, X', ⟨g', mk, t, L, e1, e2, hq, h1, hL, h2, h3⟩, st⟩ := vx_callVW X hx (C := C) (hh := hh) (bytes := bytes) (maxL := maxL) (ret := ret) ho hl hin hse hcode hy hK (by rw [hT]; exact hcB) hoB hclB hg (hsize.trans hml.symm) (argsL := As) (rest := rest) (fun sig h => hn.trans (hlen sig h)) hstack hW (by rw [hb]; exact hdg)
    (fun vm₁ hW₁ => ⟨hf.1, hf.2, hPc (T.setVm vm₁) hT hW₁⟩)
  dsimp only [Pt.U, Pt.locs, Pt.cells, Pt.slots] at X' e1 e2 h1 h2 h3 st
  subst h1; subst h2; subst h3
  exact ⟨v, (T.setVm vm₁).calling g' mk (Value.ref b :: As).toArray, t, U', L, hT, X', hL, e1, e2, hq, st⟩
section
variable {y : MethodName} {bytes cc : ByteArray} {maxL nL mc ms n index : Nat} {ret : Option FieldType} {ws : List Cond} {rm : Room} {Pc : Array Value → State → Prop} {Qc : Array Value → State → Outcome → State → Prop} {XC : String → State → State → Prop} {free : Addr → Prop} {Ts : List Cond} {own C : String} {b : Addr} {As rest : List Value} {g : JFrame}
theorem vx_runVX {hh : List (Nat × Nat × Nat × Nat)} (S : CallFix p m c cc nL s args Ts own) (hM : vx_Met l y ws rm Pc Qc XC mc ms free) (cw : vx_CVW R s args own C index y bytes maxL ret hh ws rm mc ms n) (hp : PreV s H C b Pc As)
    (hg : g.method = m) (hn : As.length = n) (hsize : g.locals.size = nL) (hstack : g.stack = As.reverse ++ .ref b :: rest) (hW : 2 * g.monitorRoom + (rest.map fun v => v.category).sum ≤ 8) (hdg : decode cc g.pc = .ok (.invokevirtual index, 3)) (hf : cells + mc ≤ R.cells ∧ slots + ms ≤ R.slots) :
    vx_Run p l e R s m args below meth c H locs cells slots mc ms g rest (Qc (Value.ref b :: As).toArray) XC free := by
  obtain ⟨⟨hrc, hrs, hfr, hlo, hws, hcw⟩, hcode, hini, hy, hlen, hl, hin, hse⟩ := cw
  have hK : vx_Back l R p e below s args y 3 8 (PreOf R mc ms Pc) (PostOf Qc mc ms free) (vx_Post XC mc ms free) := vx_backW (hh := hh) (bytes := bytes) (maxL := maxL) (ret := ret) hM hp.1 hrc hrs hfr hlo hws hcw (fun a' U hW => word_at hW (Or.inl (by first | rfl | simp [Cond.onTables, Cond.keeps, Cond.steady])) hini)
  obtain ⟨hx, hb, hml, ho, -⟩ := S
  obtain ⟨-, ⟨cellB, hcB, hoB, hclB⟩, hPc⟩ := hp
  intro T hT X
  rcases vx_callVX X hx (C := C) (hh := hh) (bytes := bytes) (maxL := maxL) (ret := ret) ho hl hin hse hcode hy hK (by rw [hT]; exact hcB) hoB hclB hg (hsize.trans hml.symm) (argsL := As) (rest := rest) (fun sig h => hn.trans (hlen sig h)) hstack hW (by rw [hb]; exact hdg)
    (fun vm₁ hW₁ => ⟨hf.1, hf.2, hPc (T.setVm vm₁) hT hW₁⟩) with ⟨v, vm₁, ⟨U', l2, c2, s2⟩, hW₁, X', ⟨g', mk, t, L, e1, e2, hq, h1, hL, h2, h3⟩, st⟩ | ⟨q, vm₁, ⟨U', l2, c2, s2⟩, hW₁, X', ⟨g', mk, t, L, E, ce, e1, e2, hq, hce, hcv, hcl, h1, hL, h2, h3⟩, st⟩
  · dsimp only [Pt.U, Pt.locs, Pt.cells, Pt.slots] at X' e1 e2 h1 h2 h3 st
    subst h1; subst h2; subst h3
    exact Or.inl ⟨v, (T.setVm vm₁).calling g' mk (Value.ref b :: As).toArray, t, U', L, hT, X', hL, e1, e2, hq, st⟩
  · dsimp only [Pt.U, Pt.locs, Pt.cells, Pt.slots] at X' e1 e2 h1 h2 h3 st hcl
    subst h1; subst h2; subst h3
    exact Or.inr ⟨q, (T.setVm vm₁).calling g' mk (Value.ref b :: As).toArray, t, U', L, E, ce, hT, X', hL, e1, e2, hq, hce, hcv, vx_cls hW₁ hcl, st⟩
theorem vx_runSX {hh : List (Nat × Nat × Nat × Nat)} (S : CallFix p m c cc nL s args Ts own) (hM : vx_Met l y ws rm Pc Qc XC mc ms free) (cw : vx_CSW R s args own index y bytes maxL ret hh ws rm mc ms n) (hp : PreS s H Pc As)
    (hg : g.method = m) (hn : As.length = n) (hsize : g.locals.size = nL) (hstack : g.stack = As.reverse ++ rest) (hW : 2 * g.monitorRoom + (rest.map fun v => v.category).sum ≤ 8) (hdg : decode cc g.pc = .ok (.invokestatic index, 3)) (hf : cells + mc ≤ R.cells ∧ slots + ms ≤ R.slots) :
    vx_Run p l e R s m args below meth c H locs cells slots mc ms g rest (Qc As.toArray) XC free := by
  obtain ⟨⟨hrc, hrs, hfr, hlo, hws, hcw⟩, hcode, hini, hy, hlen, hl, hstt⟩ := cw
  have hK : vx_Back l R p e below s args y 3 8 (PreOf R mc ms Pc) (PostOf Qc mc ms free) (vx_Post XC mc ms free) := vx_backW (hh := hh) (bytes := bytes) (maxL := maxL) (ret := ret) hM hp.1 hrc hrs hfr hlo hws hcw (fun a' U hW => word_at hW (Or.inl (by first | rfl | simp [Cond.onTables, Cond.keeps, Cond.steady])) hini)
  obtain ⟨hx, hb, hml, ho, -⟩ := S
  intro T hT X
  rcases vx_callSX X hx (hh := hh) (bytes := bytes) (maxL := maxL) (ret := ret) ho hl hstt hini hcode hy hK hg (hsize.trans hml.symm) (argsL := As) (rest := rest) (fun sig h => hn.trans (hlen sig h)) hstack hW (by rw [hb]; exact hdg)
    (fun vm₁ hW₁ => ⟨hf.1, hf.2, hp.2 (T.setVm vm₁) hT hW₁⟩) with ⟨v, vm₁, ⟨U', l2, c2, s2⟩, hW₁, X', ⟨g', mk, t, L, e1, e2, hq, h1, hL, h2, h3⟩, st⟩ | ⟨q, vm₁, ⟨U', l2, c2, s2⟩, hW₁, X', ⟨g', mk, t, L, E, ce, e1, e2, hq, hce, hcv, hcl, h1, hL, h2, h3⟩, st⟩
  · dsimp only [Pt.U, Pt.locs, Pt.cells, Pt.slots] at X' e1 e2 h1 h2 h3 st
    subst h1; subst h2; subst h3
    exact Or.inl ⟨v, (T.setVm vm₁).calling g' mk As.toArray, t, U', L, hT, X', hL, e1, e2, hq, st⟩
  · dsimp only [Pt.U, Pt.locs, Pt.cells, Pt.slots] at X' e1 e2 h1 h2 h3 st hcl
    subst h1; subst h2; subst h3
    exact Or.inr ⟨q, (T.setVm vm₁).calling g' mk As.toArray, t, U', L, E, ce, hT, X', hL, e1, e2, hq, hce, hcv, vx_cls hW₁ hcl, st⟩
end
end VXH
theorem vx_ofWH {l : Launch} {y : MethodName} {ws ws' : List Cond} {rm : Room} {Pc : Array Value → State → Prop} {Qc : Array Value → State → Outcome → State → Prop} {XC : String → State → State → Prop} {mc ms : Nat} {free : Addr → Prop} {cc : ByteArray} {maxL : Nat} {ret : Option FieldType} {hh : List (Nat × Nat × Nat × Nat)}
    (hy : plainName y.cls = true) (hw : ws = Cond.codeWith y cc maxL ret hh :: ws')
    (body : ∀ p e s m args below meth c s₁, BodyLoose p l y (headSpec ws rm) cc maxL ret e s m args below meth c s₁ → c.maxLocals = maxL → Pc args s →
      W p l e (headSpec ws rm).room s m args below meth c s.heap [] 0 0 (vx_MQ below Qc XC args s mc ms free) (entryFrame m args maxL)) : vx_Met l y ws rm Pc Qc XC mc ms free := by
  refine MetFree.of_bodyS (code := cc) (maxLocals := maxL) (ret := ret) hy ?_ ?_
  · intro args s m h hn
    obtain ⟨m9, meth, c, hn9, h1, h2, h3, h4, -, h5, h6, -⟩ := Cond.codeWith_spec (atoms_spec (ws := ws) h _ (by rw [hw]; exact List.mem_cons_self))
    cases hn.symm.trans hn9
    exact ⟨meth, c, h1, h2, h3, h4, h5, h6⟩
  · intro p e s m args below meth c s₁ B hml hP _
    have hh0 : s₁.heap = s.heap := by rw [B.state]; rfl
    obtain ⟨t, a1, o, b1, b2, b3⟩ := body p e s m args below meth c s₁ B hml hP s₁ hh0 (Stand.of_body B)
    exact ⟨t, o, a1, b1, b2, b3⟩
/-! ===== END ===== -/
end
section
/-! ===== BEGIN printed: names, fields, word lists, decode rows ===== -/
def RX0 : String := "WaveUpgrade$1"
def TX0 : u_T := fun k => match k with
  | _ => ("", "", "", false)
def tyX0 : Nat → FieldType := fun k => match k with
  | _ => .int
abbrev wsX00 : List Cond := u_ws RX0 TX0 0
theorem nmX0 : ∀ a, a < 0 → ∀ b, b < 0 → a ≠ b → (TX0 a).2.1 ≠ (TX0 b).2.1 := by decide +kernel
theorem tyX0_ok : ∀ k, k < 0 → parseFieldDescriptor (TX0 k).2.2.1 = some (tyX0 k) := by decide +kernel
def RX1 : String := "WaveUpgrade$ClusterReader"
def TX1 : u_T := fun k => match k with
  | 0 => ("WaveUpgrade$ClusterReader", "text", "LWaveUpgrade$Text;", true)
  | 1 => ("WaveUpgrade$ClusterReader", "draft", "LWaveUpgrade$State;", true)
  | 2 => ("WaveUpgrade$ClusterReader", "layout", "LWaveUpgrade$Layout;", true)
  | _ => ("WaveUpgrade$ClusterReader", "told", "I", false)
def tyX1 : Nat → FieldType := fun k => match k with
  | 0 => .object "WaveUpgrade$Text"
  | 1 => .object "WaveUpgrade$State"
  | 2 => .object "WaveUpgrade$Layout"
  | _ => .int
abbrev wsX10 : List Cond := u_ws RX1 TX1 4
theorem nmX1 : ∀ a, a < 4 → ∀ b, b < 4 → a ≠ b → (TX1 a).2.1 ≠ (TX1 b).2.1 := by decide +kernel
theorem tyX1_ok : ∀ k, k < 4 → parseFieldDescriptor (TX1 k).2.2.1 = some (tyX1 k) := by decide +kernel
abbrev cX1_init : ByteArray := prog_3_method_1_code
def yX1_init : MethodName := ⟨RX1, "<init>", "(LWaveUpgrade$Text;LWaveUpgrade$State;)V"⟩
abbrev cX1_readAll : ByteArray := prog_3_method_2_code
def yX1_readAll : MethodName := ⟨RX1, "readAll", "()Z"⟩
abbrev cX1_readStatement : ByteArray := prog_3_method_3_code
def yX1_readStatement : MethodName := ⟨RX1, "readStatement", "()Z"⟩
abbrev cX1_errorOfFirstWord : ByteArray := prog_3_method_4_code
def yX1_errorOfFirstWord : MethodName := ⟨RX1, "errorOfFirstWord", "(LWaveUpgrade$Statement;)I"⟩
abbrev cX1_readRest : ByteArray := prog_3_method_5_code
def yX1_readRest : MethodName := ⟨RX1, "readRest", "(LWaveUpgrade$Statement;)Z"⟩
abbrev cX1_readVersion : ByteArray := prog_3_method_6_code
def yX1_readVersion : MethodName := ⟨RX1, "readVersion", "()Z"⟩
abbrev cX1_readTalks : ByteArray := prog_3_method_7_code
def yX1_readTalks : MethodName := ⟨RX1, "readTalks", "()Z"⟩
abbrev cX1_readPlace : ByteArray := prog_3_method_8_code
def yX1_readPlace : MethodName := ⟨RX1, "readPlace", "()Z"⟩
abbrev cX1_readMember : ByteArray := prog_3_method_9_code
def yX1_readMember : MethodName := ⟨RX1, "readMember", "()Z"⟩
abbrev cX1_readLink : ByteArray := prog_3_method_10_code
def yX1_readLink : MethodName := ⟨RX1, "readLink", "()Z"⟩
abbrev cX1_readWave : ByteArray := prog_3_method_11_code
def yX1_readWave : MethodName := ⟨RX1, "readWave", "()Z"⟩
abbrev cX1_readPlaceOfWave : ByteArray := prog_3_method_12_code
def yX1_readPlaceOfWave : MethodName := ⟨RX1, "readPlaceOfWave", "(I)Z"⟩
abbrev cX1_readSetting : ByteArray := prog_3_method_13_code
def yX1_readSetting : MethodName := ⟨RX1, "readSetting", "(LWaveUpgrade$Statement;)Z"⟩
def RX2 : String := "WaveUpgrade$Command"
def TX2 : u_T := fun k => match k with
  | _ => ("", "", "", false)
def tyX2 : Nat → FieldType := fun k => match k with
  | _ => .int
abbrev wsX20 : List Cond := u_ws RX2 TX2 0
theorem nmX2 : ∀ a, a < 0 → ∀ b, b < 0 → a ≠ b → (TX2 a).2.1 ≠ (TX2 b).2.1 := by decide +kernel
theorem tyX2_ok : ∀ k, k < 0 → parseFieldDescriptor (TX2 k).2.2.1 = some (tyX2 k) := by decide +kernel
def RX3 : String := "WaveUpgrade$Events"
def TX3 : u_T := fun k => match k with
  | 0 => ("WaveUpgrade$Events", "cells", "[I", true)
  | 1 => ("WaveUpgrade$Events", "count", "I", false)
  | _ => ("WaveUpgrade$Events", "newest", "I", false)
def tyX3 : Nat → FieldType := fun k => match k with
  | 0 => .array .int
  | 1 => .int
  | _ => .int
abbrev wsX30 : List Cond := u_ws RX3 TX3 3
theorem nmX3 : ∀ a, a < 3 → ∀ b, b < 3 → a ≠ b → (TX3 a).2.1 ≠ (TX3 b).2.1 := by decide +kernel
theorem tyX3_ok : ∀ k, k < 3 → parseFieldDescriptor (TX3 k).2.2.1 = some (tyX3 k) := by decide +kernel
abbrev cX3_init : ByteArray := prog_5_method_1_code
def yX3_init : MethodName := ⟨RX3, "<init>", "()V"⟩
abbrev cX3_copyFrom : ByteArray := prog_5_method_2_code
def yX3_copyFrom : MethodName := ⟨RX3, "copyFrom", "(LWaveUpgrade$Events;)V"⟩
abbrev cX3_add : ByteArray := prog_5_method_3_code
def yX3_add : MethodName := ⟨RX3, "add", "(IIII)V"⟩
abbrev cX3_cellOf : ByteArray := prog_5_method_4_code
def yX3_cellOf : MethodName := ⟨RX3, "cellOf", "(II)I"⟩
def RX4 : String := "WaveUpgrade$History"
def TX4 : u_T := fun k => match k with
  | 0 => ("WaveUpgrade$History", "row", "[LWaveUpgrade$State;", true)
  | 1 => ("WaveUpgrade$History", "count", "I", false)
  | _ => ("WaveUpgrade$History", "newest", "I", false)
def tyX4 : Nat → FieldType := fun k => match k with
  | 0 => .array (.object "WaveUpgrade$State")
  | 1 => .int
  | _ => .int
abbrev wsX40 : List Cond := u_ws RX4 TX4 3
theorem nmX4 : ∀ a, a < 3 → ∀ b, b < 3 → a ≠ b → (TX4 a).2.1 ≠ (TX4 b).2.1 := by decide +kernel
theorem tyX4_ok : ∀ k, k < 3 → parseFieldDescriptor (TX4 k).2.2.1 = some (tyX4 k) := by decide +kernel
abbrev cX4_init : ByteArray := prog_6_method_1_code
def yX4_init : MethodName := ⟨RX4, "<init>", "(LWaveUpgrade$Layout;)V"⟩
abbrev cX4_keep : ByteArray := prog_6_method_2_code
def yX4_keep : MethodName := ⟨RX4, "keep", "(LWaveUpgrade$State;)V"⟩
abbrev cX4_takeBack : ByteArray := prog_6_method_3_code
def yX4_takeBack : MethodName := ⟨RX4, "takeBack", "(LWaveUpgrade$State;)V"⟩
abbrev cX4_forget : ByteArray := prog_6_method_4_code
def yX4_forget : MethodName := ⟨RX4, "forget", "()V"⟩
def RX5 : String := "WaveUpgrade$Layout"
def TX5 : u_T := fun k => match k with
  | 0 => ("WaveUpgrade$Layout", "versions", "LWaveUpgrade$Names;", true)
  | 1 => ("WaveUpgrade$Layout", "lowest", "[I", true)
  | 2 => ("WaveUpgrade$Layout", "highest", "[I", true)
  | 3 => ("WaveUpgrade$Layout", "talkSets", "[I", true)
  | 4 => ("WaveUpgrade$Layout", "places", "LWaveUpgrade$Names;", true)
  | 5 => ("WaveUpgrade$Layout", "waveOfPlace", "[I", true)
  | 6 => ("WaveUpgrade$Layout", "placeSets", "[I", true)
  | 7 => ("WaveUpgrade$Layout", "waveSets", "[I", true)
  | 8 => ("WaveUpgrade$Layout", "members", "LWaveUpgrade$Names;", true)
  | 9 => ("WaveUpgrade$Layout", "placeOf", "[I", true)
  | 10 => ("WaveUpgrade$Layout", "partnersOf", "[I", true)
  | 11 => ("WaveUpgrade$Layout", "links", "I", false)
  | 12 => ("WaveUpgrade$Layout", "waves", "I", false)
  | 13 => ("WaveUpgrade$Layout", "skew", "I", false)
  | 14 => ("WaveUpgrade$Layout", "mostDown", "I", false)
  | 15 => ("WaveUpgrade$Layout", "takes", "I", false)
  | 16 => ("WaveUpgrade$Layout", "soak", "I", false)
  | _ => ("WaveUpgrade$Layout", "limit", "I", false)
def tyX5 : Nat → FieldType := fun k => match k with
  | 0 => .object "WaveUpgrade$Names"
  | 1 => .array .int
  | 2 => .array .int
  | 3 => .array .int
  | 4 => .object "WaveUpgrade$Names"
  | 5 => .array .int
  | 6 => .array .int
  | 7 => .array .int
  | 8 => .object "WaveUpgrade$Names"
  | 9 => .array .int
  | 10 => .array .int
  | 11 => .int
  | 12 => .int
  | 13 => .int
  | 14 => .int
  | 15 => .int
  | 16 => .int
  | _ => .int
abbrev wsX50 : List Cond := u_ws RX5 TX5 18
theorem nmX5 : ∀ a, a < 18 → ∀ b, b < 18 → a ≠ b → (TX5 a).2.1 ≠ (TX5 b).2.1 := by decide +kernel
theorem tyX5_ok : ∀ k, k < 18 → parseFieldDescriptor (TX5 k).2.2.1 = some (tyX5 k) := by decide +kernel
abbrev cX5_init : ByteArray := prog_7_method_1_code
def yX5_init : MethodName := ⟨RX5, "<init>", "()V"⟩
abbrev cX5_reset : ByteArray := prog_7_method_2_code
def yX5_reset : MethodName := ⟨RX5, "reset", "()V"⟩
abbrev cX5_copyFrom : ByteArray := prog_7_method_3_code
def yX5_copyFrom : MethodName := ⟨RX5, "copyFrom", "(LWaveUpgrade$Layout;)V"⟩
abbrev cX5_numberOf : ByteArray := prog_7_method_4_code
def yX5_numberOf : MethodName := ⟨RX5, "numberOf", "(I)I"⟩
abbrev cX5_addVersion : ByteArray := prog_7_method_5_code
def yX5_addVersion : MethodName := ⟨RX5, "addVersion", "(JII)V"⟩
abbrev cX5_addTalk : ByteArray := prog_7_method_6_code
def yX5_addTalk : MethodName := ⟨RX5, "addTalk", "(II)V"⟩
abbrev cX5_addPlace : ByteArray := prog_7_method_7_code
def yX5_addPlace : MethodName := ⟨RX5, "addPlace", "(J)V"⟩
abbrev cX5_addWave : ByteArray := prog_7_method_8_code
def yX5_addWave : MethodName := ⟨RX5, "addWave", "()V"⟩
abbrev cX5_addToWave : ByteArray := prog_7_method_9_code
def yX5_addToWave : MethodName := ⟨RX5, "addToWave", "(II)V"⟩
abbrev cX5_addMember : ByteArray := prog_7_method_10_code
def yX5_addMember : MethodName := ⟨RX5, "addMember", "(JI)V"⟩
abbrev cX5_addLink : ByteArray := prog_7_method_11_code
def yX5_addLink : MethodName := ⟨RX5, "addLink", "(II)V"⟩
abbrev cX5_join : ByteArray := prog_7_method_12_code
def yX5_join : MethodName := ⟨RX5, "join", "(II)V"⟩
abbrev cX5_talkersOf : ByteArray := prog_7_method_13_code
def yX5_talkersOf : MethodName := ⟨RX5, "talkersOf", "(I)I"⟩
abbrev cX5_isReader : ByteArray := prog_7_method_14_code
def yX5_isReader : MethodName := ⟨RX5, "isReader", "(II)Z"⟩
abbrev cX5_readersOf : ByteArray := prog_7_method_15_code
def yX5_readersOf : MethodName := ⟨RX5, "readersOf", "(I)I"⟩
abbrev cX5_everyMember : ByteArray := prog_7_method_16_code
def yX5_everyMember : MethodName := ⟨RX5, "everyMember", "()I"⟩
abbrev cX5_neighboursOf : ByteArray := prog_7_method_17_code
def yX5_neighboursOf : MethodName := ⟨RX5, "neighboursOf", "(I)I"⟩
abbrev cX5_waveOf : ByteArray := prog_7_method_18_code
def yX5_waveOf : MethodName := ⟨RX5, "waveOf", "(I)I"⟩
abbrev cX5_plannedMembers : ByteArray := prog_7_method_19_code
def yX5_plannedMembers : MethodName := ⟨RX5, "plannedMembers", "()I"⟩
def RX6 : String := "WaveUpgrade$Names"
def TX6 : u_T := fun k => match k with
  | 0 => ("WaveUpgrade$Names", "row", "[J", true)
  | _ => ("WaveUpgrade$Names", "count", "I", false)
def tyX6 : Nat → FieldType := fun k => match k with
  | 0 => .array .long
  | _ => .int
abbrev wsX60 : List Cond := u_ws RX6 TX6 2
theorem nmX6 : ∀ a, a < 2 → ∀ b, b < 2 → a ≠ b → (TX6 a).2.1 ≠ (TX6 b).2.1 := by decide +kernel
theorem tyX6_ok : ∀ k, k < 2 → parseFieldDescriptor (TX6 k).2.2.1 = some (tyX6 k) := by decide +kernel
abbrev cX6_init : ByteArray := prog_8_method_1_code
def yX6_init : MethodName := ⟨RX6, "<init>", "(I)V"⟩
abbrev cX6_copyFrom : ByteArray := prog_8_method_2_code
def yX6_copyFrom : MethodName := ⟨RX6, "copyFrom", "(LWaveUpgrade$Names;)V"⟩
abbrev cX6_isFull : ByteArray := prog_8_method_3_code
def yX6_isFull : MethodName := ⟨RX6, "isFull", "()Z"⟩
abbrev cX6_numberOf : ByteArray := prog_8_method_4_code
def yX6_numberOf : MethodName := ⟨RX6, "numberOf", "(J)I"⟩
abbrev cX6_add : ByteArray := prog_8_method_6_code
def yX6_add : MethodName := ⟨RX6, "add", "(J)V"⟩
def RX7 : String := "WaveUpgrade$Program"
def TX7 : u_T := fun k => match k with
  | 0 => ("WaveUpgrade$Program", "commands", "[LWaveUpgrade$Command;", true)
  | 1 => ("WaveUpgrade$Program", "member", "[I", true)
  | 2 => ("WaveUpgrade$Program", "version", "[I", true)
  | 3 => ("WaveUpgrade$Program", "number", "[I", true)
  | 4 => ("WaveUpgrade$Program", "behind", "[I", true)
  | 5 => ("WaveUpgrade$Program", "count", "I", false)
  | 6 => ("WaveUpgrade$Program", "open", "[I", true)
  | 7 => ("WaveUpgrade$Program", "left", "[I", true)
  | 8 => ("WaveUpgrade$Program", "depth", "I", false)
  | _ => ("WaveUpgrade$Program", "at", "I", false)
def tyX7 : Nat → FieldType := fun k => match k with
  | 0 => .array (.object "WaveUpgrade$Command")
  | 1 => .array .int
  | 2 => .array .int
  | 3 => .array .int
  | 4 => .array .int
  | 5 => .int
  | 6 => .array .int
  | 7 => .array .int
  | 8 => .int
  | _ => .int
abbrev wsX70 : List Cond := u_ws RX7 TX7 10
theorem nmX7 : ∀ a, a < 10 → ∀ b, b < 10 → a ≠ b → (TX7 a).2.1 ≠ (TX7 b).2.1 := by decide +kernel
theorem tyX7_ok : ∀ k, k < 10 → parseFieldDescriptor (TX7 k).2.2.1 = some (tyX7 k) := by decide +kernel
abbrev cX7_init : ByteArray := prog_9_method_1_code
def yX7_init : MethodName := ⟨RX7, "<init>", "()V"⟩
def RX8 : String := "WaveUpgrade$State"
def TX8 : u_T := fun k => match k with
  | 0 => ("WaveUpgrade$State", "layout", "LWaveUpgrade$Layout;", true)
  | 1 => ("WaveUpgrade$State", "clock", "I", false)
  | 2 => ("WaveUpgrade$State", "format", "I", false)
  | 3 => ("WaveUpgrade$State", "version", "[I", true)
  | 4 => ("WaveUpgrade$State", "coming", "[I", true)
  | 5 => ("WaveUpgrade$State", "upAt", "[I", true)
  | 6 => ("WaveUpgrade$State", "measure", "[I", true)
  | 7 => ("WaveUpgrade$State", "downSet", "I", false)
  | 8 => ("WaveUpgrade$State", "held", "I", false)
  | 9 => ("WaveUpgrade$State", "planState", "I", false)
  | 10 => ("WaveUpgrade$State", "target", "I", false)
  | 11 => ("WaveUpgrade$State", "step", "I", false)
  | 12 => ("WaveUpgrade$State", "goesUp", "Z", false)
  | 13 => ("WaveUpgrade$State", "wave", "I", false)
  | 14 => ("WaveUpgrade$State", "soakEnd", "I", false)
  | _ => ("WaveUpgrade$State", "events", "LWaveUpgrade$Events;", true)
def tyX8 : Nat → FieldType := fun k => match k with
  | 0 => .object "WaveUpgrade$Layout"
  | 1 => .int
  | 2 => .int
  | 3 => .array .int
  | 4 => .array .int
  | 5 => .array .int
  | 6 => .array .int
  | 7 => .int
  | 8 => .int
  | 9 => .int
  | 10 => .int
  | 11 => .int
  | 12 => .boolean
  | 13 => .int
  | 14 => .int
  | _ => .object "WaveUpgrade$Events"
abbrev wsX80 : List Cond := u_ws RX8 TX8 16
theorem nmX8 : ∀ a, a < 16 → ∀ b, b < 16 → a ≠ b → (TX8 a).2.1 ≠ (TX8 b).2.1 := by decide +kernel
theorem tyX8_ok : ∀ k, k < 16 → parseFieldDescriptor (TX8 k).2.2.1 = some (tyX8 k) := by decide +kernel
abbrev cX8_init : ByteArray := prog_10_method_1_code
def yX8_init : MethodName := ⟨RX8, "<init>", "(LWaveUpgrade$Layout;)V"⟩
abbrev cX8_reset : ByteArray := prog_10_method_2_code
def yX8_reset : MethodName := ⟨RX8, "reset", "()V"⟩
abbrev cX8_copyFrom : ByteArray := prog_10_method_3_code
def yX8_copyFrom : MethodName := ⟨RX8, "copyFrom", "(LWaveUpgrade$State;)V"⟩
abbrev cX8_replaceBy : ByteArray := prog_10_method_4_code
def yX8_replaceBy : MethodName := ⟨RX8, "replaceBy", "(LWaveUpgrade$State;)V"⟩
abbrev cX8_addMember : ByteArray := prog_10_method_5_code
def yX8_addMember : MethodName := ⟨RX8, "addMember", "(JIIZ)V"⟩
abbrev cX8_canJoin : ByteArray := prog_10_method_6_code
def yX8_canJoin : MethodName := ⟨RX8, "canJoin", "(II)Z"⟩
abbrev cX8_isUp : ByteArray := prog_10_method_10_code
def yX8_isUp : MethodName := ⟨RX8, "isUp", "(I)Z"⟩
abbrev cX8_numberOfMember : ByteArray := prog_10_method_12_code
def yX8_numberOfMember : MethodName := ⟨RX8, "numberOfMember", "(II)I"⟩
abbrev cX8_lowestComing : ByteArray := prog_10_method_13_code
def yX8_lowestComing : MethodName := ⟨RX8, "lowestComing", "(I)I"⟩
abbrev cX8_highestComing : ByteArray := prog_10_method_14_code
def yX8_highestComing : MethodName := ⟨RX8, "highestComing", "(I)I"⟩
abbrev cX8_whyNotBegin : ByteArray := prog_10_method_15_code
def yX8_whyNotBegin : MethodName := ⟨RX8, "whyNotBegin", "(II)I"⟩
abbrev cX8_opponents : ByteArray := prog_10_method_16_code
def yX8_opponents : MethodName := ⟨RX8, "opponents", "(II)I"⟩
abbrev cX8_beginChange : ByteArray := prog_10_method_18_code
def yX8_beginChange : MethodName := ⟨RX8, "beginChange", "(II)I"⟩
abbrev cX8_endChanges : ByteArray := prog_10_method_19_code
def yX8_endChanges : MethodName := ⟨RX8, "endChanges", "()V"⟩
abbrev cX8_setHeld : ByteArray := prog_10_method_20_code
def yX8_setHeld : MethodName := ⟨RX8, "setHeld", "(IZ)I"⟩
abbrev cX8_setMeasure : ByteArray := prog_10_method_21_code
def yX8_setMeasure : MethodName := ⟨RX8, "setMeasure", "(II)I"⟩
abbrev cX8_isReadByAll : ByteArray := prog_10_method_22_code
def yX8_isReadByAll : MethodName := ⟨RX8, "isReadByAll", "(I)Z"⟩
abbrev cX8_whyNotFormat : ByteArray := prog_10_method_23_code
def yX8_whyNotFormat : MethodName := ⟨RX8, "whyNotFormat", "(I)I"⟩
abbrev cX8_setFormat : ByteArray := prog_10_method_24_code
def yX8_setFormat : MethodName := ⟨RX8, "setFormat", "(I)I"⟩
abbrev cX8_lowestWayBack : ByteArray := prog_10_method_25_code
def yX8_lowestWayBack : MethodName := ⟨RX8, "lowestWayBack", "()I"⟩
abbrev cX8_isActive : ByteArray := prog_10_method_26_code
def yX8_isActive : MethodName := ⟨RX8, "isActive", "()Z"⟩
abbrev cX8_isUnderWay : ByteArray := prog_10_method_27_code
def yX8_isUnderWay : MethodName := ⟨RX8, "isUnderWay", "()Z"⟩
abbrev cX8_numberOfPlan : ByteArray := prog_10_method_28_code
def yX8_numberOfPlan : MethodName := ⟨RX8, "numberOfPlan", "(I)I"⟩
abbrev cX8_canStart : ByteArray := prog_10_method_29_code
def yX8_canStart : MethodName := ⟨RX8, "canStart", "()Z"⟩
abbrev cX8_startPlan : ByteArray := prog_10_method_30_code
def yX8_startPlan : MethodName := ⟨RX8, "startPlan", "(I)I"⟩
abbrev cX8_finishPlan : ByteArray := prog_10_method_31_code
def yX8_finishPlan : MethodName := ⟨RX8, "finishPlan", "()V"⟩
abbrev cX8_stopPlan : ByteArray := prog_10_method_32_code
def yX8_stopPlan : MethodName := ⟨RX8, "stopPlan", "()I"⟩
abbrev cX8_resumePlan : ByteArray := prog_10_method_33_code
def yX8_resumePlan : MethodName := ⟨RX8, "resumePlan", "()I"⟩
abbrev cX8_reachedOf : ByteArray := prog_10_method_34_code
def yX8_reachedOf : MethodName := ⟨RX8, "reachedOf", "(I)I"⟩
abbrev cX8_measuredSet : ByteArray := prog_10_method_35_code
def yX8_measuredSet : MethodName := ⟨RX8, "measuredSet", "()I"⟩
abbrev cX8_sumOfMeasures : ByteArray := prog_10_method_36_code
def yX8_sumOfMeasures : MethodName := ⟨RX8, "sumOfMeasures", "(I)I"⟩
abbrev cX8_laggards : ByteArray := prog_10_method_37_code
def yX8_laggards : MethodName := ⟨RX8, "laggards", "()I"⟩
abbrev cX8_canPass : ByteArray := prog_10_method_38_code
def yX8_canPass : MethodName := ⟨RX8, "canPass", "(I)Z"⟩
abbrev cX8_passMinutes : ByteArray := prog_10_method_39_code
def yX8_passMinutes : MethodName := ⟨RX8, "passMinutes", "(I)I"⟩
abbrev cX8_passMinute : ByteArray := prog_10_method_40_code
def yX8_passMinute : MethodName := ⟨RX8, "passMinute", "()I"⟩
abbrev cX8_isOverLimit : ByteArray := prog_10_method_41_code
def yX8_isOverLimit : MethodName := ⟨RX8, "isOverLimit", "()Z"⟩
abbrev cX8_leaveWave : ByteArray := prog_10_method_42_code
def yX8_leaveWave : MethodName := ⟨RX8, "leaveWave", "()V"⟩
abbrev cX8_beginChanges : ByteArray := prog_10_method_43_code
def yX8_beginChanges : MethodName := ⟨RX8, "beginChanges", "()I"⟩
abbrev cX8_soakIfComplete : ByteArray := prog_10_method_44_code
def yX8_soakIfComplete : MethodName := ⟨RX8, "soakIfComplete", "()V"⟩
abbrev cX8_minutesToDone : ByteArray := prog_10_method_47_code
def yX8_minutesToDone : MethodName := ⟨RX8, "minutesToDone", "(I)I"⟩
abbrev cX8_isStuck : ByteArray := prog_10_method_49_code
def yX8_isStuck : MethodName := ⟨RX8, "isStuck", "(I)Z"⟩
def RX9 : String := "WaveUpgrade$Statement"
def TX9 : u_T := fun k => match k with
  | _ => ("", "", "", false)
def tyX9 : Nat → FieldType := fun k => match k with
  | _ => .int
abbrev wsX90 : List Cond := u_ws RX9 TX9 0
theorem nmX9 : ∀ a, a < 0 → ∀ b, b < 0 → a ≠ b → (TX9 a).2.1 ≠ (TX9 b).2.1 := by decide +kernel
theorem tyX9_ok : ∀ k, k < 0 → parseFieldDescriptor (TX9 k).2.2.1 = some (tyX9 k) := by decide +kernel
abbrev cX9_at : ByteArray := prog_11_method_4_code
def yX9_at : MethodName := ⟨RX9, "at", "(LWaveUpgrade$Text;)LWaveUpgrade$Statement;"⟩
def RX10 : String := "WaveUpgrade$Text"
def TX10 : u_T := fun k => match k with
  | 0 => ("WaveUpgrade$Text", "bytes", "[B", true)
  | 1 => ("WaveUpgrade$Text", "length", "I", false)
  | 2 => ("WaveUpgrade$Text", "errorCode", "I", false)
  | 3 => ("WaveUpgrade$Text", "errorPosition", "I", false)
  | 4 => ("WaveUpgrade$Text", "kind", "I", false)
  | 5 => ("WaveUpgrade$Text", "position", "I", false)
  | 6 => ("WaveUpgrade$Text", "word", "J", false)
  | 7 => ("WaveUpgrade$Text", "number", "I", false)
  | _ => ("WaveUpgrade$Text", "behind", "I", false)
def tyX10 : Nat → FieldType := fun k => match k with
  | 0 => .array .byte
  | 1 => .int
  | 2 => .int
  | 3 => .int
  | 4 => .int
  | 5 => .int
  | 6 => .long
  | 7 => .int
  | _ => .int
abbrev wsX100 : List Cond := u_ws RX10 TX10 9
theorem nmX10 : ∀ a, a < 9 → ∀ b, b < 9 → a ≠ b → (TX10 a).2.1 ≠ (TX10 b).2.1 := by decide +kernel
theorem tyX10_ok : ∀ k, k < 9 → parseFieldDescriptor (TX10 k).2.2.1 = some (tyX10 k) := by decide +kernel
abbrev cX10_init : ByteArray := prog_12_method_1_code
def yX10_init : MethodName := ⟨RX10, "<init>", "()V"⟩
abbrev cX10_append : ByteArray := prog_12_method_2_code
def yX10_append : MethodName := ⟨RX10, "append", "(I)V"⟩
abbrev cX10_begin : ByteArray := prog_12_method_3_code
def yX10_begin : MethodName := ⟨RX10, "begin", "()V"⟩
abbrev cX10_fail : ByteArray := prog_12_method_4_code
def yX10_fail : MethodName := ⟨RX10, "fail", "(I)Z"⟩
abbrev cX10_advance : ByteArray := prog_12_method_5_code
def yX10_advance : MethodName := ⟨RX10, "advance", "()V"⟩
abbrev cX10_scanWord : ByteArray := prog_12_method_6_code
def yX10_scanWord : MethodName := ⟨RX10, "scanWord", "()V"⟩
abbrev cX10_scanNumber : ByteArray := prog_12_method_7_code
def yX10_scanNumber : MethodName := ⟨RX10, "scanNumber", "()V"⟩
abbrev cX10_isWord : ByteArray := prog_12_method_8_code
def yX10_isWord : MethodName := ⟨RX10, "isWord", "(Ljava/lang/String;)Z"⟩
abbrev cX10_takeSign : ByteArray := prog_12_method_9_code
def yX10_takeSign : MethodName := ⟨RX10, "takeSign", "(I)Z"⟩
abbrev cX10_takeNumber : ByteArray := prog_12_method_10_code
def yX10_takeNumber : MethodName := ⟨RX10, "takeNumber", "(II)I"⟩
abbrev cX10_takeNewName : ByteArray := prog_12_method_11_code
def yX10_takeNewName : MethodName := ⟨RX10, "takeNewName", "(LWaveUpgrade$Names;)J"⟩
abbrev cX10_findName : ByteArray := prog_12_method_12_code
def yX10_findName : MethodName := ⟨RX10, "findName", "(LWaveUpgrade$Names;)I"⟩
def RX11 : String := "WaveUpgrade"
def TX11 : u_T := fun k => match k with
  | 0 => ("WaveUpgrade", "text", "LWaveUpgrade$Text;", true)
  | 1 => ("WaveUpgrade", "state", "LWaveUpgrade$State;", true)
  | 2 => ("WaveUpgrade", "trial", "LWaveUpgrade$State;", true)
  | 3 => ("WaveUpgrade", "draft", "LWaveUpgrade$State;", true)
  | 4 => ("WaveUpgrade", "saved", "LWaveUpgrade$State;", true)
  | 5 => ("WaveUpgrade", "isSaved", "Z", false)
  | 6 => ("WaveUpgrade", "history", "LWaveUpgrade$History;", true)
  | 7 => ("WaveUpgrade", "reader", "LWaveUpgrade$ClusterReader;", true)
  | 8 => ("WaveUpgrade", "program", "LWaveUpgrade$Program;", true)
  | 9 => ("WaveUpgrade", "reportRow", "[B", true)
  | _ => ("WaveUpgrade", "reportLength", "I", false)
def tyX11 : Nat → FieldType := fun k => match k with
  | 0 => .object "WaveUpgrade$Text"
  | 1 => .object "WaveUpgrade$State"
  | 2 => .object "WaveUpgrade$State"
  | 3 => .object "WaveUpgrade$State"
  | 4 => .object "WaveUpgrade$State"
  | 5 => .boolean
  | 6 => .object "WaveUpgrade$History"
  | 7 => .object "WaveUpgrade$ClusterReader"
  | 8 => .object "WaveUpgrade$Program"
  | 9 => .array .byte
  | _ => .int
abbrev wsX110 : List Cond := u_ws RX11 TX11 11
theorem nmX11 : ∀ a, a < 11 → ∀ b, b < 11 → a ≠ b → (TX11 a).2.1 ≠ (TX11 b).2.1 := by decide +kernel
theorem tyX11_ok : ∀ k, k < 11 → parseFieldDescriptor (TX11 k).2.2.1 = some (tyX11 k) := by decide +kernel
abbrev cX11_init : ByteArray := prog_1_method_1_code
def yX11_init : MethodName := ⟨RX11, "<init>", "()V"⟩
abbrev cX11_feed : ByteArray := prog_1_method_2_code
def yX11_feed : MethodName := ⟨RX11, "feed", "(IIIII)I"⟩
abbrev cX11_truncate : ByteArray := prog_1_method_3_code
def yX11_truncate : MethodName := ⟨RX11, "truncate", "(I)I"⟩
abbrev cX11_readText : ByteArray := prog_1_method_4_code
def yX11_readText : MethodName := ⟨RX11, "readText", "()I"⟩
abbrev cX11_setting : ByteArray := prog_1_method_8_code
def yX11_setting : MethodName := ⟨RX11, "setting", "(I)I"⟩
abbrev cX11_mayTalk : ByteArray := prog_1_method_9_code
def yX11_mayTalk : MethodName := ⟨RX11, "mayTalk", "(II)Z"⟩
abbrev cX11_readers : ByteArray := prog_1_method_10_code
def yX11_readers : MethodName := ⟨RX11, "readers", "(I)I"⟩
abbrev cX11_member : ByteArray := prog_1_method_14_code
def yX11_member : MethodName := ⟨RX11, "member", "(II)I"⟩
abbrev cX11_partners : ByteArray := prog_1_method_15_code
def yX11_partners : MethodName := ⟨RX11, "partners", "(I)I"⟩
abbrev cX11_down : ByteArray := prog_1_method_17_code
def yX11_down : MethodName := ⟨RX11, "down", "(I)I"⟩
abbrev cX11_skewNow : ByteArray := prog_1_method_18_code
def yX11_skewNow : MethodName := ⟨RX11, "skewNow", "()I"⟩
abbrev cX11_reason : ByteArray := prog_1_method_19_code
def yX11_reason : MethodName := ⟨RX11, "reason", "(II)I"⟩
abbrev cX11_open : ByteArray := prog_1_method_20_code
def yX11_open : MethodName := ⟨RX11, "open", "(I)I"⟩
abbrev cX11_plan : ByteArray := prog_1_method_23_code
def yX11_plan : MethodName := ⟨RX11, "plan", "(I)I"⟩
abbrev cX11_whyNotCommit : ByteArray := prog_1_method_29_code
def yX11_whyNotCommit : MethodName := ⟨RX11, "whyNotCommit", "(I)I"⟩
abbrev cX11_wayBack : ByteArray := prog_1_method_31_code
def yX11_wayBack : MethodName := ⟨RX11, "wayBack", "()I"⟩
abbrev cX11_minutesToEnd : ByteArray := prog_1_method_32_code
def yX11_minutesToEnd : MethodName := ⟨RX11, "minutesToEnd", "(I)I"⟩
abbrev cX11_events : ByteArray := prog_1_method_37_code
def yX11_events : MethodName := ⟨RX11, "events", "()I"⟩
abbrev cX11_event : ByteArray := prog_1_method_38_code
def yX11_event : MethodName := ⟨RX11, "event", "(II)I"⟩
abbrev cX11_pass : ByteArray := prog_1_method_39_code
def yX11_pass : MethodName := ⟨RX11, "pass", "(I)I"⟩
abbrev cX11_start : ByteArray := prog_1_method_40_code
def yX11_start : MethodName := ⟨RX11, "start", "(I)I"⟩
abbrev cX11_stop : ByteArray := prog_1_method_41_code
def yX11_stop : MethodName := ⟨RX11, "stop", "()I"⟩
abbrev cX11_go : ByteArray := prog_1_method_42_code
def yX11_go : MethodName := ⟨RX11, "go", "()I"⟩
abbrev cX11_hold : ByteArray := prog_1_method_43_code
def yX11_hold : MethodName := ⟨RX11, "hold", "(IZ)I"⟩
abbrev cX11_report : ByteArray := prog_1_method_44_code
def yX11_report : MethodName := ⟨RX11, "report", "(II)I"⟩
abbrev cX11_change : ByteArray := prog_1_method_45_code
def yX11_change : MethodName := ⟨RX11, "change", "(II)I"⟩
abbrev cX11_commit : ByteArray := prog_1_method_46_code
def yX11_commit : MethodName := ⟨RX11, "commit", "(I)I"⟩
abbrev cX11_undo : ByteArray := prog_1_method_49_code
def yX11_undo : MethodName := ⟨RX11, "undo", "()I"⟩
abbrev cX11_needVersion : ByteArray := prog_1_method_52_code
def yX11_needVersion : MethodName := ⟨RX11, "needVersion", "(I)V"⟩
abbrev cX11_needMember : ByteArray := prog_1_method_53_code
def yX11_needMember : MethodName := ⟨RX11, "needMember", "(I)V"⟩
abbrev cX11_needFormat : ByteArray := prog_1_method_54_code
def yX11_needFormat : MethodName := ⟨RX11, "needFormat", "(I)V"⟩
abbrev cX11_needMeasure : ByteArray := prog_1_method_55_code
def yX11_needMeasure : MethodName := ⟨RX11, "needMeasure", "(I)V"⟩
abbrev cX11_needAhead : ByteArray := prog_1_method_56_code
def yX11_needAhead : MethodName := ⟨RX11, "needAhead", "(I)V"⟩
abbrev cX11_isIn : ByteArray := prog_1_method_60_code
def yX11_isIn : MethodName := ⟨RX11, "isIn", "(II)Z"⟩
abbrev cX11_copyRow : ByteArray := prog_1_method_61_code
def yX11_copyRow : MethodName := ⟨RX11, "copyRow", "([I[I)V"⟩
def RX12 : String := "WaveUpgradeLaw$Member"
def TX12 : u_T := fun k => match k with
  | 0 => ("WaveUpgradeLaw$Member", "place", "I", false)
  | 1 => ("WaveUpgradeLaw$Member", "version", "I", false)
  | 2 => ("WaveUpgradeLaw$Member", "next", "I", false)
  | 3 => ("WaveUpgradeLaw$Member", "until", "I", false)
  | 4 => ("WaveUpgradeLaw$Member", "measure", "I", false)
  | _ => ("WaveUpgradeLaw$Member", "isHeld", "Z", false)
def tyX12 : Nat → FieldType := fun k => match k with
  | 0 => .int
  | 1 => .int
  | 2 => .int
  | 3 => .int
  | 4 => .int
  | _ => .boolean
abbrev wsX120 : List Cond := u_ws RX12 TX12 6
theorem nmX12 : ∀ a, a < 6 → ∀ b, b < 6 → a ≠ b → (TX12 a).2.1 ≠ (TX12 b).2.1 := by decide +kernel
theorem tyX12_ok : ∀ k, k < 6 → parseFieldDescriptor (TX12 k).2.2.1 = some (tyX12 k) := by decide +kernel
abbrev cX12_init : ByteArray := prog_14_method_1_code
def yX12_init : MethodName := ⟨RX12, "<init>", "()V"⟩
abbrev cX12_isUp : ByteArray := prog_14_method_3_code
def yX12_isUp : MethodName := ⟨RX12, "isUp", "()Z"⟩
abbrev cX12_coming : ByteArray := prog_14_method_4_code
def yX12_coming : MethodName := ⟨RX12, "coming", "()I"⟩
def RX13 : String := "WaveUpgradeLaw$World"
def TX13 : u_T := fun k => match k with
  | 0 => ("WaveUpgradeLaw$World", "format", "I", false)
  | 1 => ("WaveUpgradeLaw$World", "skew", "I", false)
  | 2 => ("WaveUpgradeLaw$World", "down", "I", false)
  | 3 => ("WaveUpgradeLaw$World", "takes", "I", false)
  | 4 => ("WaveUpgradeLaw$World", "soak", "I", false)
  | 5 => ("WaveUpgradeLaw$World", "limit", "I", false)
  | 6 => ("WaveUpgradeLaw$World", "clock", "I", false)
  | 7 => ("WaveUpgradeLaw$World", "links", "I", false)
  | 8 => ("WaveUpgradeLaw$World", "state", "I", false)
  | 9 => ("WaveUpgradeLaw$World", "target", "I", false)
  | 10 => ("WaveUpgradeLaw$World", "step", "I", false)
  | 11 => ("WaveUpgradeLaw$World", "wave", "I", false)
  | 12 => ("WaveUpgradeLaw$World", "end", "I", false)
  | 13 => ("WaveUpgradeLaw$World", "was", "I", false)
  | 14 => ("WaveUpgradeLaw$World", "isUp", "Z", false)
  | 15 => ("WaveUpgradeLaw$World", "versions", "I", false)
  | 16 => ("WaveUpgradeLaw$World", "places", "I", false)
  | 17 => ("WaveUpgradeLaw$World", "waves", "I", false)
  | 18 => ("WaveUpgradeLaw$World", "low", "[I", false)
  | 19 => ("WaveUpgradeLaw$World", "high", "[I", false)
  | 20 => ("WaveUpgradeLaw$World", "waveOf", "[I", false)
  | 21 => ("WaveUpgradeLaw$World", "talks", "[[Z", false)
  | 22 => ("WaveUpgradeLaw$World", "linked", "[[Z", false)
  | 23 => ("WaveUpgradeLaw$World", "members", "Ljava/util/List;", false)
  | 24 => ("WaveUpgradeLaw$World", "events", "Ljava/util/List;", false)
  | 25 => ("WaveUpgradeLaw$World", "text", "Ljava/lang/String;", false)
  | 26 => ("WaveUpgradeLaw$World", "s", "[I", false)
  | _ => ("WaveUpgradeLaw$World", "at", "I", false)
def tyX13 : Nat → FieldType := fun k => match k with
  | 0 => .int
  | 1 => .int
  | 2 => .int
  | 3 => .int
  | 4 => .int
  | 5 => .int
  | 6 => .int
  | 7 => .int
  | 8 => .int
  | 9 => .int
  | 10 => .int
  | 11 => .int
  | 12 => .int
  | 13 => .int
  | 14 => .boolean
  | 15 => .int
  | 16 => .int
  | 17 => .int
  | 18 => .array .int
  | 19 => .array .int
  | 20 => .array .int
  | 21 => .array (.array .boolean)
  | 22 => .array (.array .boolean)
  | 23 => .object "java/util/List"
  | 24 => .object "java/util/List"
  | 25 => .object "java/lang/String"
  | 26 => .array .int
  | _ => .int
abbrev wsX130 : List Cond := u_ws RX13 TX13 28
theorem nmX13 : ∀ a, a < 28 → ∀ b, b < 28 → a ≠ b → (TX13 a).2.1 ≠ (TX13 b).2.1 := by decide +kernel
theorem tyX13_ok : ∀ k, k < 28 → parseFieldDescriptor (TX13 k).2.2.1 = some (tyX13 k) := by decide +kernel
abbrev cX13_init : ByteArray := prog_15_method_1_code
def yX13_init : MethodName := ⟨RX13, "<init>", "()V"⟩
abbrev cX13_next : ByteArray := prog_15_method_2_code
def yX13_next : MethodName := ⟨RX13, "next", "(I)I"⟩
abbrev cX13_name : ByteArray := prog_15_method_3_code
def yX13_name : MethodName := ⟨RX13, "name", "(Ljava/lang/String;I)Ljava/lang/String;"⟩
abbrev cX13_grown : ByteArray := prog_15_method_4_code
def yX13_grown : MethodName := ⟨RX13, "grown", "([I)LWaveUpgradeLaw$World;"⟩
abbrev cX13_talk : ByteArray := prog_15_method_5_code
def yX13_talk : MethodName := ⟨RX13, "talk", "(Ljava/lang/StringBuilder;II)V"⟩
abbrev cX13_member : ByteArray := prog_15_method_6_code
def yX13_member : MethodName := ⟨RX13, "member", "(Ljava/lang/StringBuilder;)V"⟩
abbrev cX13_link : ByteArray := prog_15_method_7_code
def yX13_link : MethodName := ⟨RX13, "link", "(Ljava/lang/StringBuilder;)V"⟩
abbrev cX13_inWave : ByteArray := prog_15_method_8_code
def yX13_inWave : MethodName := ⟨RX13, "inWave", "(Ljava/lang/StringBuilder;I)V"⟩
abbrev cX13_talk_ : ByteArray := prog_15_method_10_code
def yX13_talk_ : MethodName := ⟨RX13, "talk", "(II)Z"⟩
abbrev cX13_reads : ByteArray := prog_15_method_11_code
def yX13_reads : MethodName := ⟨RX13, "reads", "(II)Z"⟩
abbrev cX13_partners : ByteArray := prog_15_method_12_code
def yX13_partners : MethodName := ⟨RX13, "partners", "(II)Z"⟩
abbrev cX13_downIn : ByteArray := prog_15_method_13_code
def yX13_downIn : MethodName := ⟨RX13, "downIn", "(I)I"⟩
abbrev cX13_why : ByteArray := prog_15_method_14_code
def yX13_why : MethodName := ⟨RX13, "why", "(II)I"⟩
abbrev cX13_note : ByteArray := prog_15_method_15_code
def yX13_note : MethodName := ⟨RX13, "note", "(III)V"⟩
abbrev cX13_hasPlan : ByteArray := prog_15_method_16_code
def yX13_hasPlan : MethodName := ⟨RX13, "hasPlan", "()Z"⟩
abbrev cX13_isGoing : ByteArray := prog_15_method_17_code
def yX13_isGoing : MethodName := ⟨RX13, "isGoing", "()Z"⟩
abbrev cX13_waveAt : ByteArray := prog_15_method_18_code
def yX13_waveAt : MethodName := ⟨RX13, "waveAt", "(I)I"⟩
abbrev cX13_isReady : ByteArray := prog_15_method_19_code
def yX13_isReady : MethodName := ⟨RX13, "isReady", "(I)Z"⟩
abbrev cX13_measures : ByteArray := prog_15_method_20_code
def yX13_measures : MethodName := ⟨RX13, "measures", "()[I"⟩
abbrev cX13_begin : ByteArray := prog_15_method_21_code
def yX13_begin : MethodName := ⟨RX13, "begin", "(II)V"⟩
abbrev cX13_stop : ByteArray := prog_15_method_22_code
def yX13_stop : MethodName := ⟨RX13, "stop", "()V"⟩
abbrev cX13_minute : ByteArray := prog_15_method_23_code
def yX13_minute : MethodName := ⟨RX13, "minute", "()V"⟩
abbrev cX13_start : ByteArray := prog_15_method_24_code
def yX13_start : MethodName := ⟨RX13, "start", "(I)I"⟩
abbrev cX13_go : ByteArray := prog_15_method_25_code
def yX13_go : MethodName := ⟨RX13, "go", "()I"⟩
abbrev cX13_hold : ByteArray := prog_15_method_26_code
def yX13_hold : MethodName := ⟨RX13, "hold", "(IZ)I"⟩
abbrev cX13_whyCommit : ByteArray := prog_15_method_27_code
def yX13_whyCommit : MethodName := ⟨RX13, "whyCommit", "(I)I"⟩
abbrev cX13_commit : ByteArray := prog_15_method_28_code
def yX13_commit : MethodName := ⟨RX13, "commit", "(I)I"⟩
def RX14 : String := "WaveUpgradeModel"
def TX14 : u_T := fun k => match k with
  | _ => ("", "", "", false)
def tyX14 : Nat → FieldType := fun k => match k with
  | _ => .int
abbrev wsX140 : List Cond := u_ws RX14 TX14 0
theorem nmX14 : ∀ a, a < 0 → ∀ b, b < 0 → a ≠ b → (TX14 a).2.1 ≠ (TX14 b).2.1 := by decide +kernel
theorem tyX14_ok : ∀ k, k < 0 → parseFieldDescriptor (TX14 k).2.2.1 = some (tyX14 k) := by decide +kernel
def RJx145de : String := "java/io/Serializable"
def TJx145de : u_T := fun k => match k with
  | _ => ("", "", "", false)
def tyJx145de : Nat → FieldType := fun k => match k with
  | _ => .int
abbrev wsJx145de0 : List Cond := u_ws RJx145de TJx145de 0
theorem nmJx145de : ∀ a, a < 0 → ∀ b, b < 0 → a ≠ b → (TJx145de a).2.1 ≠ (TJx145de b).2.1 := by decide +kernel
theorem tyJx145de_ok : ∀ k, k < 0 → parseFieldDescriptor (TJx145de k).2.2.1 = some (tyJx145de k) := by decide +kernel
def RJ5 : String := "java/lang/AbstractStringBuilder"
def TJ5 : u_T := fun k => match k with
  | _ => ("", "", "", false)
def tyJ5 : Nat → FieldType := fun k => match k with
  | _ => .int
abbrev wsJ50 : List Cond := u_ws RJ5 TJ5 0
theorem nmJ5 : ∀ a, a < 0 → ∀ b, b < 0 → a ≠ b → (TJ5 a).2.1 ≠ (TJ5 b).2.1 := by decide +kernel
theorem tyJ5_ok : ∀ k, k < 0 → parseFieldDescriptor (TJ5 k).2.2.1 = some (tyJ5 k) := by decide +kernel
abbrev cJ5_init_d00df : ByteArray := prog_18_method_2_code
def yJ5_init_d00df : MethodName := ⟨RJ5, "<init>", "(I)V"⟩
abbrev cJ5_length_8abf5 : ByteArray := prog_18_method_6_code
def yJ5_length_8abf5 : MethodName := ⟨RJ5, "length", "()I"⟩
abbrev cJ5_ensureCapacityInternal_d00df : ByteArray := prog_18_method_9_code
def yJ5_ensureCapacityInternal_d00df : MethodName := ⟨RJ5, "ensureCapacityInternal", "(I)V"⟩
abbrev cJ5_newCapacity_0f7a4 : ByteArray := prog_18_method_10_code
def yJ5_newCapacity_0f7a4 : MethodName := ⟨RJ5, "newCapacity", "(I)I"⟩
abbrev cJ5_inflate_da8c8 : ByteArray := prog_18_method_11_code
def yJ5_inflate_da8c8 : MethodName := ⟨RJ5, "inflate", "()V"⟩
abbrev cJ5_append_cf1ce : ByteArray := prog_18_method_22_code
def yJ5_append_cf1ce : MethodName := ⟨RJ5, "append", "(Ljava/lang/String;)Ljava/lang/AbstractStringBuilder;"⟩
abbrev cJ5_appendNull_278bc : ByteArray := prog_18_method_26_code
def yJ5_appendNull_278bc : MethodName := ⟨RJ5, "appendNull", "()Ljava/lang/AbstractStringBuilder;"⟩
abbrev cJ5_append_3fe6f : ByteArray := prog_18_method_31_code
def yJ5_append_3fe6f : MethodName := ⟨RJ5, "append", "(C)Ljava/lang/AbstractStringBuilder;"⟩
abbrev cJ5_append_c97b9 : ByteArray := prog_18_method_32_code
def yJ5_append_c97b9 : MethodName := ⟨RJ5, "append", "(I)Ljava/lang/AbstractStringBuilder;"⟩
abbrev cJ5_getValue_6d5f1 : ByteArray := prog_18_method_64_code
def yJ5_getValue_6d5f1 : MethodName := ⟨RJ5, "getValue", "()[B"⟩
abbrev cJ5_isLatin1_aae02 : ByteArray := prog_18_method_68_code
def yJ5_isLatin1_aae02 : MethodName := ⟨RJ5, "isLatin1", "()Z"⟩
abbrev cJ5_inflateIfNeededFor_a7421 : ByteArray := prog_18_method_71_code
def yJ5_inflateIfNeededFor_a7421 : MethodName := ⟨RJ5, "inflateIfNeededFor", "(Ljava/lang/String;)V"⟩
abbrev cJ5_putStringAt_47b60 : ByteArray := prog_18_method_73_code
def yJ5_putStringAt_47b60 : MethodName := ⟨RJ5, "putStringAt", "(ILjava/lang/String;)V"⟩
def RJx2cfe8 : String := "java/lang/Appendable"
def TJx2cfe8 : u_T := fun k => match k with
  | _ => ("", "", "", false)
def tyJx2cfe8 : Nat → FieldType := fun k => match k with
  | _ => .int
abbrev wsJx2cfe80 : List Cond := u_ws RJx2cfe8 TJx2cfe8 0
theorem nmJx2cfe8 : ∀ a, a < 0 → ∀ b, b < 0 → a ≠ b → (TJx2cfe8 a).2.1 ≠ (TJx2cfe8 b).2.1 := by decide +kernel
theorem tyJx2cfe8_ok : ∀ k, k < 0 → parseFieldDescriptor (TJx2cfe8 k).2.2.1 = some (tyJx2cfe8 k) := by decide +kernel
def RJx9f9b0 : String := "java/lang/CharSequence"
def TJx9f9b0 : u_T := fun k => match k with
  | _ => ("", "", "", false)
def tyJx9f9b0 : Nat → FieldType := fun k => match k with
  | _ => .int
abbrev wsJx9f9b00 : List Cond := u_ws RJx9f9b0 TJx9f9b0 0
theorem nmJx9f9b0 : ∀ a, a < 0 → ∀ b, b < 0 → a ≠ b → (TJx9f9b0 a).2.1 ≠ (TJx9f9b0 b).2.1 := by decide +kernel
theorem tyJx9f9b0_ok : ∀ k, k < 0 → parseFieldDescriptor (TJx9f9b0 k).2.2.1 = some (tyJx9f9b0 k) := by decide +kernel
def RJx8e188 : String := "java/lang/Cloneable"
def TJx8e188 : u_T := fun k => match k with
  | _ => ("", "", "", false)
def tyJx8e188 : Nat → FieldType := fun k => match k with
  | _ => .int
abbrev wsJx8e1880 : List Cond := u_ws RJx8e188 TJx8e188 0
theorem nmJx8e188 : ∀ a, a < 0 → ∀ b, b < 0 → a ≠ b → (TJx8e188 a).2.1 ≠ (TJx8e188 b).2.1 := by decide +kernel
theorem tyJx8e188_ok : ∀ k, k < 0 → parseFieldDescriptor (TJx8e188 k).2.2.1 = some (tyJx8e188 k) := by decide +kernel
def RJxb160c : String := "java/lang/Comparable"
def TJxb160c : u_T := fun k => match k with
  | _ => ("", "", "", false)
def tyJxb160c : Nat → FieldType := fun k => match k with
  | _ => .int
abbrev wsJxb160c0 : List Cond := u_ws RJxb160c TJxb160c 0
theorem nmJxb160c : ∀ a, a < 0 → ∀ b, b < 0 → a ≠ b → (TJxb160c a).2.1 ≠ (TJxb160c b).2.1 := by decide +kernel
theorem tyJxb160c_ok : ∀ k, k < 0 → parseFieldDescriptor (TJxb160c k).2.2.1 = some (tyJxb160c k) := by decide +kernel
def RJx29ce0 : String := "java/lang/Enum"
def TJx29ce0 : u_T := fun k => match k with
  | _ => ("", "", "", false)
def tyJx29ce0 : Nat → FieldType := fun k => match k with
  | _ => .int
abbrev wsJx29ce00 : List Cond := u_ws RJx29ce0 TJx29ce0 0
theorem nmJx29ce0 : ∀ a, a < 0 → ∀ b, b < 0 → a ≠ b → (TJx29ce0 a).2.1 ≠ (TJx29ce0 b).2.1 := by decide +kernel
theorem tyJx29ce0_ok : ∀ k, k < 0 → parseFieldDescriptor (TJx29ce0 k).2.2.1 = some (tyJx29ce0 k) := by decide +kernel
abbrev cJx29ce0_ordinal_8abf5 : ByteArray := prog_23_method_2_code
def yJx29ce0_ordinal_8abf5 : MethodName := ⟨RJx29ce0, "ordinal", "()I"⟩
def RJ6 : String := "java/lang/Integer"
def TJ6 : u_T := fun k => match k with
  | _ => ("", "", "", false)
def tyJ6 : Nat → FieldType := fun k => match k with
  | _ => .int
abbrev wsJ60 : List Cond := u_ws RJ6 TJ6 0
theorem nmJ6 : ∀ a, a < 0 → ∀ b, b < 0 → a ≠ b → (TJ6 a).2.1 ≠ (TJ6 b).2.1 := by decide +kernel
theorem tyJ6_ok : ∀ k, k < 0 → parseFieldDescriptor (TJ6 k).2.2.1 = some (tyJ6 k) := by decide +kernel
abbrev cJ6_getChars_ba4f3 : ByteArray := prog_28_method_12_code
def yJ6_getChars_ba4f3 : MethodName := ⟨RJ6, "getChars", "(II[B)I"⟩
abbrev cJ6_stringSize_0f7a4 : ByteArray := prog_28_method_13_code
def yJ6_stringSize_0f7a4 : MethodName := ⟨RJ6, "stringSize", "(I)I"⟩
abbrev cJ6_bitCount_0f7a4 : ByteArray := prog_28_method_49_code
def yJ6_bitCount_0f7a4 : MethodName := ⟨RJ6, "bitCount", "(I)I"⟩
def RJxab1ab : String := "java/lang/Iterable"
def TJxab1ab : u_T := fun k => match k with
  | _ => ("", "", "", false)
def tyJxab1ab : Nat → FieldType := fun k => match k with
  | _ => .int
abbrev wsJxab1ab0 : List Cond := u_ws RJxab1ab TJxab1ab 0
theorem nmJxab1ab : ∀ a, a < 0 → ∀ b, b < 0 → a ≠ b → (TJxab1ab a).2.1 ≠ (TJxab1ab b).2.1 := by decide +kernel
theorem tyJxab1ab_ok : ∀ k, k < 0 → parseFieldDescriptor (TJxab1ab k).2.2.1 = some (tyJxab1ab k) := by decide +kernel
def RJ9 : String := "java/lang/Math"
def TJ9 : u_T := fun k => match k with
  | _ => ("", "", "", false)
def tyJ9 : Nat → FieldType := fun k => match k with
  | _ => .int
abbrev wsJ90 : List Cond := u_ws RJ9 TJ9 0
theorem nmJ9 : ∀ a, a < 0 → ∀ b, b < 0 → a ≠ b → (TJ9 a).2.1 ≠ (TJ9 b).2.1 := by decide +kernel
theorem tyJ9_ok : ∀ k, k < 0 → parseFieldDescriptor (TJ9 k).2.2.1 = some (tyJ9 k) := by decide +kernel
abbrev cJ9_floorMod_7cf53 : ByteArray := prog_30_method_50_code
def yJ9_floorMod_7cf53 : MethodName := ⟨RJ9, "floorMod", "(II)I"⟩
abbrev cJ9_abs_0f7a4 : ByteArray := prog_30_method_59_code
def yJ9_abs_0f7a4 : MethodName := ⟨RJ9, "abs", "(I)I"⟩
abbrev cJ9_max_7cf53 : ByteArray := prog_30_method_65_code
def yJ9_max_7cf53 : MethodName := ⟨RJ9, "max", "(II)I"⟩
abbrev cJ9_min_7cf53 : ByteArray := prog_30_method_69_code
def yJ9_min_7cf53 : MethodName := ⟨RJ9, "min", "(II)I"⟩
def RJxd2413 : String := "java/lang/Number"
def TJxd2413 : u_T := fun k => match k with
  | _ => ("", "", "", false)
def tyJxd2413 : Nat → FieldType := fun k => match k with
  | _ => .int
abbrev wsJxd24130 : List Cond := u_ws RJxd2413 TJxd2413 0
theorem nmJxd2413 : ∀ a, a < 0 → ∀ b, b < 0 → a ≠ b → (TJxd2413 a).2.1 ≠ (TJxd2413 b).2.1 := by decide +kernel
theorem tyJxd2413_ok : ∀ k, k < 0 → parseFieldDescriptor (TJxd2413 k).2.2.1 = some (tyJxd2413 k) := by decide +kernel
def RJ0 : String := "java/lang/String"
def TJ0 : u_T := fun k => match k with
  | 0 => ("java/lang/String", "value", "[B", true)
  | 1 => ("java/lang/String", "coder", "B", true)
  | 2 => ("java/lang/String", "hash", "I", false)
  | _ => ("java/lang/String", "hashIsZero", "Z", false)
def tyJ0 : Nat → FieldType := fun k => match k with
  | 0 => .array .byte
  | 1 => .byte
  | 2 => .int
  | _ => .boolean
abbrev wsJ00 : List Cond := u_ws RJ0 TJ0 4
theorem nmJ0 : ∀ a, a < 4 → ∀ b, b < 4 → a ≠ b → (TJ0 a).2.1 ≠ (TJ0 b).2.1 := by decide +kernel
theorem tyJ0_ok : ∀ k, k < 4 → parseFieldDescriptor (TJ0 k).2.2.1 = some (tyJ0 k) := by decide +kernel
abbrev cJ0_init_81219 : ByteArray := prog_33_method_53_code
def yJ0_init_81219 : MethodName := ⟨RJ0, "<init>", "(Ljava/lang/StringBuilder;)V"⟩
abbrev cJ0_length_8abf5 : ByteArray := prog_33_method_54_code
def yJ0_length_8abf5 : MethodName := ⟨RJ0, "length", "()I"⟩
abbrev cJ0_isEmpty_aae02 : ByteArray := prog_33_method_55_code
def yJ0_isEmpty_aae02 : MethodName := ⟨RJ0, "isEmpty", "()Z"⟩
abbrev cJ0_charAt_5068e : ByteArray := prog_33_method_56_code
def yJ0_charAt_5068e : MethodName := ⟨RJ0, "charAt", "(I)C"⟩
abbrev cJ0_getBytes_840e7 : ByteArray := prog_33_method_147_code
def yJ0_getBytes_840e7 : MethodName := ⟨RJ0, "getBytes", "([BIB)V"⟩
abbrev cJ0_init_db425 : ByteArray := prog_33_method_150_code
def yJ0_init_db425 : MethodName := ⟨RJ0, "<init>", "(Ljava/lang/AbstractStringBuilder;Ljava/lang/Void;)V"⟩
abbrev cJ0_coder_7d493 : ByteArray := prog_33_method_152_code
def yJ0_coder_7d493 : MethodName := ⟨RJ0, "coder", "()B"⟩
abbrev cJ0_isLatin1_aae02 : ByteArray := prog_33_method_154_code
def yJ0_isLatin1_aae02 : MethodName := ⟨RJ0, "isLatin1", "()Z"⟩
abbrev cJ0_checkIndex_df160 : ByteArray := prog_33_method_155_code
def yJ0_checkIndex_df160 : MethodName := ⟨RJ0, "checkIndex", "(II)V"⟩
abbrev cJ0_checkBoundsOffCount_cabcc : ByteArray := prog_33_method_157_code
def yJ0_checkBoundsOffCount_cabcc : MethodName := ⟨RJ0, "checkBoundsOffCount", "(III)I"⟩
abbrev cJ0_checkBoundsBeginEnd_23922 : ByteArray := prog_33_method_158_code
def yJ0_checkBoundsBeginEnd_23922 : MethodName := ⟨RJ0, "checkBoundsBeginEnd", "(III)V"⟩
def RJ4 : String := "java/lang/StringBuilder"
def TJ4 : u_T := fun k => match k with
  | 0 => ("java/lang/AbstractStringBuilder", "value", "[B", false)
  | 1 => ("java/lang/AbstractStringBuilder", "coder", "B", false)
  | 2 => ("java/lang/AbstractStringBuilder", "maybeLatin1", "Z", false)
  | _ => ("java/lang/AbstractStringBuilder", "count", "I", false)
def tyJ4 : Nat → FieldType := fun k => match k with
  | 0 => .array .byte
  | 1 => .byte
  | 2 => .boolean
  | _ => .int
abbrev wsJ40 : List Cond := u_ws RJ4 TJ4 4
theorem nmJ4 : ∀ a, a < 4 → ∀ b, b < 4 → a ≠ b → (TJ4 a).2.1 ≠ (TJ4 b).2.1 := by decide +kernel
theorem tyJ4_ok : ∀ k, k < 4 → parseFieldDescriptor (TJ4 k).2.2.1 = some (tyJ4 k) := by decide +kernel
abbrev cJ4_init_da8c8 : ByteArray := prog_34_method_1_code
def yJ4_init_da8c8 : MethodName := ⟨RJ4, "<init>", "()V"⟩
abbrev cJ4_append_15ec4 : ByteArray := prog_34_method_7_code
def yJ4_append_15ec4 : MethodName := ⟨RJ4, "append", "(Ljava/lang/String;)Ljava/lang/StringBuilder;"⟩
abbrev cJ4_append_cf468 : ByteArray := prog_34_method_14_code
def yJ4_append_cf468 : MethodName := ⟨RJ4, "append", "(C)Ljava/lang/StringBuilder;"⟩
abbrev cJ4_append_bf812 : ByteArray := prog_34_method_15_code
def yJ4_append_bf812 : MethodName := ⟨RJ4, "append", "(I)Ljava/lang/StringBuilder;"⟩
abbrev cJ4_toString_0e30d : ByteArray := prog_34_method_42_code
def yJ4_toString_0e30d : MethodName := ⟨RJ4, "toString", "()Ljava/lang/String;"⟩
abbrev cJ4_length_8abf5 : ByteArray := prog_34_method_93_code
def yJ4_length_8abf5 : MethodName := ⟨RJ4, "length", "()I"⟩
def RJ1 : String := "java/lang/StringLatin1"
def TJ1 : u_T := fun k => match k with
  | _ => ("", "", "", false)
def tyJ1 : Nat → FieldType := fun k => match k with
  | _ => .int
abbrev wsJ10 : List Cond := u_ws RJ1 TJ1 0
theorem nmJ1 : ∀ a, a < 0 → ∀ b, b < 0 → a ≠ b → (TJ1 a).2.1 ≠ (TJ1 b).2.1 := by decide +kernel
theorem tyJ1_ok : ∀ k, k < 0 → parseFieldDescriptor (TJ1 k).2.2.1 = some (tyJ1 k) := by decide +kernel
abbrev cJ1_charAt_3b067 : ByteArray := prog_35_method_2_code
def yJ1_charAt_3b067 : MethodName := ⟨RJ1, "charAt", "([BI)C"⟩
abbrev cJ1_canEncode_fc78d : ByteArray := prog_35_method_3_code
def yJ1_canEncode_fc78d : MethodName := ⟨RJ1, "canEncode", "(C)Z"⟩
abbrev cJ1_inflate_0e8fd : ByteArray := prog_35_method_50_code
def yJ1_inflate_0e8fd : MethodName := ⟨RJ1, "inflate", "([BI[BII)V"⟩
def RJ2 : String := "java/lang/StringUTF16"
def TJ2 : u_T := fun k => match k with
  | _ => ("", "", "", false)
def tyJ2 : Nat → FieldType := fun k => match k with
  | _ => .int
abbrev wsJ20 : List Cond := u_ws RJ2 TJ2 0
theorem nmJ2 : ∀ a, a < 0 → ∀ b, b < 0 → a ≠ b → (TJ2 a).2.1 ≠ (TJ2 b).2.1 := by decide +kernel
theorem tyJ2_ok : ∀ k, k < 0 → parseFieldDescriptor (TJ2 k).2.2.1 = some (tyJ2 k) := by decide +kernel
abbrev cJ2_newBytesFor_77867 : ByteArray := prog_36_method_2_code
def yJ2_newBytesFor_77867 : MethodName := ⟨RJ2, "newBytesFor", "(I)[B"⟩
abbrev cJ2_newBytesLength_0f7a4 : ByteArray := prog_36_method_3_code
def yJ2_newBytesLength_0f7a4 : MethodName := ⟨RJ2, "newBytesLength", "(I)I"⟩
abbrev cJ2_putChar_b72d1 : ByteArray := prog_36_method_4_code
def yJ2_putChar_b72d1 : MethodName := ⟨RJ2, "putChar", "([BII)V"⟩
abbrev cJ2_getChar_3b067 : ByteArray := prog_36_method_5_code
def yJ2_getChar_3b067 : MethodName := ⟨RJ2, "getChar", "([BI)C"⟩
abbrev cJ2_length_9d52b : ByteArray := prog_36_method_6_code
def yJ2_length_9d52b : MethodName := ⟨RJ2, "length", "([B)I"⟩
abbrev cJ2_coderFromArrayLen_85cad : ByteArray := prog_36_method_15_code
def yJ2_coderFromArrayLen_85cad : MethodName := ⟨RJ2, "coderFromArrayLen", "([BI)B"⟩
abbrev cJ2_compress_39247 : ByteArray := prog_36_method_17_code
def yJ2_compress_39247 : MethodName := ⟨RJ2, "compress", "([BII)[B"⟩
abbrev cJ2_compress_5af95 : ByteArray := prog_36_method_22_code
def yJ2_compress_5af95 : MethodName := ⟨RJ2, "compress", "([BI[BII)I"⟩
abbrev cJ2_putCharSB_b72d1 : ByteArray := prog_36_method_71_code
def yJ2_putCharSB_b72d1 : MethodName := ⟨RJ2, "putCharSB", "([BII)V"⟩
abbrev cJ2_getChars_46870 : ByteArray := prog_36_method_77_code
def yJ2_getChars_46870 : MethodName := ⟨RJ2, "getChars", "(III[B)I"⟩
abbrev cJ2_putCharsAt_cd4e5 : ByteArray := prog_36_method_81_code
def yJ2_putCharsAt_cd4e5 : MethodName := ⟨RJ2, "putCharsAt", "([BICCCC)I"⟩
abbrev cJ2_charAt_3b067 : ByteArray := prog_36_method_83_code
def yJ2_charAt_3b067 : MethodName := ⟨RJ2, "charAt", "([BI)C"⟩
abbrev cJ2_inflate_0e8fd : ByteArray := prog_36_method_86_code
def yJ2_inflate_0e8fd : MethodName := ⟨RJ2, "inflate", "([BI[BII)V"⟩
abbrev cJ2_getChars_ba4f3 : ByteArray := prog_36_method_89_code
def yJ2_getChars_ba4f3 : MethodName := ⟨RJ2, "getChars", "(II[B)I"⟩
abbrev cJ2_checkIndex_2214a : ByteArray := prog_36_method_91_code
def yJ2_checkIndex_2214a : MethodName := ⟨RJ2, "checkIndex", "(I[B)V"⟩
abbrev cJ2_checkBoundsBeginEnd_d044e : ByteArray := prog_36_method_93_code
def yJ2_checkBoundsBeginEnd_d044e : MethodName := ⟨RJ2, "checkBoundsBeginEnd", "(II[B)V"⟩
abbrev cJ2_checkBoundsOffCount_d044e : ByteArray := prog_36_method_94_code
def yJ2_checkBoundsOffCount_d044e : MethodName := ⟨RJ2, "checkBoundsOffCount", "(II[B)V"⟩
def RJ10 : String := "java/lang/System"
def TJ10 : u_T := fun k => match k with
  | _ => ("", "", "", false)
def tyJ10 : Nat → FieldType := fun k => match k with
  | _ => .int
abbrev wsJ100 : List Cond := u_ws RJ10 TJ10 0
theorem nmJ10 : ∀ a, a < 0 → ∀ b, b < 0 → a ≠ b → (TJ10 a).2.1 ≠ (TJ10 b).2.1 := by decide +kernel
theorem tyJ10_ok : ∀ k, k < 0 → parseFieldDescriptor (TJ10 k).2.2.1 = some (tyJ10 k) := by decide +kernel
def RJxfd54e : String := "java/lang/constant/Constable"
def TJxfd54e : u_T := fun k => match k with
  | _ => ("", "", "", false)
def tyJxfd54e : Nat → FieldType := fun k => match k with
  | _ => .int
abbrev wsJxfd54e0 : List Cond := u_ws RJxfd54e TJxfd54e 0
theorem nmJxfd54e : ∀ a, a < 0 → ∀ b, b < 0 → a ≠ b → (TJxfd54e a).2.1 ≠ (TJxfd54e b).2.1 := by decide +kernel
theorem tyJxfd54e_ok : ∀ k, k < 0 → parseFieldDescriptor (TJxfd54e k).2.2.1 = some (tyJxfd54e k) := by decide +kernel
def RJx3cf43 : String := "java/lang/constant/ConstantDesc"
def TJx3cf43 : u_T := fun k => match k with
  | _ => ("", "", "", false)
def tyJx3cf43 : Nat → FieldType := fun k => match k with
  | _ => .int
abbrev wsJx3cf430 : List Cond := u_ws RJx3cf43 TJx3cf43 0
theorem nmJx3cf43 : ∀ a, a < 0 → ∀ b, b < 0 → a ≠ b → (TJx3cf43 a).2.1 ≠ (TJx3cf43 b).2.1 := by decide +kernel
theorem tyJx3cf43_ok : ∀ k, k < 0 → parseFieldDescriptor (TJx3cf43 k).2.2.1 = some (tyJx3cf43 k) := by decide +kernel
def RJxa1e45 : String := "java/util/AbstractCollection"
def TJxa1e45 : u_T := fun k => match k with
  | _ => ("", "", "", false)
def tyJxa1e45 : Nat → FieldType := fun k => match k with
  | _ => .int
abbrev wsJxa1e450 : List Cond := u_ws RJxa1e45 TJxa1e45 0
theorem nmJxa1e45 : ∀ a, a < 0 → ∀ b, b < 0 → a ≠ b → (TJxa1e45 a).2.1 ≠ (TJxa1e45 b).2.1 := by decide +kernel
theorem tyJxa1e45_ok : ∀ k, k < 0 → parseFieldDescriptor (TJxa1e45 k).2.2.1 = some (tyJxa1e45 k) := by decide +kernel
abbrev cJxa1e45_init_da8c8 : ByteArray := prog_41_method_1_code
def yJxa1e45_init_da8c8 : MethodName := ⟨RJxa1e45, "<init>", "()V"⟩
def RJxc12de : String := "java/util/AbstractList"
def TJxc12de : u_T := fun k => match k with
  | _ => ("", "", "", false)
def tyJxc12de : Nat → FieldType := fun k => match k with
  | _ => .int
abbrev wsJxc12de0 : List Cond := u_ws RJxc12de TJxc12de 0
theorem nmJxc12de : ∀ a, a < 0 → ∀ b, b < 0 → a ≠ b → (TJxc12de a).2.1 ≠ (TJxc12de b).2.1 := by decide +kernel
theorem tyJxc12de_ok : ∀ k, k < 0 → parseFieldDescriptor (TJxc12de k).2.2.1 = some (tyJxc12de k) := by decide +kernel
abbrev cJxc12de_init_da8c8 : ByteArray := prog_42_method_1_code
def yJxc12de_init_da8c8 : MethodName := ⟨RJxc12de, "<init>", "()V"⟩
def RJx35411 : String := "java/util/ArrayList$Itr"
def TJx35411 : u_T := fun k => match k with
  | 0 => ("java/util/ArrayList$Itr", "cursor", "I", false)
  | 1 => ("java/util/ArrayList$Itr", "lastRet", "I", false)
  | 2 => ("java/util/ArrayList$Itr", "expectedModCount", "I", false)
  | _ => ("java/util/ArrayList$Itr", "this$0", "Ljava/util/ArrayList;", true)
def tyJx35411 : Nat → FieldType := fun k => match k with
  | 0 => .int
  | 1 => .int
  | 2 => .int
  | _ => .object "java/util/ArrayList"
abbrev wsJx354110 : List Cond := u_ws RJx35411 TJx35411 4
theorem nmJx35411 : ∀ a, a < 4 → ∀ b, b < 4 → a ≠ b → (TJx35411 a).2.1 ≠ (TJx35411 b).2.1 := by decide +kernel
theorem tyJx35411_ok : ∀ k, k < 4 → parseFieldDescriptor (TJx35411 k).2.2.1 = some (tyJx35411 k) := by decide +kernel
abbrev cJx35411_init_45d68 : ByteArray := prog_44_method_1_code
def yJx35411_init_45d68 : MethodName := ⟨RJx35411, "<init>", "(Ljava/util/ArrayList;)V"⟩
abbrev cJx35411_hasNext_aae02 : ByteArray := prog_44_method_2_code
def yJx35411_hasNext_aae02 : MethodName := ⟨RJx35411, "hasNext", "()Z"⟩
abbrev cJx35411_next_0502b : ByteArray := prog_44_method_3_code
def yJx35411_next_0502b : MethodName := ⟨RJx35411, "next", "()Ljava/lang/Object;"⟩
abbrev cJx35411_checkForComodification_da8c8 : ByteArray := prog_44_method_6_code
def yJx35411_checkForComodification_da8c8 : MethodName := ⟨RJx35411, "checkForComodification", "()V"⟩
def RJx4a65c : String := "java/util/ArrayList"
def TJx4a65c : u_T := fun k => match k with
  | 0 => ("java/util/AbstractList", "modCount", "I", false)
  | 1 => ("java/util/ArrayList", "elementData", "[Ljava/lang/Object;", false)
  | _ => ("java/util/ArrayList", "size", "I", false)
def tyJx4a65c : Nat → FieldType := fun k => match k with
  | 0 => .int
  | 1 => .array (.object "java/lang/Object")
  | _ => .int
abbrev wsJx4a65c0 : List Cond := u_ws RJx4a65c TJx4a65c 3
theorem nmJx4a65c : ∀ a, a < 3 → ∀ b, b < 3 → a ≠ b → (TJx4a65c a).2.1 ≠ (TJx4a65c b).2.1 := by decide +kernel
theorem tyJx4a65c_ok : ∀ k, k < 3 → parseFieldDescriptor (TJx4a65c k).2.2.1 = some (tyJx4a65c k) := by decide +kernel
abbrev cJx4a65c_init_da8c8 : ByteArray := prog_43_method_2_code
def yJx4a65c_init_da8c8 : MethodName := ⟨RJx4a65c, "<init>", "()V"⟩
abbrev cJx4a65c_grow_92f84 : ByteArray := prog_43_method_6_code
def yJx4a65c_grow_92f84 : MethodName := ⟨RJx4a65c, "grow", "(I)[Ljava/lang/Object;"⟩
abbrev cJx4a65c_grow_d5877 : ByteArray := prog_43_method_7_code
def yJx4a65c_grow_d5877 : MethodName := ⟨RJx4a65c, "grow", "()[Ljava/lang/Object;"⟩
abbrev cJx4a65c_size_8abf5 : ByteArray := prog_43_method_8_code
def yJx4a65c_size_8abf5 : MethodName := ⟨RJx4a65c, "size", "()I"⟩
abbrev cJx4a65c_isEmpty_aae02 : ByteArray := prog_43_method_9_code
def yJx4a65c_isEmpty_aae02 : MethodName := ⟨RJx4a65c, "isEmpty", "()Z"⟩
abbrev cJx4a65c_elementData_915e3 : ByteArray := prog_43_method_18_code
def yJx4a65c_elementData_915e3 : MethodName := ⟨RJx4a65c, "elementData", "(I)Ljava/lang/Object;"⟩
abbrev cJx4a65c_get_915e3 : ByteArray := prog_43_method_20_code
def yJx4a65c_get_915e3 : MethodName := ⟨RJx4a65c, "get", "(I)Ljava/lang/Object;"⟩
abbrev cJx4a65c_add_72be8 : ByteArray := prog_43_method_24_code
def yJx4a65c_add_72be8 : MethodName := ⟨RJx4a65c, "add", "(Ljava/lang/Object;[Ljava/lang/Object;I)V"⟩
abbrev cJx4a65c_add_9ea2d : ByteArray := prog_43_method_25_code
def yJx4a65c_add_9ea2d : MethodName := ⟨RJx4a65c, "add", "(Ljava/lang/Object;)Z"⟩
abbrev cJx4a65c_iterator_32c93 : ByteArray := prog_43_method_55_code
def yJx4a65c_iterator_32c93 : MethodName := ⟨RJx4a65c, "iterator", "()Ljava/util/Iterator;"⟩
def RJ7 : String := "java/util/Arrays"
def TJ7 : u_T := fun k => match k with
  | _ => ("", "", "", false)
def tyJ7 : Nat → FieldType := fun k => match k with
  | _ => .int
abbrev wsJ70 : List Cond := u_ws RJ7 TJ7 0
theorem nmJ7 : ∀ a, a < 0 → ∀ b, b < 0 → a ≠ b → (TJ7 a).2.1 ≠ (TJ7 b).2.1 := by decide +kernel
theorem tyJ7_ok : ∀ k, k < 0 → parseFieldDescriptor (TJ7 k).2.2.1 = some (tyJ7 k) := by decide +kernel
abbrev cJ7_copyOf_1904c : ByteArray := prog_45_method_119_code
def yJ7_copyOf_1904c : MethodName := ⟨RJ7, "copyOf", "([Ljava/lang/Object;I)[Ljava/lang/Object;"⟩
abbrev cJ7_copyOf_6403c : ByteArray := prog_45_method_120_code
def yJ7_copyOf_6403c : MethodName := ⟨RJ7, "copyOf", "([Ljava/lang/Object;ILjava/lang/Class;)[Ljava/lang/Object;"⟩
abbrev cJ7_copyOf_9075b : ByteArray := prog_45_method_121_code
def yJ7_copyOf_9075b : MethodName := ⟨RJ7, "copyOf", "([BI)[B"⟩
abbrev cJ7_checkLength_df160 : ByteArray := prog_45_method_131_code
def yJ7_checkLength_df160 : MethodName := ⟨RJ7, "checkLength", "(II)V"⟩
abbrev cJ7_copyOfRange_39247 : ByteArray := prog_45_method_132_code
def yJ7_copyOfRange_39247 : MethodName := ⟨RJ7, "copyOfRange", "([BII)[B"⟩
abbrev cJ7_copyOfRangeByte_39247 : ByteArray := prog_45_method_133_code
def yJ7_copyOfRangeByte_39247 : MethodName := ⟨RJ7, "copyOfRangeByte", "([BII)[B"⟩
def RJx5ef63 : String := "java/util/Collection"
def TJx5ef63 : u_T := fun k => match k with
  | _ => ("", "", "", false)
def tyJx5ef63 : Nat → FieldType := fun k => match k with
  | _ => .int
abbrev wsJx5ef630 : List Cond := u_ws RJx5ef63 TJx5ef63 0
theorem nmJx5ef63 : ∀ a, a < 0 → ∀ b, b < 0 → a ≠ b → (TJx5ef63 a).2.1 ≠ (TJx5ef63 b).2.1 := by decide +kernel
theorem tyJx5ef63_ok : ∀ k, k < 0 → parseFieldDescriptor (TJx5ef63 k).2.2.1 = some (tyJx5ef63 k) := by decide +kernel
def RJx4d0d8 : String := "java/util/Iterator"
def TJx4d0d8 : u_T := fun k => match k with
  | _ => ("", "", "", false)
def tyJx4d0d8 : Nat → FieldType := fun k => match k with
  | _ => .int
abbrev wsJx4d0d80 : List Cond := u_ws RJx4d0d8 TJx4d0d8 0
theorem nmJx4d0d8 : ∀ a, a < 0 → ∀ b, b < 0 → a ≠ b → (TJx4d0d8 a).2.1 ≠ (TJx4d0d8 b).2.1 := by decide +kernel
theorem tyJx4d0d8_ok : ∀ k, k < 0 → parseFieldDescriptor (TJx4d0d8 k).2.2.1 = some (tyJx4d0d8 k) := by decide +kernel
def RJxbd725 : String := "java/util/List"
def TJxbd725 : u_T := fun k => match k with
  | _ => ("", "", "", false)
def tyJxbd725 : Nat → FieldType := fun k => match k with
  | _ => .int
abbrev wsJxbd7250 : List Cond := u_ws RJxbd725 TJxbd725 0
theorem nmJxbd725 : ∀ a, a < 0 → ∀ b, b < 0 → a ≠ b → (TJxbd725 a).2.1 ≠ (TJxbd725 b).2.1 := by decide +kernel
theorem tyJxbd725_ok : ∀ k, k < 0 → parseFieldDescriptor (TJxbd725 k).2.2.1 = some (tyJxbd725 k) := by decide +kernel
def RJ15 : String := "java/util/Objects"
def TJ15 : u_T := fun k => match k with
  | _ => ("", "", "", false)
def tyJ15 : Nat → FieldType := fun k => match k with
  | _ => .int
abbrev wsJ150 : List Cond := u_ws RJ15 TJ15 0
theorem nmJ15 : ∀ a, a < 0 → ∀ b, b < 0 → a ≠ b → (TJ15 a).2.1 ≠ (TJ15 b).2.1 := by decide +kernel
theorem tyJ15_ok : ∀ k, k < 0 → parseFieldDescriptor (TJ15 k).2.2.1 = some (tyJ15 k) := by decide +kernel
abbrev cJ15_checkIndex_7cf53 : ByteArray := prog_49_method_17_code
def yJ15_checkIndex_7cf53 : MethodName := ⟨RJ15, "checkIndex", "(II)I"⟩
def RJxf0a74 : String := "java/util/RandomAccess"
def TJxf0a74 : u_T := fun k => match k with
  | _ => ("", "", "", false)
def tyJxf0a74 : Nat → FieldType := fun k => match k with
  | _ => .int
abbrev wsJxf0a740 : List Cond := u_ws RJxf0a74 TJxf0a74 0
theorem nmJxf0a74 : ∀ a, a < 0 → ∀ b, b < 0 → a ≠ b → (TJxf0a74 a).2.1 ≠ (TJxf0a74 b).2.1 := by decide +kernel
theorem tyJxf0a74_ok : ∀ k, k < 0 → parseFieldDescriptor (TJxf0a74 k).2.2.1 = some (tyJxf0a74 k) := by decide +kernel
def RJxa66e6 : String := "java/util/SequencedCollection"
def TJxa66e6 : u_T := fun k => match k with
  | _ => ("", "", "", false)
def tyJxa66e6 : Nat → FieldType := fun k => match k with
  | _ => .int
abbrev wsJxa66e60 : List Cond := u_ws RJxa66e6 TJxa66e6 0
theorem nmJxa66e6 : ∀ a, a < 0 → ∀ b, b < 0 → a ≠ b → (TJxa66e6 a).2.1 ≠ (TJxa66e6 b).2.1 := by decide +kernel
theorem tyJxa66e6_ok : ∀ k, k < 0 → parseFieldDescriptor (TJxa66e6 k).2.2.1 = some (tyJxa66e6 k) := by decide +kernel
def RJ8 : String := "jdk/internal/util/ArraysSupport"
def TJ8 : u_T := fun k => match k with
  | _ => ("", "", "", false)
def tyJ8 : Nat → FieldType := fun k => match k with
  | _ => .int
abbrev wsJ80 : List Cond := u_ws RJ8 TJ8 0
theorem nmJ8 : ∀ a, a < 0 → ∀ b, b < 0 → a ≠ b → (TJ8 a).2.1 ≠ (TJ8 b).2.1 := by decide +kernel
theorem tyJ8_ok : ∀ k, k < 0 → parseFieldDescriptor (TJ8 k).2.2.1 = some (tyJ8 k) := by decide +kernel
abbrev cJ8_newLength_cabcc : ByteArray := prog_52_method_27_code
def yJ8_newLength_cabcc : MethodName := ⟨RJ8, "newLength", "(III)I"⟩
abbrev cJ8_hugeLength_7cf53 : ByteArray := prog_52_method_28_code
def yJ8_hugeLength_7cf53 : MethodName := ⟨RJ8, "hugeLength", "(II)I"⟩
def RJ3 : String := "jdk/internal/util/Preconditions"
def TJ3 : u_T := fun k => match k with
  | _ => ("", "", "", false)
def tyJ3 : Nat → FieldType := fun k => match k with
  | _ => .int
abbrev wsJ30 : List Cond := u_ws RJ3 TJ3 0
theorem nmJ3 : ∀ a, a < 0 → ∀ b, b < 0 → a ≠ b → (TJ3 a).2.1 ≠ (TJ3 b).2.1 := by decide +kernel
theorem tyJ3_ok : ∀ k, k < 0 → parseFieldDescriptor (TJ3 k).2.2.1 = some (tyJ3 k) := by decide +kernel
abbrev cJ3_checkIndex_8e157 : ByteArray := prog_53_method_11_code
def yJ3_checkIndex_8e157 : MethodName := ⟨RJ3, "checkIndex", "(IILjava/util/function/BiFunction;)I"⟩
abbrev cJ3_checkFromToIndex_8c36e : ByteArray := prog_53_method_12_code
def yJ3_checkFromToIndex_8c36e : MethodName := ⟨RJ3, "checkFromToIndex", "(IIILjava/util/function/BiFunction;)I"⟩
abbrev cJ3_checkFromIndexSize_8c36e : ByteArray := prog_53_method_13_code
def yJ3_checkFromIndexSize_8c36e : MethodName := ⟨RJ3, "checkFromIndexSize", "(IIILjava/util/function/BiFunction;)I"⟩
def RL : String := "WaveUpgradeLaw"
abbrev cL_cell : ByteArray := method_2_code
def yL_cell : MethodName := ⟨RL, "cell", "([II)I"⟩
abbrev cL_pick : ByteArray := method_3_code
def yL_pick : MethodName := ⟨RL, "pick", "([III)I"⟩
abbrev cL_feeds : ByteArray := method_4_code
def yL_feeds : MethodName := ⟨RL, "feeds", "(LWaveUpgrade;Ljava/lang/String;)Z"⟩
abbrev cL_alike : ByteArray := method_5_code
def yL_alike : MethodName := ⟨RL, "alike", "(LWaveUpgrade;LWaveUpgradeLaw$World;)Z"⟩
abbrev cL_acts : ByteArray := method_6_code
def yL_acts : MethodName := ⟨RL, "acts", "(LWaveUpgrade;LWaveUpgradeLaw$World;[II)Z"⟩
abbrev cL_law : ByteArray := code
def yL_law : MethodName := ⟨RL, "law", "([I)Z"⟩
abbrev cL_holds : ByteArray := method_8_code
def yL_holds : MethodName := ⟨RL, "holds", "(LWaveUpgrade;LWaveUpgradeLaw$World;)Z"⟩
abbrev cL_begins : ByteArray := method_9_code
def yL_begins : MethodName := ⟨RL, "begins", "(LWaveUpgrade;LWaveUpgradeLaw$World;[II)Z"⟩
abbrev cL_ends : ByteArray := method_10_code
def yL_ends : MethodName := ⟨RL, "ends", "(LWaveUpgrade;LWaveUpgradeLaw$World;)Z"⟩
end
section
/-! ===== THE PURE MACHINE: heaps as four maps over numbered cells, one step of a method's code as a transformer of propositions ===== -/
abbrev PH : Type := (Nat → Nat → Int32) × (Nat → Nat → Int64) × (Nat → Nat → Option Nat) × (Nat → Nat → Nat)
def gi (h : PH) (a k : Nat) : Int32 := h.1 a k
def gl (h : PH) (a k : Nat) : Int64 := h.2.1 a k
def gr (h : PH) (a k : Nat) : Option Nat := h.2.2.1 a k
def gd (h : PH) (a k : Nat) : Nat := h.2.2.2 a k
def up2 {α : Type} (f : Nat → Nat → α) (a k : Nat) (x : α) : Nat → Nat → α := fun b j => if b = a then (if j = k then x else f b j) else f b j
def si (h : PH) (a k : Nat) (x : Int32) : PH := (up2 h.1 a k x, h.2)
def sl (h : PH) (a k : Nat) (x : Int64) : PH := (h.1, up2 h.2.1 a k x, h.2.2)
def sr (h : PH) (a k : Nat) (x : Option Nat) : PH := (h.1, h.2.1, up2 h.2.2.1 a k x, h.2.2.2)
def sd (h : PH) (a k : Nat) (x : Nat) : PH := (h.1, h.2.1, h.2.2.1, up2 h.2.2.2 a k x)
/-- n ints of the array a from place sp on, copied to the array b at place dp -/
def cpi (h : PH) (a sp b dp n : Nat) : PH := (fun c => if c = b then va_cpy (h.1 a) (h.1 b) sp dp n else h.1 c, h.2)
def cpl (h : PH) (a sp b dp n : Nat) : PH := (h.1, fun c => if c = b then va_cpy (h.2.1 a) (h.2.1 b) sp dp n else h.2.1 c, h.2.2)
/-- a cell's kind: an object (its class's number, its references by slot) or an array (its type's number, its length) -/
abbrev Kd : Type := (Nat × List (Option Nat)) ⊕ (Nat × Nat)
abbrev Res : Type := Option Value ⊕ Nat
abbrev Lc : Type := List (Option Value)
/-- a method: name, code, locals, answer, frames that it needs above itself, words of locals, exceptions that it may make -/
abbrev MI : Type := MethodName × ByteArray × Nat × Option FieldType × Nat × Nat × Nat × List (Nat × Nat × Nat × Nat) × Nat
def MI.y (M : MI) : MethodName := M.1
def MI.b (M : MI) : ByteArray := M.2.1
def MI.nl (M : MI) : Nat := M.2.2.1
def MI.ret (M : MI) : Option FieldType := M.2.2.2.1
def MI.fr (M : MI) : Nat := M.2.2.2.2.1
def MI.lo (M : MI) : Nat := M.2.2.2.2.2.1
def MI.cap (M : MI) : Nat := M.2.2.2.2.2.2.1
def MI.hh (M : MI) : List (Nat × Nat × Nat × Nat) := M.2.2.2.2.2.2.2.1
/-- 0 an instance method, 1 a static one, 2 a static one with handlers -/
def MI.sk (M : MI) : Nat := M.2.2.2.2.2.2.2.2
/-- a row of a method's code: place, instruction, length, numbers resolved ahead, the method that it calls -/
abbrev En : Type := Nat × Instr × Nat × List Nat × List MI
def cI : Int → Int32
  | .ofNat n => nI n
  | .negSucc n => -(nI (n + 1))
def isB (x : Int32) : Prop := x = 0 ∨ x = 1
def lget (ls : Lc) (i : Nat) : Option Value := ls.getD i none
def lclr (ls : Lc) : Nat → Lc
  | 0 => ls
  | j + 1 => match ls.getD j none with
    | some w => match w.category with
      | 2 => ls.set j none
      | _ => ls
    | none => ls
def lput1 (ls : Lc) (i : Nat) (v : Value) : Lc := (lclr ls i).set i (some v)
def lput2 (ls : Lc) (i : Nat) (v : Value) : Lc := ((lclr ls i).set i (some v)).set (i + 1) none
def lput0 (ls : Lc) (i : Nat) : Lc := (lclr ls i).set i none
def rf1 : Option Nat → Value
  | none => .null
  | some a => .ref a
abbrev KT : Type := Nat → Nat → Lc → List Value → PH → Prop
/-- what a call gives back to its caller: rV, rI, rL .. by the sort of its answer; q: where an exception goes -/
def rV (q : Nat → PH → Prop) (kk : PH → Prop) : Res → PH → Prop
  | .inl none, h => kk h
  | .inl (some _), _ => False
  | .inr e, h => q e h
def rI (q : Nat → PH → Prop) (kk : Int32 → PH → Prop) : Res → PH → Prop
  | .inl (some (.int x)), h => kk x h
  | .inl _, _ => False
  | .inr e, h => q e h
def rL (q : Nat → PH → Prop) (kk : Int64 → PH → Prop) : Res → PH → Prop
  | .inl (some (.long x)), h => kk x h
  | .inl _, _ => False
  | .inr e, h => q e h
def rF (q : Nat → PH → Prop) (kk : UInt32 → PH → Prop) : Res → PH → Prop
  | .inl (some (.float x)), h => kk x h
  | .inl _, _ => False
  | .inr e, h => q e h
def rD (q : Nat → PH → Prop) (kk : UInt64 → PH → Prop) : Res → PH → Prop
  | .inl (some (.double x)), h => kk x h
  | .inl _, _ => False
  | .inr e, h => q e h
/-- java.lang.Math.floorMod -/
def fmV (x y : Int32) : Int32 := if 0 ≤ x ^^^ y then x - x / y * y else if x - x / y * y = 0 then x - x / y * y else (x - x / y * y) + y
/-- a reference's answer, or null -/
def rA (q : Nat → PH → Prop) (k1 : Nat → PH → Prop) (k2 : PH → Prop) : Res → PH → Prop
  | .inl (some (.ref x)), h => k1 x h
  | .inl (some .null), h => k2 h
  | .inl _, _ => False
  | .inr e, h => q e h
/-- the cells of the world, by number -/
def KSS : List (List Kd) := [
  [.inl (8, [some 1, some 60, some 67, some 74, some 81, none, some 13, some 4, some 5, some 3, none]), .inl (7, [some 2, none, none, none, none, none, none, none, none]), .inr (1, 900), .inr (1, 336), .inl (0, [some 1, some 74, some 30, none]), .inl (5, [some 6, some 7, some 8, some 9, some 10, none, some 11, some 12, none, none]), .inr (5, 30), .inr (0, 30), .inr (0, 30), .inr (0, 30), .inr (0, 30), .inr (0, 2), .inr (0, 2), .inl (2, [some 14, none, none]), .inr (4, 6), .inl (3, [some 16, some 18, some 19, some 20, some 21, some 23, some 24, some 25, some 26, some 28, some 29, none, none, none, none, none, none, none])],
  [.inl (4, [some 17, none]), .inr (2, 8), .inr (0, 8), .inr (0, 8), .inr (0, 8), .inl (4, [some 22, none]), .inr (2, 5), .inr (0, 5), .inr (0, 5), .inr (0, 5), .inl (4, [some 27, none]), .inr (2, 12), .inr (0, 12), .inr (0, 12), .inl (3, [some 31, some 33, some 34, some 35, some 36, some 38, some 39, some 40, some 41, some 43, some 44, none, none, none, none, none, none, none]), .inl (4, [some 32, none])],
  [.inr (2, 8), .inr (0, 8), .inr (0, 8), .inr (0, 8), .inl (4, [some 37, none]), .inr (2, 5), .inr (0, 5), .inr (0, 5), .inr (0, 5), .inl (4, [some 42, none]), .inr (2, 12), .inr (0, 12), .inr (0, 12), .inl (3, [some 46, some 48, some 49, some 50, some 51, some 53, some 54, some 55, some 56, some 58, some 59, none, none, none, none, none, none, none]), .inl (4, [some 47, none]), .inr (2, 8)],
  [.inr (0, 8), .inr (0, 8), .inr (0, 8), .inl (4, [some 52, none]), .inr (2, 5), .inr (0, 5), .inr (0, 5), .inr (0, 5), .inl (4, [some 57, none]), .inr (2, 12), .inr (0, 12), .inr (0, 12), .inl (6, [some 15, none, none, some 61, some 62, some 63, some 64, none, none, none, none, none, none, none, none, some 65]), .inr (0, 12), .inr (0, 12), .inr (0, 12)],
  [.inr (0, 12), .inl (1, [some 66, none, none]), .inr (0, 120), .inl (6, [some 15, none, none, some 68, some 69, some 70, some 71, none, none, none, none, none, none, none, none, some 72]), .inr (0, 12), .inr (0, 12), .inr (0, 12), .inr (0, 12), .inl (1, [some 73, none, none]), .inr (0, 120), .inl (6, [some 30, none, none, some 75, some 76, some 77, some 78, none, none, none, none, none, none, none, none, some 79]), .inr (0, 12), .inr (0, 12), .inr (0, 12), .inr (0, 12), .inl (1, [some 80, none, none])],
  [.inr (0, 120), .inl (6, [some 45, none, none, some 82, some 83, some 84, some 85, none, none, none, none, none, none, none, none, some 86]), .inr (0, 12), .inr (0, 12), .inr (0, 12), .inr (0, 12), .inl (1, [some 87, none, none]), .inr (0, 120), .inl (6, [some 15, none, none, some 89, some 90, some 91, some 92, none, none, none, none, none, none, none, none, some 93]), .inr (0, 12), .inr (0, 12), .inr (0, 12), .inr (0, 12), .inl (1, [some 94, none, none]), .inr (0, 120), .inl (6, [some 15, none, none, some 96, some 97, some 98, some 99, none, none, none, none, none, none, none, none, some 100])],
  [.inr (0, 12), .inr (0, 12), .inr (0, 12), .inr (0, 12), .inl (1, [some 101, none, none]), .inr (0, 120), .inl (6, [some 15, none, none, some 103, some 104, some 105, some 106, none, none, none, none, none, none, none, none, some 107]), .inr (0, 12), .inr (0, 12), .inr (0, 12), .inr (0, 12), .inl (1, [some 108, none, none]), .inr (0, 120), .inl (6, [some 15, none, none, some 110, some 111, some 112, some 113, none, none, none, none, none, none, none, none, some 114]), .inr (0, 12), .inr (0, 12)],
  [.inr (0, 12), .inr (0, 12), .inl (1, [some 115, none, none]), .inr (0, 120), .inl (6, [some 15, none, none, some 117, some 118, some 119, some 120, none, none, none, none, none, none, none, none, some 121]), .inr (0, 12), .inr (0, 12), .inr (0, 12), .inr (0, 12), .inl (1, [some 122, none, none]), .inr (0, 120), .inl (6, [some 15, none, none, some 124, some 125, some 126, some 127, none, none, none, none, none, none, none, none, some 128]), .inr (0, 12), .inr (0, 12), .inr (0, 12), .inr (0, 12)],
  [.inl (1, [some 129, none, none]), .inr (0, 120)]]
def NK : Nat := 130
def kd (a : Nat) : Option Kd := (KSS.getD (a / 16) [])[a % 16]?
/-- by class: the sort of each slot: 0 an int or a boolean, 1 a long, 2 a reference -/
def fso : Nat → List Nat
  | 0 => [2, 2, 2, 0]
  | 1 => [2, 0, 0]
  | 2 => [2, 0, 0]
  | 3 => [2, 2, 2, 2, 2, 2, 2, 2, 2, 2, 2, 0, 0, 0, 0, 0, 0, 0]
  | 4 => [2, 0]
  | 5 => [2, 2, 2, 2, 2, 0, 2, 2, 0, 0]
  | 6 => [2, 0, 0, 2, 2, 2, 2, 0, 0, 0, 0, 0, 0, 0, 0, 2]
  | 7 => [2, 0, 0, 0, 0, 0, 1, 0, 0]
  | 8 => [2, 2, 2, 2, 2, 0, 2, 2, 2, 2, 0]
  | _ => []
def obC (a ci : Nat) : Bool := match kd a with
  | some (.inl (c, _)) => Nat.beq c ci
  | _ => false
def obR (a k : Nat) : Option Nat := match kd a with
  | some (.inl (_, rs)) => rs.getD k none
  | _ => none
def arN (a t : Nat) : Option Nat := match kd a with
  | some (.inr (u, n)) => match Nat.beq u t with
    | true => some n
    | false => none
  | _ => none
def arL (a : Nat) : Option Nat := match kd a with
  | some (.inr (_, n)) => some n
  | _ => none
/-- the constants: statements 1000.., commands 1020.., their words 1040.., 1060.. and "held" 1084, the words' bytes 60 further on, ALL 1080 and 1081, the switch maps 1082 and 1083 -/
def cOk (a ci : Nat) : Prop := (ci = 20 ∧ 1000 ≤ a ∧ a < 1012) ∨ (ci = 21 ∧ 1020 ≤ a ∧ a < 1020) ∨ (ci = 22 ∧ ((1040 ≤ a ∧ a < 1052) ∨ (1060 ≤ a ∧ a < 1060) ∨ a = 1084))
/-- 0 ints, 1 bytes, 4 statements, 5 commands -/
def cAr (b t : Nat) : Prop := (t = 0 ∧ (b = 1082 ∨ (b = 1083 ∧ b = 0))) ∨ (t = 1 ∧ ((1100 ≤ b ∧ b < 1112) ∨ (1120 ≤ b ∧ b < 1120) ∨ b = 1144)) ∨ (t = 4 ∧ b = 1080) ∨ (t = 5 ∧ b = 1081 ∧ b = 0)
def cI1 (k : Nat) (l : List Int32) : Int32 := l.getD k 0
/-- the int fields of constants: of a statement 1 mark, 2 least, 3 most; of a command 1 hasMember, 2 hasVersion, 3 least, 4 most; 9 ordinal -/
def cfv (a j : Nat) : Int32 := match Nat.blt a 1020 with
  | true => match j with
    | 1 => cI1 (a - 1000) [0, 0, 0, 0, 0, 0, 1, 2, 4, 8, 16, 32]
    | 2 => cI1 (a - 1000) [0, 0, 0, 0, 0, 0, 1, 0, 1, 1, 0, 0]
    | 3 => cI1 (a - 1000) [0, 0, 0, 0, 0, 0, 9, 7, 12, 99, 99, 999]
    | _ => nI (a - 1000)
  | false => match Nat.blt a 1030 with
    | true => match j with
      | 1 => cI1 (a - 1020) [0, 0, 0, 0, 1, 1, 1, 1, 0, 0]
      | 2 => cI1 (a - 1020) [0, 1, 0, 0, 0, 0, 0, 1, 0, 0]
      | 3 => cI1 (a - 1020) [0, 0, 0, 0, 0, 0, 0, 0, 0, 1]
      | 4 => cI1 (a - 1020) [999, (-1), (-1), (-1), (-1), (-1), 999, (-1), 999, 20]
      | _ => nI (a - 1020)
    | false => 0
/-- the reference fields: letters, value -/
def cfr (a : Nat) : Nat := match Nat.blt a 1030 with
  | true => a + 40
  | false => a + 60
/-- the texts of the constants, by place -/
def cTx : List (List Nat) := [[118, 101, 114, 115, 105, 111, 110], [116, 97, 108, 107, 115], [112, 108, 97, 99, 101], [109, 101, 109, 98, 101, 114], [108, 105, 110, 107], [119, 97, 118, 101], [102, 111, 114, 109, 97, 116], [115, 107, 101, 119], [100, 111, 119, 110], [116, 97, 107, 101, 115], [115, 111, 97, 107], [108, 105, 109, 105, 116], [112, 97, 115, 115], [115, 116, 97, 114, 116], [115, 116, 111, 112], [103, 111], [104, 111, 108, 100], [102, 114, 101, 101], [114, 101, 112, 111, 114, 116], [99, 104, 97, 110, 103, 101], [99, 111, 109, 109, 105, 116], [114, 101, 112, 101, 97, 116], [104, 101, 108, 100]]
/-- the place of a bytes' cell among the texts -/
def cTi (b : Nat) : Nat := match Nat.blt b 1112 with
  | true => b - 1100
  | false => match Nat.blt b 1130 with
    | true => b - 1120 + 12
    | false => 22
def cln (b : Nat) : Nat := match b with
  | 1080 => 12
  | 1081 => 10
  | 1082 => 12
  | 1083 => 10
  | b => (cTx.getD (cTi b) []).length
def cby (b j : Nat) : Int32 := nI ((cTx.getD (cTi b) []).getD j 0)
def csw (b j : Nat) : Int32 := match Nat.beq b 1082 with
  | true => cI1 j [1, 8, 2, 3, 5, 4, 6, 7, 9, 10, 11, 0]
  | false => cI1 j [1, 2, 3, 4, 5, 6, 7, 8, 9, 0]
def cel (b j : Nat) : Nat := match Nat.beq b 1080 with
  | true => 1000 + j
  | false => 1020 + j
/-- a constant's field: owner, name, descriptor, whether it is a reference -/
def cFld (ci j : Nat) : Option (String × String × String × Bool) := match ci, j with
  | 20, 0 => some ("WaveUpgrade$Statement", "letters", "Ljava/lang/String;", true)
  | 20, 1 => some ("WaveUpgrade$Statement", "mark", "I", false)
  | 20, 2 => some ("WaveUpgrade$Statement", "least", "I", false)
  | 20, 3 => some ("WaveUpgrade$Statement", "most", "I", false)
  | 20, 9 => some ("java/lang/Enum", "ordinal", "I", false)
  | 21, 0 => some ("WaveUpgrade$Command", "letters", "Ljava/lang/String;", true)
  | 21, 1 => some ("WaveUpgrade$Command", "hasMember", "Z", false)
  | 21, 2 => some ("WaveUpgrade$Command", "hasVersion", "Z", false)
  | 21, 3 => some ("WaveUpgrade$Command", "least", "I", false)
  | 21, 4 => some ("WaveUpgrade$Command", "most", "I", false)
  | 21, 9 => some ("java/lang/Enum", "ordinal", "I", false)
  | 22, 0 => some ("java/lang/String", "value", "[B", true)
  | 22, 1 => some ("java/lang/String", "coder", "B", false)
  | _, _ => none
def cNm (ci : Nat) : String := match ci with
  | 20 => "WaveUpgrade$Statement"
  | 21 => "WaveUpgrade$Command"
  | _ => "java/lang/String"
/-- static fields: class, name, descriptor, the constant (or 0 for an int 1) -/
def cSt (i : Nat) : Option (String × String × String) := match i with
  | 0 => some ("java/lang/String", "COMPACT_STRINGS", "Z")
  | 1080 => some ("WaveUpgrade$Statement", "ALL", "[LWaveUpgrade$Statement;")
  | 1082 => some ("WaveUpgrade$1", "$SwitchMap$WaveUpgrade$Statement", "[I")
  | _ => none
end
section
/-! ===== one step ===== -/
/-- where an exception of a call goes: hs: for each kind of exception the place behind the handler's store and the store's local (0: no handler) -/
def hnd (Q : Res → PH → Prop) (a : KT) (c : Nat) (ls : Lc) (hs : List Nat) : Nat → PH → Prop := fun e h => match hs with
  | [] => Q (.inr e) h
  | hs => match hs.getD (2 * e) 0 with
    | 0 => Q (.inr e) h
    | ha => a ha c (lput0 ls (hs.getD (2 * e + 1) 0)) [] h
/-- a switch's cases: from v on -/
def swc (k : KT) (x : Int32) (c : Nat) (ls : Lc) (st : List Value) (h : PH) : Nat → List Nat → Prop
  | _, [] => True
  | v, t :: ts => (x = nI v → k t c ls st h) ∧ swc k x c ls st h (v + 1) ts
/-- what stays on the stack over a call is small -/
def cat8 (st : List Value) (P : Prop) : Prop := match Nat.ble ((st.map (fun v => v.category)).sum) 8 with
  | true => P
  | false => False
def len9 (n : Nat) (st : List Value) (P : Prop) : Prop := match Nat.ble n st.length with
  | true => P
  | false => False
def capk (c mcv cap : Nat) (P : Prop) : Prop := match mcv with
  | 0 => P
  | _ => c + mcv ≤ cap ∧ P
def conk (rt : Nat) (q : Nat → PH → Prop) (kk : List Value → PH → Prop) : Res → PH → Prop := match rt with
  | 0 => rV q (fun h => kk [] h)
  | 1 => rI q (fun x h => kk [.int x] h)
  | 2 => rL q (fun x h => kk [.long x] h)
  | 3 => rF q (fun x h => kk [.float x] h)
  | 4 => rD q (fun x h => kk [.double x] h)
  | _ => rA q (fun x h => kk [.ref x] h) (fun h => kk [.null] h)
def obIf (b ci : Nat) (P : Prop) : Prop := match obC b ci with
  | true => P
  | false => False
/-- a call: mp is 'MetPM' -/
def stc (mp : MI → List Value → PH → (Res → PH → Prop) → Prop) (M : MI) (Q : Res → PH → Prop) (a k : KT) (pc : Nat) (M' : MI) (kind n rt rc mcv : Nat) (hs : List Nat) (c : Nat) (ls : Lc) (st : List Value) (h : PH) : Prop :=
  match kind with
  | 0 => match st.drop n with
    | .ref b :: rest => obIf b rc <| cat8 rest <| capk c mcv M.cap (mp M' (.ref b :: (st.take n).reverse) h (conk rt (hnd Q a (c + mcv) ls hs) (fun vs h' => k (pc + 3) (c + mcv) ls (vs ++ rest) h')))
    | _ => False
  | 5 => match st.drop n with
    | .ref b :: rest => cOk b rc ∧ (cat8 rest <| capk c mcv M.cap (mp M' (.ref b :: (st.take n).reverse) h (conk rt (hnd Q a (c + mcv) ls hs) (fun vs h' => k (pc + 3) (c + mcv) ls (vs ++ rest) h'))))
    | _ => False
  | _ => len9 n st <| cat8 (st.drop n) <| capk c mcv M.cap (mp M' (st.take n).reverse h (conk rt (hnd Q a (c + mcv) ls hs) (fun vs h' => k (pc + 3) (c + mcv) ls (vs ++ st.drop n) h')))
/-- the JDK's own, by number -/
def stb (M : MI) (k : KT) (pc : Nat) (kind : Nat) (c : Nat) (ls : Lc) (st : List Value) (h : PH) : Prop :=
  match kind with
  | 20 => match st with
    | .ref a :: r => cOk a 20 ∧ cat8 r (k (pc + 3) c ls (.int (cfv a 9) :: r) h)
    | _ => False
  | 21 => match st with
    | .ref a :: r => cOk a 21 ∧ cat8 r (k (pc + 3) c ls (.int (cfv a 9) :: r) h)
    | _ => False
  | 10 => match st with
    | .int y :: .int x :: r => cat8 r <| k (pc + 3) c ls (.int (if y < x then y else x) :: r) h
    | _ => False
  | 11 => match st with
    | .int y :: .int x :: r => cat8 r <| k (pc + 3) c ls (.int (if x < y then y else x) :: r) h
    | _ => False
  | 12 => match st with
    | .int x :: r => cat8 r <| k (pc + 3) c ls (.int (if 0 ≤ x then x else 0 - x) :: r) h
    | _ => False
  | 13 => match st with
    | .int y :: .int x :: r => (¬ y = 0) ∧ cat8 r (k (pc + 3) c ls (.int (fmV x y) :: r) h)
    | _ => False
  | 15 => match st with
    | .int n :: .int dp :: .ref b :: .int sp :: .ref a :: r => match arN a 0, arN b 0 with
      | some n0, some n1 => cat8 r <| (¬ sp < 0 ∧ ¬ dp < 0 ∧ ¬ n < 0 ∧ sp.toNatClampNeg + n.toNatClampNeg ≤ n0 ∧ dp.toNatClampNeg + n.toNatClampNeg ≤ n1) ∧ k (pc + 3) c ls r (cpi h a sp.toNatClampNeg b dp.toNatClampNeg n.toNatClampNeg)
      | _, _ => False
    | _ => False
  | 16 => match st with
    | .int n :: .int dp :: .ref b :: .int sp :: .ref a :: r => match arN a 2, arN b 2 with
      | some n0, some n1 => cat8 r <| (¬ sp < 0 ∧ ¬ dp < 0 ∧ ¬ n < 0 ∧ sp.toNatClampNeg + n.toNatClampNeg ≤ n0 ∧ dp.toNatClampNeg + n.toNatClampNeg ≤ n1) ∧ k (pc + 3) c ls r (cpl h a sp.toNatClampNeg b dp.toNatClampNeg n.toNatClampNeg)
      | _, _ => False
    | _ => False
  | _ => False
/-- loads: q 0 int, 1 long, 2 float, 3 double, 4 a reference -/
def stl (k : KT) (q pc c : Nat) (ls : Lc) (st : List Value) (h : PH) (i : Nat) : Prop := match q with
  | 0 => match lget ls i with
    | some (.int x) => k pc c ls (.int x :: st) h
    | _ => False
  | 1 => match lget ls i with
    | some (.long x) => k pc c ls (.long x :: st) h
    | _ => False
  | 2 => match lget ls i with
    | some (.float x) => k pc c ls (.float x :: st) h
    | _ => False
  | 3 => match lget ls i with
    | some (.double x) => k pc c ls (.double x :: st) h
    | _ => False
  | _ => match lget ls i with
    | some (.ref x) => k pc c ls (.ref x :: st) h
    | some .null => k pc c ls (.null :: st) h
    | _ => False
def sts (nl : Nat) (k : KT) (q pc c : Nat) (ls : Lc) (st : List Value) (h : PH) (i : Nat) : Prop := match q with
  | 0 => match st, Nat.blt i nl with
    | .int x :: r, true => k pc c (lput1 ls i (.int x)) r h
    | _, _ => False
  | 1 => match st, Nat.blt (i + 1) nl with
    | .long x :: r, true => k pc c (lput2 ls i (.long x)) r h
    | _, _ => False
  | 2 => match st, Nat.blt i nl with
    | .float x :: r, true => k pc c (lput1 ls i (.float x)) r h
    | _, _ => False
  | 3 => match st, Nat.blt (i + 1) nl with
    | .double x :: r, true => k pc c (lput2 ls i (.double x)) r h
    | _, _ => False
  | _ => match st, Nat.blt i nl with
    | .ref x :: r, true => k pc c (lput1 ls i (.ref x)) r h
    | .null :: r, true => k pc c (lput1 ls i .null) r h
    | _, _ => False
def stcc (cd : Jvm.ClassFile.Cond) (x y : Int32) (A B : Prop) : Prop := match cd with
  | .eq => (x = y → A) ∧ (¬ x = y → B)
  | .ne => (¬ x = y → A) ∧ (x = y → B)
  | .lt => (x < y → A) ∧ (¬ x < y → B)
  | .ge => (y ≤ x → A) ∧ (¬ y ≤ x → B)
  | .gt => (y < x → A) ∧ (¬ y < x → B)
  | .le => (x ≤ y → A) ∧ (¬ x ≤ y → B)
/-- getfield of a constant -/
def stgc (k : KT) (pc c : Nat) (ls : Lc) (st : List Value) (h : PH) (ci j so : Nat) : Prop := match st with
  | .ref a :: r => cOk a ci ∧ (match so with
    | 3 => k (pc + 3) c ls (.ref (cfr a) :: r) h
    | _ => k (pc + 3) c ls (.int (cfv a j) :: r) h)
  | _ => False
/-- an element of a constant array: t 0 ints, 1 bytes, 4, 5 references; 6: the script -/
def stac (k : KT) (t pc c : Nat) (ls : Lc) (st : List Value) (h : PH) : Prop := match st with
  | .int i :: .ref b :: r => match t with
    | 0 => cAr b 0 ∧ vp_in i (cln b) ∧ k (pc + 1) c ls (.int (csw b i.toNatClampNeg) :: r) h
    | 1 => cAr b 1 ∧ vp_in i (cln b) ∧ k (pc + 1) c ls (.int (cby b i.toNatClampNeg) :: r) h
    | 4 => cAr b 4 ∧ vp_in i (cln b) ∧ k (pc + 1) c ls (.ref (cel b i.toNatClampNeg) :: r) h
    | 5 => cAr b 5 ∧ vp_in i (cln b) ∧ k (pc + 1) c ls (.ref (cel b i.toNatClampNeg) :: r) h
    | 6 => False
    | _ => False
  | _ => False
def stln (k : KT) (t pc c : Nat) (ls : Lc) (st : List Value) (h : PH) : Prop := match st with
  | .ref b :: r => match t with
    | 6 => False
    | t => cAr b t ∧ k (pc + 1) c ls (.int (nI (cln b)) :: r) h
  | _ => False
def a2i (k : KT) (pc c : Nat) (ls : Lc) (st : List Value) (h : PH) (f : Int32 → Int32 → Int32) : Prop := match st with
  | .int y :: .int x :: r => k (pc + 1) c ls (.int (f x y) :: r) h
  | _ => False
def a2l (k : KT) (pc c : Nat) (ls : Lc) (st : List Value) (h : PH) (f : Int64 → Int64 → Int64) : Prop := match st with
  | .long y :: .long x :: r => k (pc + 1) c ls (.long (f x y) :: r) h
  | _ => False
/-- getfield: sort 0, 1: an int; 2 a long; 3 a reference of the world -/
def stg (k : KT) (pc c : Nat) (ls : Lc) (st : List Value) (h : PH) (ci j so : Nat) : Prop := match st with
  | .ref a :: r => match obC a ci with
    | true => match so with
      | 0 => k (pc + 3) c ls (.int (gi h a j) :: r) h
      | 1 => k (pc + 3) c ls (.int (gi h a j) :: r) h
      | 2 => k (pc + 3) c ls (.long (gl h a j) :: r) h
      | _ => match obR a j with
        | some b => k (pc + 3) c ls (.ref b :: r) h
        | none => False
    | false => False
  | _ => False
def stp0 (k : KT) (pc c : Nat) (ls : Lc) (st : List Value) (h : PH) (ci j so : Nat) : Prop := match so with
  | 0 => match st with
    | .int x :: .ref a :: r => match obC a ci with
      | true => k (pc + 3) c ls r (si h a j x)
      | false => False
    | _ => False
  | 1 => match st with
    | .int x :: .ref a :: r => match obC a ci with
      | true => isB x ∧ k (pc + 3) c ls r (si h a j x)
      | false => False
    | _ => False
  | 2 => match st with
    | .long x :: .ref a :: r => match obC a ci with
      | true => k (pc + 3) c ls r (sl h a j x)
      | false => False
    | _ => False
  | _ => False
/-- array loads: q 0 ints, 1 bytes, 2 longs, 3 doubles, 4 states, 5 commands -/
def sta (k : KT) (q pc c : Nat) (ls : Lc) (st : List Value) (h : PH) : Prop := match st with
  | .int i :: .ref a :: r => match arN a q with
    | some n => vp_in i n ∧ (match q with
      | 0 => k (pc + 1) c ls (.int (gi h a i.toNatClampNeg) :: r) h
      | 1 => k (pc + 1) c ls (.int (gi h a i.toNatClampNeg) :: r) h
      | 2 => k (pc + 1) c ls (.long (gl h a i.toNatClampNeg) :: r) h
      | 3 => False
      | _ => (∀ b, gr h a i.toNatClampNeg = some b → k (pc + 1) c ls (.ref b :: r) h) ∧ (gr h a i.toNatClampNeg = none → k (pc + 1) c ls (.null :: r) h))
    | none => False
  | _ => False
/-- array stores -/
def stq (k : KT) (q pc c : Nat) (ls : Lc) (st : List Value) (h : PH) : Prop := match q with
  | 0 => match st with
    | .int x :: .int i :: .ref a :: r => match arN a 0 with
      | some n => vp_in i n ∧ k (pc + 1) c ls r (si h a i.toNatClampNeg x)
      | none => False
    | _ => False
  | 1 => match st with
    | .int x :: .int i :: .ref a :: r => match arN a 1 with
      | some n => vp_in i n ∧ k (pc + 1) c ls r (si h a i.toNatClampNeg x.toInt8.toInt32)
      | none => False
    | _ => False
  | 2 => match st with
    | .long x :: .int i :: .ref a :: r => match arN a 2 with
      | some n => vp_in i n ∧ k (pc + 1) c ls r (sl h a i.toNatClampNeg x)
      | none => False
    | _ => False
  | _ => False
/-- the answer: rt as in conk; 6 a boolean -/
def str (Q : Res → PH → Prop) (rt : Nat) (st : List Value) (h : PH) : Prop := match rt with
  | 0 => match st with
    | [] => Q (.inl none) h
    | _ => False
  | 1 => match st with
    | [.int x] => Q (.inl (some (.int x))) h
    | _ => False
  | 2 => match st with
    | [.long x] => Q (.inl (some (.long x))) h
    | _ => False
  | 3 => match st with
    | [.float x] => Q (.inl (some (.float x))) h
    | _ => False
  | 4 => match st with
    | [.double x] => Q (.inl (some (.double x))) h
    | _ => False
  | 5 => match st with
    | [.ref x] => Q (.inl (some (.ref x))) h
    | [.null] => Q (.inl (some .null)) h
    | _ => False
  | 6 => match st with
    | [.int x] => isB x ∧ Q (.inl (some (.int x))) h
    | _ => False
  | 7 => match st with
    | [.int x] => narrow .byte (.int x) = .int x ∧ Q (.inl (some (.int x))) h
    | _ => False
  | _ => match st with
    | [.int x] => narrow .char (.int x) = .int x ∧ Q (.inl (some (.int x))) h
    | _ => False
def stp (mp : MI → List Value → PH → (Res → PH → Prop) → Prop) (M : MI) (Q : Res → PH → Prop) (a k : KT) (e : En) (c : Nat) (ls : Lc) (st : List Value) (h : PH) : Prop :=
  match e with
  | (pc, i, len, ax, ms) => match i with
    | .iconst n => k (pc + 1) c ls (.int (cI n) :: st) h
    | .bipush n => k (pc + 2) c ls (.int (cI n) :: st) h
    | .sipush n => k (pc + 3) c ls (.int (cI n) :: st) h
    | .lconst n => k (pc + 1) c ls (.long (lN n.val) :: st) h
    | .fconst _ => k (pc + 1) c ls (.float FP.fconst0 :: st) h
    | .dconst _ => k (pc + 1) c ls (.double FP.dconst0 :: st) h
    | .ldc_w _ => match ax with
      | [n, _] => k (pc + 3) c ls (.int (nI n) :: st) h
      | _ => False
    | .ldc _ => match ax with
      | [n, _] => k (pc + 2) c ls (.int (nI n) :: st) h
      | [_] => k (pc + 2) c ls (.ref 1084 :: st) h
      | _ => False
    | .ldc2_w _ => match ax with
      | [n, _] => k (pc + 3) c ls (.long (lN n) :: st) h
      | _ => False
    | .aconst_null => k (pc + 1) c ls (.null :: st) h
    | .iload n => stl k 0 (pc + 2) c ls st h n
    | .lload n => stl k 1 (pc + 2) c ls st h n
    | .fload n => stl k 2 (pc + 2) c ls st h n
    | .dload n => stl k 3 (pc + 2) c ls st h n
    | .aload n => stl k 4 (pc + 2) c ls st h n
    | .iload_n n => stl k 0 (pc + 1) c ls st h n.val
    | .lload_n n => stl k 1 (pc + 1) c ls st h n.val
    | .fload_n n => stl k 2 (pc + 1) c ls st h n.val
    | .dload_n n => stl k 3 (pc + 1) c ls st h n.val
    | .aload_n n => stl k 4 (pc + 1) c ls st h n.val
    | .istore n => sts M.nl k 0 (pc + 2) c ls st h n
    | .lstore n => sts M.nl k 1 (pc + 2) c ls st h n
    | .fstore n => sts M.nl k 2 (pc + 2) c ls st h n
    | .dstore n => sts M.nl k 3 (pc + 2) c ls st h n
    | .astore n => sts M.nl k 4 (pc + 2) c ls st h n
    | .istore_n n => sts M.nl k 0 (pc + 1) c ls st h n.val
    | .lstore_n n => sts M.nl k 1 (pc + 1) c ls st h n.val
    | .fstore_n n => sts M.nl k 2 (pc + 1) c ls st h n.val
    | .dstore_n n => sts M.nl k 3 (pc + 1) c ls st h n.val
    | .astore_n n => sts M.nl k 4 (pc + 1) c ls st h n.val
    | .iinc n v => match lget ls n, Nat.blt n M.nl with
      | some (.int x), true => k (pc + 3) c (lput1 ls n (.int (x + cI v))) st h
      | _, _ => False
    | .iadd => a2i k pc c ls st h (fun x y => x + y)
    | .isub => a2i k pc c ls st h (fun x y => x - y)
    | .imul => a2i k pc c ls st h (fun x y => x * y)
    | .iand => a2i k pc c ls st h (fun x y => x &&& y)
    | .ior => a2i k pc c ls st h (fun x y => x ||| y)
    | .ixor => a2i k pc c ls st h (fun x y => x ^^^ y)
    | .ishl => a2i k pc c ls st h (fun x y => x <<< (y &&& 31))
    | .ishr => a2i k pc c ls st h (fun x y => x >>> (y &&& 31))
    | .iushr => a2i k pc c ls st h (fun x y => (x.toUInt32 >>> (y.toUInt32 &&& Int32.toUInt32 31)).toInt32)
    | .idiv => match st with
      | .int y :: .int x :: r => (¬ y = 0) ∧ k (pc + 1) c ls (.int (x / y) :: r) h
      | _ => False
    | .irem => match st with
      | .int y :: .int x :: r => (¬ y = 0) ∧ k (pc + 1) c ls (.int (x - x / y * y) :: r) h
      | _ => False
    | .land => a2l k pc c ls st h (fun x y => x &&& y)
    | .lor => a2l k pc c ls st h (fun x y => x ||| y)
    | .lshl => match st with
      | .int y :: .long x :: r => k (pc + 1) c ls (.long (x <<< (y.toInt64 &&& 63)) :: r) h
      | _ => False
    | .lshr => match st with
      | .int y :: .long x :: r => k (pc + 1) c ls (.long (x >>> (y.toInt64 &&& 63)) :: r) h
      | _ => False
    | .lcmp => match st with
      | .long y :: .long x :: r => k (pc + 1) c ls (.int (lg_cmp x y) :: r) h
      | _ => False
    | .i2l => match st with
      | .int x :: r => k (pc + 1) c ls (.long x.toInt64 :: r) h
      | _ => False
    | .l2i => match st with
      | .long x :: r => k (pc + 1) c ls (.int x.toInt32 :: r) h
      | _ => False
    | .i2b => match st with
      | .int x :: r => k (pc + 1) c ls (.int x.toInt8.toInt32 :: r) h
      | _ => False
    | .i2f => match st with
      | .int x :: r => k (pc + 1) c ls (.float (FP.i2f x) :: r) h
      | _ => False
    | .i2d => match st with
      | .int x :: r => k (pc + 1) c ls (.double (FP.i2d x) :: r) h
      | _ => False
    | .fdiv => match st with
      | .float y :: .float x :: r => vf_n32 (FP.fdiv x y) ∧ k (pc + 1) c ls (.float (FP.fdiv x y) :: r) h
      | _ => False
    | .ddiv => match st with
      | .double y :: .double x :: r => vf_n64 (FP.ddiv x y) ∧ k (pc + 1) c ls (.double (FP.ddiv x y) :: r) h
      | _ => False
    | .f2d => match st with
      | .float x :: r => vf_n64 (FP.f2d x) ∧ k (pc + 1) c ls (.double (FP.f2d x) :: r) h
      | _ => False
    | .dup => match st with
      | v :: r => match v.category with
        | 1 => k (pc + 1) c ls (v :: v :: r) h
        | _ => False
      | _ => False
    | .dup2 => match st with
      | v :: w :: r => match v.category, w.category with
        | 1, 1 => k (pc + 1) c ls (v :: w :: v :: w :: r) h
        | _, _ => False
      | _ => False
    | .pop => match st with
      | v :: r => match v.category with
        | 1 => k (pc + 1) c ls r h
        | _ => False
      | _ => False
    | .goto _ => match ax with
      | [t] => k t c ls st h
      | _ => False
    | .ifCond cd _ => match ax with
      | [t] => match st with
        | .int x :: r => stcc cd x 0 (k t c ls r h) (k (pc + 3) c ls r h)
        | _ => False
      | _ => False
    | .if_icmp cd _ => match ax with
      | [t] => match st with
        | .int y :: .int x :: r => stcc cd x y (k t c ls r h) (k (pc + 3) c ls r h)
        | _ => False
      | _ => False
    | .ifnull _ => match ax with
      | [t] => match st with
        | .null :: r => k t c ls r h
        | .ref _ :: r => k (pc + 3) c ls r h
        | _ => False
      | _ => False
    | .ifnonnull _ => match ax with
      | [t] => match st with
        | .null :: r => k (pc + 3) c ls r h
        | .ref _ :: r => k t c ls r h
        | _ => False
      | _ => False
    | .tableswitch _ _ _ _ => match ax with
      | d :: lo :: ts => match st with
        | .int x :: r => ((∀ j : Nat, lo ≤ j → j < lo + ts.length → ¬ x = nI j) → k d c ls r h) ∧ swc k x c ls r h lo ts
        | _ => False
      | _ => False
    | .getfield _ => match ax with
      | [ci, j, so, _] => stg k pc c ls st h ci j so
      | [ci, j, so, _, _] => stgc k pc c ls st h ci j so
      | _ => False
    | .putfield _ => match ax with
      | [ci, j, so, _] => stp0 k pc c ls st h ci j so
      | _ => False
    | .iaload => match ax with
      | [] => sta k 0 pc c ls st h
      | t :: _ => stac k t pc c ls st h
    | .baload => match ax with
      | [] => sta k 1 pc c ls st h
      | t :: _ => stac k t pc c ls st h
    | .laload => sta k 2 pc c ls st h
    | .daload => sta k 3 pc c ls st h
    | .aaload => match ax with
      | [q] => sta k q pc c ls st h
      | [_, t] => stac k t pc c ls st h
      | _ => False
    | .aastore => match st with
      | .ref x :: .int i :: .ref b :: r => match arN b 5 with
        | some n => cOk x 21 ∧ vp_in i n ∧ k (pc + 1) c ls r (sr h b i.toNatClampNeg (some x))
        | none => False
      | _ => False
    | .iastore => stq k 0 pc c ls st h
    | .bastore => stq k 1 pc c ls st h
    | .lastore => stq k 2 pc c ls st h
    | .dastore => stq k 3 pc c ls st h
    | .arraylength => match ax with
      | [] => match st with
        | .ref b :: r => match arL b with
          | some n => k (pc + 1) c ls (.int (nI n) :: r) h
          | none => False
        | _ => False
      | t :: _ => stln k t pc c ls st h
    | .getstatic _ => match ax with
      | [kind, i, _] => match kind with
        | 0 => k (pc + 3) c ls (.ref i :: st) h
        | 1 => k (pc + 3) c ls (.int 1 :: st) h
        | 2 => k (pc + 3) c ls (.null :: st) h ∧ k (pc + 3) c ls (.ref 1090 :: st) h
        | _ => False
      | _ => False
    | .if_acmp cd _ => match ax with
      | [t] => match st with
        | .ref y :: .ref x :: r => (cOk x 21 ∧ cOk y 21) ∧ (match cd with
          | .eq => (x = y → k t c ls r h) ∧ (¬ x = y → k (pc + 3) c ls r h)
          | .ne => (¬ x = y → k t c ls r h) ∧ (x = y → k (pc + 3) c ls r h))
        | _ => False
      | _ => False
    | .fcmp op => match st with
      | .float y :: .float x :: r => k (pc + 1) c ls (.int (Op.cmpValue (FP.fcmp x y) op) :: r) h
      | _ => False
    | .dcmp op => match st with
      | .double y :: .double x :: r => k (pc + 1) c ls (.int (Op.cmpValue (FP.dcmp x y) op) :: r) h
      | _ => False
    | .i2c => match st with
      | .int x :: r => k (pc + 1) c ls (.int (x.toUInt32 % 65536).toInt32 :: r) h
      | _ => False
    | .return_ => str Q 0 st h
    | .ireturn => match ax with
      | [rt] => str Q rt st h
      | _ => False
    | .lreturn => str Q 2 st h
    | .freturn => str Q 3 st h
    | .dreturn => str Q 4 st h
    | .areturn => str Q 5 st h
    | .new _ => match ax with
      | x :: _ => cat8 st <| c + 1 ≤ M.cap ∧ Q (.inr x) h
      | _ => False
    | .invokevirtual _ => match ax, ms with
      | kind :: n :: rt :: rc :: mcv :: _ :: hs, [M'] => stc mp M Q a k pc M' kind n rt rc mcv hs c ls st h
      | kind :: _, [] => stb M k pc kind c ls st h
      | _, _ => False
    | .invokestatic _ => match ax, ms with
      | kind :: n :: rt :: rc :: mcv :: _ :: hs, [M'] => stc mp M Q a k pc M' kind n rt rc mcv hs c ls st h
      | kind :: _, [] => stb M k pc kind c ls st h
      | _, _ => False
    | _ => False
end
section
/-! ===== worlds of the pure machine, the contexts of a walk, 'At' and 'MetPM' ===== -/
def tr (ad : Nat → Nat) : Value → Value
  | .ref i => .ref (ad i)
  | v => v
def fv (ad : Nat → Nat) (h : PH) (a : Nat) (rs : List (Option Nat)) (so j : Nat) : Value := match so with
  | 0 => .int (gi h a j)
  | 1 => .long (gl h a j)
  | _ => va_rf ((rs.getD j none).map ad)
def fvs (ad : Nat → Nat) (h : PH) (a ci : Nat) (rs : List (Option Nat)) : List Value := (List.range (fso ci).length).map (fun j => fv ad h a rs ((fso ci).getD j 0) j)
def aev (ad : Nat → Nat) (h : PH) (a t : Nat) : (Nat → Int32) ⊕ (Nat → Int64) ⊕ (Nat → UInt32) ⊕ (Nat → UInt64) ⊕ (Nat → Option Nat) := match t with
  | 0 => .inl (h.1 a)
  | 1 => .inl (h.1 a)
  | 2 => .inr (.inl (h.2.1 a))
  | 3 => .inr (.inr (.inr (.inl (fun _ => 0))))
  | _ => .inr (.inr (.inr (.inr (fun j => (h.2.2.1 a j).map ad))))
def cellE (ad : Nat → Nat) (cA : Nat → ClassId) (h : PH) (a : Nat) : Option Kd → va_E
  | some (.inl (ci, rs)) => .inr (ci, fvs ad h a ci rs)
  | some (.inr (t, n)) => .inl (cA t, n, aev ad h a t)
  | none => .inr (0, [])
def wd (ad : Nat → Nat) (cA : Nat → ClassId) (h : PH) : va_W := (List.range NK).map (fun a => (ad a, cellE ad cA h a (kd a)))
abbrev pmCl : List vw_C := [(RX1, TX1, 4), (RX3, TX3, 3), (RX4, TX4, 3), (RX5, TX5, 18), (RX6, TX6, 2), (RX7, TX7, 10), (RX8, TX8, 16), (RX10, TX10, 9), (RX11, TX11, 11), (RX12, TX12, 6), (RX13, TX13, 28), (RJ0, TJ0, 4), (RJ4, TJ4, 4), (RJx4a65c, TJx4a65c, 3), (RJx35411, TJx35411, 4)]
def pmTy (cA : Nat → ClassId) : List (ClassId × FieldType) := [(cA 0, .int), (cA 1, .byte), (cA 2, .long), (cA 3, .double), (cA 4, .object RX8), (cA 5, .object "WaveUpgrade$Command"), (cA 6, .boolean), (cA 7, .object "java/lang/Object"), (cA 8, .array .boolean)]
def exN : Nat → String
  | 0 => "java/lang/IllegalStateException"
  | 1 => "java/lang/IllegalArgumentException"
  | _ => "java/lang/IndexOutOfBoundsException"
def cVal (ad : Nat → Nat) (a j : Nat) (r : Bool) : Value := match r with
  | true => .ref (ad (cfr a))
  | false => .int (cfv a j)
def cTy (t : Nat) : FieldType := match t with
  | 0 => .int
  | 1 => .byte
  | 4 => .object "WaveUpgrade$Statement"
  | _ => .object "WaveUpgrade$Command"
def cEv (ad : Nat → Nat) (t b : Nat) (j : Nat) : Value := match t with
  | 0 => .int (csw b j)
  | 1 => .int (cby b j)
  | _ => .ref (ad (cel b j))
def cSv (ad : Nat → Nat) (i : Nat) : Value := match i with
  | 0 => .int 1
  | i => .ref (ad i)
def cPre : String := "jdk/internal/util/Preconditions"
def cFmt : String := "SIOOBE_FORMATTER"
def cBiF : String := "Ljava/util/function/BiFunction;"
/-- what the start holds outside the world: Throwable's statics, which exceptions are not of which class, the constants -/
def CF (ad : Nat → Nat) (A : Nat → Prop) (U : State) (H : Heap) : Prop :=
  (vx_Zq Bundle.tN "UNASSIGNED_STACK" Bundle.steD A U H ∧ vx_Zq Bundle.tN "SUPPRESSED_SENTINEL" Bundle.listD A U H) ∧ (va_Nc (exN 1) (exN 2) U ∧ va_Nc (exN 0) (exN 2) U ∧ va_Nc (exN 0) (exN 1) U) ∧
  (∀ (ci j : Nat) (o n d : String) (r : Bool), cFld ci j = some (o, n, d, r) → ∀ a, cOk a ci → va_OF o n d (cVal ad a j r) (ad a) A U H) ∧
  (∀ ci a, cOk a ci → va_O (cNm ci) (ad a) A U H) ∧
  (∀ t b, cAr b t → va_T (cTy t) (ad b) (cln b) (cEv ad t b) A U H) ∧
  (∀ (i : Nat) (C n d : String), cSt i = some (C, n, d) → va_Z C n d (cSv ad i) A U H) ∧
  (va_Z cPre cFmt cBiF .null A U H ∨ va_Z cPre cFmt cBiF (.ref (ad 1090)) A U H)
theorem CF.moved {ad : Nat → Nat} {A : Nat → Prop} {u U : State} {H : Heap} (hvm : u.vm.Alike U.vm) (h : CF ad A u H) : CF ad A U H := by
  obtain ⟨⟨a1, a2⟩, ⟨b1, b2, b3⟩, c1, c2, c3, c4, c5⟩ := h
  exact ⟨⟨a1.moved hvm, a2.moved hvm⟩, ⟨b1.moved hvm, b2.moved hvm, b3.moved hvm⟩, fun ci j o n d r h1 a h2 => (c1 ci j o n d r h1 a h2).moved hvm, fun ci a h1 => (c2 ci a h1).moved hvm, fun t b h1 => (c3 t b h1).moved hvm, fun i C n d h1 => (c4 i C n d h1).moved hvm, c5.imp (fun q => q.moved hvm) (fun q => q.moved hvm)⟩
theorem CF.kept {ad : Nat → Nat} {A : Nat → Prop} {U : State} {H H1 : Heap} (h : CF ad A U H) (hq : ∀ a : Nat, a < H.size → ¬ A a → H1[a]? = H[a]?) : CF ad A U H1 := by
  obtain ⟨⟨a1, a2⟩, b, c1, c2, c3, c4, c5⟩ := h
  exact ⟨⟨a1.kept hq, a2.kept hq⟩, b, fun ci j o n d r h1 a h2 => (c1 ci j o n d r h1 a h2).kept hq, fun ci a h1 => (c2 ci a h1).kept hq, fun t b h1 => (c3 t b h1).kept hq, fun i C n d h1 => (c4 i C n d h1).kept hq, c5.imp (fun q => q.kept hq) (fun q => q.kept hq)⟩
theorem CF.narrow {ad : Nat → Nat} {A B : Nat → Prop} {U : State} {H : Heap} (h : CF ad A U H) (hAB : ∀ q, B q → A q) : CF ad B U H := by
  obtain ⟨⟨a1, a2⟩, b, c1, c2, c3, c4, c5⟩ := h
  exact ⟨⟨a1.narrow hAB, a2.narrow hAB⟩, b, fun ci j o n d r h1 a h2 => (c1 ci j o n d r h1 a h2).narrow hAB, fun ci a h1 => (c2 ci a h1).narrow hAB, fun t b h1 => (c3 t b h1).narrow hAB, fun i C n d h1 => (c4 i C n d h1).narrow hAB, c5.imp (fun q => q.narrow hAB) (fun q => q.narrow hAB)⟩
/-- words that a list of words can't carry over a call: by premises of their own -/
def XW : List Jvm.Cond := [
  .methodLinkNest RX8 119 yX11_isIn RX11, .methodLinkNest RX8 73 yX11_copyRow RX11, .methodLinkNest RX3 22 yX11_copyRow RX11, .methodLinkNest RX5 83 yX11_copyRow RX11, .methodLinkNest RX1 150 yX11_isIn RX11,
  .castable "java/lang/IllegalStateException" "java/lang/IllegalStateException", .castable "java/lang/IllegalArgumentException" "java/lang/IllegalArgumentException", .castable "java/lang/IndexOutOfBoundsException" "java/lang/IndexOutOfBoundsException",
  .declares (Bundle.init0 "java/lang/RuntimeException"), .declares (Bundle.init0 "java/lang/Exception"), .declares (Bundle.init0 Bundle.tN)]
def XWk (w : Jvm.Cond) : Bool := match w with
  | .methodLinkNest .. => true
  | .castable .. => true
  | .declares .. => true
  | _ => false
theorem XW_k : XW.all XWk = true := by decide +kernel
def xwOk (ad : Nat → Nat) (U : State) : Prop := (∀ w ∈ XW, va_Nw w U) ∧ vk_R RX1 165 "held" (ad 1084) U
theorem xwOk.warm {ad : Nat → Nat} {s U : State} (hW : s.WarmedH U.vm) (h : xwOk ad s) : xwOk ad U := by
  refine ⟨?_, h.2.warm hW⟩
  intro w hw
  have h1 := List.all_eq_true.mp XW_k w hw
  have h2 := h.1 w hw
  cases w <;> first | exact va_Nw.warmM hW h2 | exact va_Nw.warmC hW h2 | exact va_Nw.warmD hW h2 | cases h1
theorem xwOk.same {ad : Nat → Nat} {u U : State} (hv : u.vm = U.vm) (h : xwOk ad u) : xwOk ad U := by
  refine ⟨?_, h.2.same hv.symm⟩
  intro w hw
  exact va_Nw.same (by
    have h1 := List.all_eq_true.mp XW_k w hw
    cases w <;> first | rfl | cases h1) hv (h.1 w hw)
/-- the good words of the tables -/
def tbG : List Jvm.Cond := lw_tbl.filter goodWord
def rtOk (ret : Option FieldType) (i : Instr) (v : Option Value) : Prop := match i with
  | .return_ => v = none ∧ ret = none
  | .ireturn => ∃ (x : Int32) (ty : FieldType), v = some (.int x) ∧ ret = some ty ∧ narrow ty (.int x) = .int x
  | .lreturn => ∃ x : Int64, v = some (.long x) ∧ ret = some .long
  | .freturn => ∃ x : UInt32, v = some (.float x) ∧ ret = some .float
  | .dreturn => ∃ x : UInt64, v = some (.double x) ∧ ret = some .double
  | .areturn => ((∃ n, ret = some (.object n)) ∨ ∃ t, ret = some (.array t)) ∧ (v = some .null ∨ ∃ a, v = some (.ref a))
  | _ => False
/-- 'throw new E()' stands at pc -/
def thOk (M : MI) (pc ik ic x : Nat) : Prop :=
  decode M.b pc = .ok (.new ik, 3) ∧ decode M.b (pc + 3) = .ok (.dup, 1) ∧ decode M.b (pc + 4) = .ok (.invokespecial ic, 3) ∧ decode M.b (pc + 7) = .ok (.athrow, 1) ∧
  6 ≤ M.fr ∧ 89 ≤ M.lo ∧ x < 3 ∧ Cond.initialized (exN x) ∈ tbG ∧ Cond.classLink M.y.cls ik (exN x) ∈ tbG ∧ Cond.methodLink M.y.cls ic (Bundle.init0 (exN x)) ∈ tbG
/-- a word lies at a place of the tables, and is a good one -/
def atW (p : Nat) (w : Jvm.Cond) : Bool := decide (tables_1[p]? = some w) && goodWord w
def fldOk (M : MI) (idx ci j so p : Nat) : Bool := match pmCl[ci]? with
  | some (_, T, N) => Nat.blt j N && atW p (.fieldLink M.y.cls idx (T j).1 (T j).2.1 (T j).2.2.1) && Nat.beq N (fso ci).length && (match so, (fso ci).getD j 9 with
    | 0, 0 => decide ((T j).2.2.1 = "I")
    | 1, 0 => decide ((T j).2.2.1 = "Z")
    | 2, 1 => decide ((T j).2.2.1 = "J")
    | 3, 2 => true
    | _, _ => false)
  | none => false
def retC (rt : Nat) : Option FieldType → Bool
  | none => Nat.beq rt 0
  | some .int => Nat.beq rt 1
  | some .boolean => Nat.beq rt 1
  | some .byte => Nat.beq rt 1
  | some .char => Nat.beq rt 1
  | some .long => Nat.beq rt 2
  | some .float => Nat.beq rt 3
  | some .double => Nat.beq rt 4
  | some (.object _) => Nat.beq rt 5
  | _ => false
/-- what is the same at every call of a method: its room below the caller's -/
def calB (M M' : MI) (n : Nat) (mcv rt : Nat) : Bool := Nat.beq mcv M'.cap && Nat.ble (M'.fr + 1) M.fr && Nat.ble (8 + (M'.nl + 11) + M'.lo) M.lo && retC rt M'.ret &&
  decide (M'.y.cls ≠ "java/lang/invoke/MethodHandle" ∧ M'.y.cls ≠ "java/lang/invoke/VarHandle" ∧ (parseMethodDescriptor M'.y.desc).map (fun d => d.parameters.length) = some n)
def okI (M : MI) (pc : Nat) (i : Instr) (len : Nat) (ax : List Nat) (ms : List MI) : Bool := match i with
  | .iconst _ => Nat.beq len 1
  | .bipush n => Nat.beq len 2 && decide ((Int8.ofInt n).toInt32 = cI n)
  | .sipush n => Nat.beq len 3 && decide ((Int16.ofInt n).toInt32 = cI n)
  | .fconst f => Nat.beq len 1 && decide (f = 0)
  | .dconst f => Nat.beq len 1 && decide (f = 0)
  | .ldc idx => Nat.beq len 2 && (match ax with
    | [n, p] => atW p (.constant M.y.cls idx (nI n))
    | [_] => decide (M.y.cls = RX1) && Nat.beq idx 165
    | _ => false)
  | .ldc2_w idx => Nat.beq len 3 && (match ax with
    | [n, p] => atW p (.constantLong M.y.cls idx (lN n))
    | _ => false)
  | .iload _ | .lload _ | .fload _ | .dload _ | .aload _ | .istore _ | .lstore _ | .fstore _ | .dstore _ | .astore _ => Nat.beq len 2
  | .iinc _ _ => Nat.beq len 3
  | .goto off => Nat.beq len 3 && (match ax with
    | [t] => decide ((pc : Int) + off = (t : Int))
    | _ => false)
  | .ifCond _ off => Nat.beq len 3 && (match ax with
    | [t] => decide ((pc : Int) + off = (t : Int))
    | _ => false)
  | .if_icmp _ off => Nat.beq len 3 && (match ax with
    | [t] => decide ((pc : Int) + off = (t : Int))
    | _ => false)
  | .ifnull off => Nat.beq len 3 && (match ax with
    | [t] => decide ((pc : Int) + off = (t : Int))
    | _ => false)
  | .ifnonnull off => Nat.beq len 3 && (match ax with
    | [t] => decide ((pc : Int) + off = (t : Int))
    | _ => false)
  | .tableswitch d lo hi offs => (match ax with
    | dt :: l0 :: ts => decide ((pc : Int) + d = (dt : Int)) && decide (lo = (l0 : Int)) && decide (hi + 1 = (l0 : Int) + (ts.length : Int)) && decide (offs.toList.map (fun o => (pc : Int) + o) = ts.map (fun t => ((t : Nat) : Int))) && Nat.blt (l0 + ts.length) 100000
    | _ => false)
  | .getfield idx => Nat.beq len 3 && (match ax with
    | [ci, j, so, p] => fldOk M idx ci j so p
    | [ci, j, so, p, _] => (match cFld ci j with
      | some (o, n, d, r) => atW p (.fieldLink M.y.cls idx o n d) && Nat.beq so (match r with
        | true => 3
        | false => 0)
      | none => false)
    | _ => false)
  | .putfield idx => Nat.beq len 3 && (match ax with
    | [ci, j, so, p] => fldOk M idx ci j so p && (match pmCl[ci]? with
      | some (_, T, _) => !(T j).2.2.2
      | none => false)
    | _ => false)
  | .iaload => Nat.beq len 1 && (match ax with
    | [] => true
    | [0] => true
    | [6] => Nat.beq M.sk 3
    | _ => false)
  | .baload => Nat.beq len 1 && (match ax with
    | [] => true
    | [1] => true
    | _ => false)
  | .aaload => Nat.beq len 1 && (match ax with
    | [q] => Nat.beq q 4 || Nat.beq q 5
    | [_, t] => Nat.beq t 4 || Nat.beq t 5
    | _ => false)
  | .arraylength => Nat.beq len 1 && (match ax with
    | [] => true
    | [6] => Nat.beq M.sk 3
    | [t] => Nat.beq t 0 || Nat.beq t 1 || Nat.beq t 4 || Nat.beq t 5
    | _ => false)
  | .getstatic idx => Nat.beq len 3 && (match ax with
    | [0, i, p] => (match cSt i with
      | some (C, n, d) => !(Nat.beq i 0) && atW p (.fieldLink M.y.cls idx C n d)
      | none => false)
    | [1, _, p] => atW p (.fieldLink M.y.cls idx "java/lang/String" "COMPACT_STRINGS" "Z")
    | [2, _, p] => atW p (.fieldLink M.y.cls idx cPre cFmt cBiF)
    | _ => false)
  | .if_acmp _ off => Nat.beq len 3 && (match ax with
    | [t] => decide ((pc : Int) + off = (t : Int))
    | _ => false)
  | .ldc_w idx => Nat.beq len 3 && (match ax with
    | [n, p] => atW p (.constant M.y.cls idx (nI n))
    | _ => false)
  | .ireturn => Nat.beq len 1 && (match ax with
    | [1] => decide (M.ret = some .int)
    | [6] => decide (M.ret = some .boolean)
    | [7] => decide (M.ret = some .byte)
    | [8] => decide (M.ret = some .char)
    | _ => false)
  | .return_ => Nat.beq len 1 && decide (M.ret = none)
  | .lreturn => Nat.beq len 1 && decide (M.ret = some .long)
  | .freturn => Nat.beq len 1 && decide (M.ret = some .float)
  | .dreturn => Nat.beq len 1 && decide (M.ret = some .double)
  | .areturn => Nat.beq len 1 && (match M.ret with
    | some (.object _) => true
    | _ => false)
  | .new ik => Nat.beq len 3 && (match ax with
    | [x, ic, p1, p2] => Nat.ble 6 M.fr && Nat.ble 89 M.lo && Nat.blt x 3 && decide (decode M.b (pc + 3) = .ok (.dup, 1)) && decide (decode M.b (pc + 4) = .ok (.invokespecial ic, 3)) && decide (decode M.b (pc + 7) = .ok (.athrow, 1)) && atW p1 (.classLink M.y.cls ik (exN x)) && atW p2 (.methodLink M.y.cls ic (Bundle.init0 (exN x)))
    | _ => false)
  | .invokevirtual idx => Nat.beq len 3 && (match ax, ms with
    | 0 :: n :: rt :: rc :: mcv :: p :: hs, [M'] => calB M M' n mcv rt && Nat.beq M'.sk 0 && atW p (.methodLink M.y.cls idx M'.y) && (match pmCl[rc]? with
      | some (C, _, _) => decide (M'.y.cls = C)
      | none => false) && hsOk M pc hs
    | 5 :: n :: rt :: rc :: mcv :: p :: hs, [M'] => calB M M' n mcv rt && Nat.beq M'.sk 0 && atW p (.methodLink M.y.cls idx M'.y) && decide (M'.y.cls = cNm rc) && hsOk M pc hs
    | [20, p], [] => atW p (.methodLink M.y.cls idx ⟨cNm 20, "ordinal", "()I"⟩) && jdkR M
    | _, _ => false)
  | .invokestatic idx => Nat.beq len 3 && (match ax, ms with
    | kind :: n :: rt :: _ :: mcv :: p :: hs, [M'] => calB M M' n mcv rt && (match kind with
      | 1 => Nat.beq M'.sk 1 && atW p (.methodLink M.y.cls idx M'.y)
      | 3 => Nat.beq M'.sk 2 && atW p (.methodLink M.y.cls idx M'.y)
      | 2 => Nat.beq M'.sk 1 && (match XW[p]? with
        | some w => decide (w = .methodLinkNest M.y.cls idx M'.y RX11)
        | none => false)
      | _ => false) && hsOk M pc hs
    | [10, p], [] => atW p (.methodLink M.y.cls idx Lib.Math.min.name) && jdkR M
    | [11, p], [] => atW p (.methodLink M.y.cls idx Lib.Math.max.name) && jdkR M
    | [12, p], [] => atW p (.methodLink M.y.cls idx Lib.Math.abs.name) && jdkR M
    | [13, p], [] => atW p (.methodLink M.y.cls idx yJ9_floorMod_7cf53) && jdkR M
    | [15, p], [] => atW p (.methodLink M.y.cls idx arraycopyName) && jdkR M
    | [16, p], [] => atW p (.methodLink M.y.cls idx arraycopyName) && jdkR M
    | _, _ => false)
  | _ => Nat.beq len 1
where
  jdkR (M : MI) : Bool := Nat.ble 1 M.fr && Nat.ble 60 M.lo
  hsOk (M : MI) (_ : Nat) (hs : List Nat) : Bool := match hs with
    | [] => decide (M.hh = [])
    | _ => false
def okE (M : MI) (e : En) : Bool := match e with
  | (pc, i, len, ax, ms) => decide (decode M.b pc = .ok (i, len)) && okI M pc i len ax ms
def rmM (M : MI) : Room := { frames := M.fr, cells := M.cap, slots := 6 * M.cap, locals := M.lo }
def headM (M : MI) : Jvm.Cond := match M.hh with
  | [] => .code M.y M.b M.nl M.ret
  | _ => .codeWith M.y M.b M.nl M.ret M.hh
def wsM (M : MI) : List Jvm.Cond := headM M :: tbG
/-- the heaps are the same at the numbers from 1000 on -/
def Hi (x h : PH) : Prop := ∀ a, 1000 ≤ a → h.1 a = x.1 a ∧ h.2.1 a = x.2.1 a ∧ h.2.2.1 a = x.2.2.1 a ∧ h.2.2.2 a = x.2.2.2 a
def scr (xs : PH) (_ : Nat) (h : PH) : Prop := Hi xs h
def adA (ad : Nat → Nat) (sz : Nat) : Nat → Prop := fun q => (∃ a, a < NK ∧ q = ad a) ∨ sz ≤ q
def tl (ad : Nat → Nat) (ls : Lc) : List (Nat × Value) := (List.range ls.length).filterMap (fun i => (ls.getD i none).map (fun v => (i, tr ad v)))
/-- the tables know the method -/
def MOK (M : MI) : Prop := headM M ∈ tbG ∧ Cond.initialized M.y.cls ∈ tbG ∧ plainName M.y.cls = true ∧ (match M.sk with
  | 0 => M.hh = [] ∧ Cond.instanceMethod M.y ∈ tbG ∧ Cond.selects M.y.cls M.y M.y ∈ tbG
  | 1 => M.hh = [] ∧ Cond.static M.y ∈ tbG
  | 2 => M.hh ≠ [] ∧ Cond.static M.y ∈ tbG
  | _ => False)
/-- the world in a heap, with all that the tables and the start say of it -/
def WH (ad : Nat → Nat) (cA : Nat → ClassId) (D : va_G) (xs : PH) (L : Nat) (A : Nat → Prop) (h : PH) (s : State) (H0 H : Heap) (locs : List Loc) : Prop :=
  va_P D pmCl (wd ad cA h) H ∧ va_D A (wd ad cA h) ∧ va_S A H0 H locs ∧ scr xs L h
def PcM (ad : Nat → Nat) (cA : Nat → ClassId) (D : va_G) (xs : PH) (L sz : Nat) (h : PH) (U : State) : Prop :=
  U.heap.size = sz ∧ va_P D pmCl (wd ad cA h) U.heap ∧ va_K D pmCl (pmTy cA) U ∧ va_D (fun _ => True) (wd ad cA h) ∧ scr xs L h ∧ CF ad (adA ad sz) U U.heap ∧ xwOk ad U
def PoM (ad : Nat → Nat) (cA : Nat → ClassId) (D : va_G) (xs : PH) (L : Nat) (A : Nat → Prop) (h : PH) (t : State) : Prop :=
  va_P D pmCl (wd ad cA h) t.heap ∧ va_D A (wd ad cA h) ∧ scr xs L h
def QcM (ad : Nat → Nat) (cA : Nat → ClassId) (D : va_G) (xs : PH) (L sz : Nat) (Q : Res → PH → Prop) : Array Value → State → Outcome → State → Prop :=
  fun _ st o t => (∃ (v : Option Value) (h : PH), o = .returned (v.map (tr ad)) ∧ Q (.inl v) h ∧ PoM ad cA D xs L (adA ad sz) h t) ∧ va_F (adA ad sz) st t
def XcM (ad : Nat → Nat) (cA : Nat → ClassId) (D : va_G) (xs : PH) (L sz : Nat) (Q : Res → PH → Prop) : String → State → State → Prop :=
  fun E st t => (∃ (x : Nat) (h : PH), exN x = E ∧ Q (.inr x) h ∧ PoM ad cA D xs L (adA ad sz) h t) ∧ va_F (adA ad sz) st t
/-- the contract of a method on numbers and pure heaps: from as and h it ends with Q -/
def MetPM (M : MI) (as : List Value) (h : PH) (Q : Res → PH → Prop) : Prop :=
  ∀ (l : Launch) (ad : Nat → Nat) (cA : Nat → ClassId) (D : va_G) (xs : PH) (L sz : Nat), l.stackTraces = false →
    vx_Met l M.y (wsM M) (rmM M) (va_Pc (as.map (tr ad)) (PcM ad cA D xs L sz h)) (QcM ad cA D xs L sz Q) (XcM ad cA D xs L sz Q) M.cap (6 * M.cap) (adA ad sz)
/-- a method's frame in a walk: the machine, the tables, the room, how it ends -/
def Cx (M : MI) (Q : Res → PH → Prop) (Z : State → Prop) (p : Program) (l : Launch) (e : Env) (R : Room) (s : State) (m : MethodId) (args : Array Value) (below : List Frame) (meth : Method) (c : Code)
    (ad : Nat → Nat) (cA : Nat → ClassId) (D : va_G) (A : Nat → Prop) (xs : PH) (L : Nat) : Prop :=
  CallFix p m c M.b M.nl s args tbG M.y.cls ∧ va_K D pmCl (pmTy cA) s ∧ (∀ q, s.heap.size ≤ q → A q) ∧ CF ad A s s.heap ∧ xwOk ad s ∧ (M.sk = 3 → True) ∧ l.stackTraces = false ∧
  (M.fr ≤ R.frames ∧ M.lo ≤ R.locals ∧ M.cap ≤ R.cells ∧ 6 * M.cap ≤ R.slots) ∧ c.exceptionTable.toList = tableOf M.hh ∧
  (∀ (v : Option Value) (h : PH) (H : Heap) (locs : List Loc) (cells slots : Nat) (pc : Nat) (i : Instr) (ls : Array Slot), decode M.b pc = .ok (i, 1) → rtOk M.ret i v → Q (.inl v) h → WH ad cA D xs L A h s s.heap H locs → cells ≤ M.cap → slots ≤ 6 * M.cap →
    W p l e R s m args below meth c H locs cells slots Z (F0 m pc ls ((v.map (tr ad)).toList))) ∧
  (∀ (x : Nat) (h : PH) (H : Heap) (locs : List Loc) (cells slots : Nat) (pc ik ic : Nat) (ls : Array Slot) (rest : List Value), thOk M pc ik ic x → Q (.inr x) h → WH ad cA D xs L A h s s.heap H locs → cells + 1 ≤ M.cap → slots + 6 ≤ 6 * M.cap → ls.size = M.nl → (rest.map fun v => v.category).sum ≤ 8 →
    W p l e R s m args below meth c H locs cells slots Z (F0 m pc ls rest)) ∧
  (∀ (x : Nat) (h : PH) (H : Heap) (locs : List Loc) (cells slots : Nat) (pc : Nat) (ls : Array Slot) (rest : List Value) (q : Addr) (ce : Cell), Q (.inr x) h → WH ad cA D xs L A h s s.heap H locs → cells ≤ M.cap → slots ≤ 6 * M.cap → H[q]? = some ce → ce.vm = .none → s.vm.findClass (exN x) = some ce.cls →
    vx_W p l e R s m args below meth c H locs cells slots Z (F0 m pc ls rest) q)
end
section
/-! ===== lemmas of the pure worlds ===== -/
theorem tbl_of {w : Jvm.Cond} (h : w ∈ tables_1) : w ∈ lw_tbl := List.mem_append_right _ h
theorem tbG_at {p : Nat} {w : Jvm.Cond} (h : atW p w = true) : w ∈ tbG := by
  simp only [atW, Bool.and_eq_true, decide_eq_true_eq] at h
  exact List.mem_filter.mpr ⟨tbl_of (List.mem_of_getElem? h.1), h.2⟩
theorem tbG_of (ws : List Jvm.Cond) (ps : List Nat) (hp : ws = ps.filterMap (fun i => tables_1[i]?)) (h : ws.all goodWord = true) : ∀ w ∈ ws, w ∈ tbG := by
  intro w hw
  have h1 := List.all_eq_true.mp h w hw
  rw [hp] at hw
  obtain ⟨i, -, hi⟩ := List.mem_filterMap.mp hw
  exact List.mem_filter.mpr ⟨tbl_of (List.mem_of_getElem? hi), h1⟩
theorem uin_1 : ∀ w ∈ u_ws RX1 TX1 4, w ∈ tbG := tbG_of (u_ws RX1 TX1 4) [312, 314, 316, 318] (by decide +kernel) (by decide +kernel)
theorem uin_3 : ∀ w ∈ u_ws RX3 TX3 3, w ∈ tbG := tbG_of (u_ws RX3 TX3 3) [212, 214, 216] (by decide +kernel) (by decide +kernel)
theorem uin_4 : ∀ w ∈ u_ws RX4 TX4 3, w ∈ tbG := tbG_of (u_ws RX4 TX4 3) [295, 297, 299] (by decide +kernel) (by decide +kernel)
theorem uin_5 : ∀ w ∈ u_ws RX5 TX5 18, w ∈ tbG := tbG_of (u_ws RX5 TX5 18) [159, 161, 163, 165, 167, 169, 171, 173, 175, 177, 179, 181, 183, 185, 187, 189, 191, 193] (by decide +kernel) (by decide +kernel)
theorem uin_6 : ∀ w ∈ u_ws RX6 TX6 2, w ∈ tbG := tbG_of (u_ws RX6 TX6 2) [103, 105] (by decide +kernel) (by decide +kernel)
theorem uin_7 : ∀ w ∈ u_ws RX7 TX7 10, w ∈ tbG := tbG_of (u_ws RX7 TX7 10) [339, 341, 343, 345, 347, 349, 351, 353, 355, 357] (by decide +kernel) (by decide +kernel)
theorem uin_8 : ∀ w ∈ u_ws RX8 TX8 16, w ∈ tbG := tbG_of (u_ws RX8 TX8 16) [249, 251, 253, 255, 257, 259, 261, 263, 265, 267, 269, 271, 273, 275, 277, 279] (by decide +kernel) (by decide +kernel)
theorem uin_10 : ∀ w ∈ u_ws RX10 TX10 9, w ∈ tbG := tbG_of (u_ws RX10 TX10 9) [63, 65, 67, 69, 71, 73, 75, 77, 79] (by decide +kernel) (by decide +kernel)
theorem uin_11 : ∀ w ∈ u_ws RX11 TX11 11, w ∈ tbG := tbG_of (u_ws RX11 TX11 11) [371, 373, 375, 377, 379, 381, 383, 385, 387, 389, 391] (by decide +kernel) (by decide +kernel)
theorem uin_X12 : ∀ w ∈ u_ws RX12 TX12 6, w ∈ tbG := tbG_of (u_ws RX12 TX12 6) [1139, 1141, 1143, 1145, 1147, 1149] (by decide +kernel) (by decide +kernel)
theorem uin_X13 : ∀ w ∈ u_ws RX13 TX13 28, w ∈ tbG := tbG_of (u_ws RX13 TX13 28) [805, 807, 809, 811, 813, 815, 817, 819, 821, 823, 825, 827, 829, 831, 833, 835, 837, 839, 841, 843, 845, 847, 849, 851, 853, 855, 857, 859] (by decide +kernel) (by decide +kernel)
theorem uin_J0 : ∀ w ∈ u_ws RJ0 TJ0 4, w ∈ tbG := tbG_of (u_ws RJ0 TJ0 4) [1096, 1098, 1100, 1102] (by decide +kernel) (by decide +kernel)
theorem uin_J4 : ∀ w ∈ u_ws RJ4 TJ4 4, w ∈ tbG := tbG_of (u_ws RJ4 TJ4 4) [883, 885, 887, 889] (by decide +kernel) (by decide +kernel)
theorem uin_Jx4a65c : ∀ w ∈ u_ws RJx4a65c TJx4a65c 3, w ∈ tbG := tbG_of (u_ws RJx4a65c TJx4a65c 3) [758, 754, 756] (by decide +kernel) (by decide +kernel)
theorem uin_Jx35411 : ∀ w ∈ u_ws RJx35411 TJx35411 4, w ∈ tbG := tbG_of (u_ws RJx35411 TJx35411 4) [1176, 1178, 1180, 1182] (by decide +kernel) (by decide +kernel)
theorem cl_ok {ci : Nat} {C : String} {T : u_T} {N : Nat} (h : pmCl[ci]? = some (C, T, N)) : (∀ w ∈ u_ws C T N, w ∈ tbG) ∧ (∃ ty0 : Nat → FieldType, ∀ k, k < N → parseFieldDescriptor (T k).2.2.1 = some (ty0 k)) ∧ (∀ a, a < N → ∀ b, b < N → a ≠ b → (T a).2.1 ≠ (T b).2.1) := by
  match ci, h with
  | 0, h => cases h; exact ⟨uin_1, ⟨_, tyX1_ok⟩, nmX1⟩
  | 1, h => cases h; exact ⟨uin_3, ⟨_, tyX3_ok⟩, nmX3⟩
  | 2, h => cases h; exact ⟨uin_4, ⟨_, tyX4_ok⟩, nmX4⟩
  | 3, h => cases h; exact ⟨uin_5, ⟨_, tyX5_ok⟩, nmX5⟩
  | 4, h => cases h; exact ⟨uin_6, ⟨_, tyX6_ok⟩, nmX6⟩
  | 5, h => cases h; exact ⟨uin_7, ⟨_, tyX7_ok⟩, nmX7⟩
  | 6, h => cases h; exact ⟨uin_8, ⟨_, tyX8_ok⟩, nmX8⟩
  | 7, h => cases h; exact ⟨uin_10, ⟨_, tyX10_ok⟩, nmX10⟩
  | 8, h => cases h; exact ⟨uin_11, ⟨_, tyX11_ok⟩, nmX11⟩
  | 9, h => cases h; exact ⟨uin_X12, ⟨_, tyX12_ok⟩, nmX12⟩
  | 10, h => cases h; exact ⟨uin_X13, ⟨_, tyX13_ok⟩, nmX13⟩
  | 11, h => cases h; exact ⟨uin_J0, ⟨_, tyJ0_ok⟩, nmJ0⟩
  | 12, h => cases h; exact ⟨uin_J4, ⟨_, tyJ4_ok⟩, nmJ4⟩
  | 13, h => cases h; exact ⟨uin_Jx4a65c, ⟨_, tyJx4a65c_ok⟩, nmJx4a65c⟩
  | 14, h => cases h; exact ⟨uin_Jx35411, ⟨_, tyJx35411_ok⟩, nmJx35411⟩
  | k + 15, h => cases h
/-! kinds -/
theorem kd_hi : (List.range 160).all (fun a => decide (a < NK) || (kd a).isNone) = true := by decide +kernel
theorem kd_lt {a : Nat} {q : Kd} (h : kd a = some q) : a < NK := by
  by_cases h1 : a < 160
  · have h2 := List.all_eq_true.mp kd_hi a (List.mem_range.mpr h1)
    simp only [Bool.or_eq_true, decide_eq_true_eq] at h2
    rcases h2 with h2 | h2
    · exact h2
    · rw [h] at h2; cases h2
  · exfalso
    have h3 : KSS.getD (a / 16) [] = [] := by
      have : KSS.length ≤ a / 16 := by
        have : KSS.length = 9 := rfl
        omega
      simp [List.getD_eq_getElem?_getD, List.getElem?_eq_none this]
    unfold kd at h
    rw [h3] at h
    cases h
theorem obC_of {a ci : Nat} (h : obC a ci = true) : ∃ rs, kd a = some (.inl (ci, rs)) := by
  unfold obC at h
  split at h
  · rename_i c rs hk
    rw [Nat.eq_of_beq_eq_true h] at hk
    exact ⟨rs, hk⟩
  · cases h
theorem arN_of {a t n : Nat} (h : arN a t = some n) : kd a = some (.inr (t, n)) := by
  unfold arN at h
  split at h
  · rename_i u n' hk
    split at h
    · rename_i hb
      cases h
      rw [Nat.eq_of_beq_eq_true hb] at hk
      exact hk
    · cases h
  · cases h
theorem arL_of {a n : Nat} (h : arL a = some n) : ∃ t, kd a = some (.inr (t, n)) := by
  unfold arL at h
  split at h
  · rename_i u n' hk
    cases h
    exact ⟨u, hk⟩
  · cases h
theorem wd_get {ad : Nat → Nat} {cA : Nat → ClassId} {h : PH} {a : Nat} (ha : a < NK) : (wd ad cA h)[a]? = some (ad a, cellE ad cA h a (kd a)) := by
  unfold wd
  rw [List.getElem?_map, List.getElem?_range ha]
  rfl
theorem wd_ob {ad : Nat → Nat} {cA : Nat → ClassId} {h : PH} {a ci : Nat} {rs : List (Option Nat)} (hk : kd a = some (.inl (ci, rs))) : (wd ad cA h)[a]? = some (ad a, .inr (ci, fvs ad h a ci rs)) := by
  rw [wd_get (kd_lt hk), hk]; rfl
theorem wd_ar {ad : Nat → Nat} {cA : Nat → ClassId} {h : PH} {a t n : Nat} (hk : kd a = some (.inr (t, n))) : (wd ad cA h)[a]? = some (ad a, .inl (cA t, n, aev ad h a t)) := by
  rw [wd_get (kd_lt hk), hk]; rfl
theorem wd_upd {ad : Nat → Nat} {cA : Nat → ClassId} {h h' : PH} {a : Nat} {E : va_E} (ha : a < NK) (hne : ∀ b, b ≠ a → cellE ad cA h' b (kd b) = cellE ad cA h b (kd b)) (hE : cellE ad cA h' a (kd a) = E) : (wd ad cA h).set a (ad a, E) = wd ad cA h' := by
  apply List.ext_getElem?
  intro b
  by_cases hb : b = a
  · subst hb
    rw [List.getElem?_set_self (by simpa [wd] using ha), wd_get ha, hE]
  · rw [List.getElem?_set_ne (Ne.symm hb)]
    by_cases hl : b < NK
    · rw [wd_get hl, wd_get hl, hne b hb]
    · rw [List.getElem?_eq_none (by simpa [wd] using hl), List.getElem?_eq_none (by simpa [wd] using hl)]
theorem up2_s {α : Type} (f : Nat → Nat → α) (a k : Nat) (x : α) : up2 f a k x a k = x := by simp [up2]
theorem up2_a {α : Type} (f : Nat → Nat → α) {a b : Nat} (k : Nat) (x : α) (h : b ≠ a) : up2 f a k x b = f b := by funext j; simp [up2, h]
theorem up2_k {α : Type} (f : Nat → Nat → α) (a : Nat) {k j : Nat} (x : α) (h : j ≠ k) : up2 f a k x a j = f a j := by simp [up2, h]
theorem cellE_eq {ad : Nat → Nat} {cA : Nat → ClassId} {h h' : PH} {b : Nat} (h1 : h'.1 b = h.1 b) (h2 : h'.2.1 b = h.2.1 b) (h3 : h'.2.2.1 b = h.2.2.1 b) (h4 : h'.2.2.2 b = h.2.2.2 b) (q : Option Kd) : cellE ad cA h' b q = cellE ad cA h b q := by
  have hf : ∀ rs so j, fv ad h' b rs so j = fv ad h b rs so j := by
    intro rs so j
    unfold fv gi gl
    rw [h1, h2]
  have ha : ∀ t, aev ad h' b t = aev ad h b t := by
    intro t
    unfold aev
    rw [h1, h2, h3]
  rcases q with _ | ⟨ci, rs⟩ | ⟨t, n⟩
  · rfl
  · simp only [cellE, fvs, hf]
  · simp only [cellE, ha]
theorem fvs_len {ad : Nat → Nat} {h : PH} {a ci : Nat} {rs : List (Option Nat)} : (fvs ad h a ci rs).length = (fso ci).length := by simp [fvs]
theorem fvs_get {ad : Nat → Nat} {h : PH} {a ci : Nat} {rs : List (Option Nat)} {j so : Nat} (hj : (fso ci).getD j 9 = so) (h9 : so ≠ 9) : (fvs ad h a ci rs)[j]? = some (fv ad h a rs so j) := by
  have hl : j < (fso ci).length := by
    rcases Nat.lt_or_ge j (fso ci).length with q | q
    · exact q
    · exfalso; apply h9; rw [← hj]; simp [List.getD_eq_getElem?_getD, List.getElem?_eq_none q]
  unfold fvs
  rw [List.getElem?_map, List.getElem?_range hl]
  have : (fso ci).getD j 0 = so := by
    rw [← hj]; simp [List.getD_eq_getElem?_getD, List.getElem?_eq_getElem hl]
  rw [List.getD_eq_getElem?_getD] at this
  simp [this]
theorem fvs_set {ad : Nat → Nat} {h h' : PH} {a ci : Nat} {rs : List (Option Nat)} {j : Nat} {v : Value} (hj : fv ad h' a rs ((fso ci).getD j 0) j = v) (hne : ∀ k, k ≠ j → fv ad h' a rs ((fso ci).getD k 0) k = fv ad h a rs ((fso ci).getD k 0) k) : (fvs ad h a ci rs).set j v = fvs ad h' a ci rs := by
  apply List.ext_getElem?
  intro k
  by_cases hk : k = j
  · subst hk
    by_cases hl : k < (fso ci).length
    · rw [List.getElem?_set_self (by rw [fvs_len]; exact hl)]
      unfold fvs
      rw [List.getElem?_map, List.getElem?_range hl]
      simp only [Option.map_some]
      rw [hj]
    · rw [List.getElem?_eq_none (by rw [List.length_set, fvs_len]; omega), List.getElem?_eq_none (by rw [fvs_len]; omega)]
  · rw [List.getElem?_set_ne (Ne.symm hk)]
    by_cases hl : k < (fso ci).length
    · unfold fvs
      rw [List.getElem?_map, List.getElem?_map, List.getElem?_range hl]
      simp only [Option.map_some]
      rw [hne k hk]
    · rw [List.getElem?_eq_none (by rw [fvs_len]; omega), List.getElem?_eq_none (by rw [fvs_len]; omega)]
theorem wd_si {ad : Nat → Nat} {cA : Nat → ClassId} {h : PH} {a ci j : Nat} {rs : List (Option Nat)} {x : Int32} (hk : kd a = some (.inl (ci, rs))) (hj : (fso ci).getD j 9 = 0) : (wd ad cA h).set a (ad a, .inr (ci, (fvs ad h a ci rs).set j (.int x))) = wd ad cA (si h a j x) := by
  refine wd_upd (kd_lt hk) (fun b hb => cellE_eq (h := h) (h' := si h a j x) (up2_a _ _ _ hb) rfl rfl rfl _) ?_
  rw [hk]
  show Sum.inr (ci, fvs ad (si h a j x) a ci rs) = _
  rw [fvs_set (h := h) (h' := si h a j x) (v := .int x)]
  · have h0 : (fso ci).getD j 0 = 0 := by
      rcases Nat.lt_or_ge j (fso ci).length with q | q
      · rw [← hj]; simp [List.getD_eq_getElem?_getD, List.getElem?_eq_getElem q]
      · simp [List.getD_eq_getElem?_getD, List.getElem?_eq_none q]
    rw [h0]
    show Value.int (up2 h.1 a j x a j) = _
    rw [up2_s]
  · intro k hk
    unfold fv gi gl si
    simp only
    rw [up2_k _ _ _ hk]
theorem wd_sl {ad : Nat → Nat} {cA : Nat → ClassId} {h : PH} {a ci j : Nat} {rs : List (Option Nat)} {x : Int64} (hk : kd a = some (.inl (ci, rs))) (hj : (fso ci).getD j 9 = 1) : (wd ad cA h).set a (ad a, .inr (ci, (fvs ad h a ci rs).set j (.long x))) = wd ad cA (sl h a j x) := by
  refine wd_upd (kd_lt hk) (fun b hb => cellE_eq (h := h) (h' := sl h a j x) rfl (up2_a _ _ _ hb) rfl rfl _) ?_
  rw [hk]
  show Sum.inr (ci, fvs ad (sl h a j x) a ci rs) = _
  rw [fvs_set (h := h) (h' := sl h a j x) (v := .long x)]
  · have h0 : (fso ci).getD j 0 = 1 := by
      rcases Nat.lt_or_ge j (fso ci).length with q | q
      · rw [← hj]; simp [List.getD_eq_getElem?_getD, List.getElem?_eq_getElem q]
      · exfalso; rw [List.getD_eq_getElem?_getD, List.getElem?_eq_none q] at hj; cases hj
    rw [h0]
    show Value.long (up2 h.2.1 a j x a j) = _
    rw [up2_s]
  · intro k hk
    unfold fv gi gl sl
    simp only
    rw [up2_k _ _ _ hk]
theorem wd_sai {ad : Nat → Nat} {cA : Nat → ClassId} {h : PH} {a n k : Nat} {x : Int32} {t : Nat} (hk : kd a = some (.inr (t, n))) (ht : t = 0 ∨ t = 1) : (wd ad cA h).set a (ad a, .inl (cA t, n, .inl (upd (h.1 a) k x))) = wd ad cA (si h a k x) := by
  refine wd_upd (kd_lt hk) (fun b hb => cellE_eq (h := h) (h' := si h a k x) (up2_a _ _ _ hb) rfl rfl rfl _) ?_
  rw [hk]
  have e : up2 h.1 a k x a = upd (h.1 a) k x := by funext j; simp [up2, upd]
  rcases ht with rfl | rfl
  · show Sum.inl (cA 0, n, Sum.inl (up2 h.1 a k x a)) = _
    rw [e]
  · show Sum.inl (cA 1, n, Sum.inl (up2 h.1 a k x a)) = _
    rw [e]
theorem wd_sal {ad : Nat → Nat} {cA : Nat → ClassId} {h : PH} {a n k : Nat} {x : Int64} (hk : kd a = some (.inr (2, n))) : (wd ad cA h).set a (ad a, .inl (cA 2, n, .inr (.inl (vp_updL (h.2.1 a) k x)))) = wd ad cA (sl h a k x) := by
  refine wd_upd (kd_lt hk) (fun b hb => cellE_eq (h := h) (h' := sl h a k x) rfl (up2_a _ _ _ hb) rfl rfl _) ?_
  rw [hk]
  have e : up2 h.2.1 a k x a = vp_updL (h.2.1 a) k x := by funext j; simp [up2, vp_updL]
  show Sum.inl (cA 2, n, Sum.inr (Sum.inl (up2 h.2.1 a k x a))) = _
  rw [e]
theorem wd_cpi {ad : Nat → Nat} {cA : Nat → ClassId} {h : PH} {a b n sp dp m : Nat} (hk : kd b = some (.inr (0, n))) : (wd ad cA h).set b (ad b, .inl (cA 0, n, .inl (va_cpy (h.1 a) (h.1 b) sp dp m))) = wd ad cA (cpi h a sp b dp m) := by
  refine wd_upd (kd_lt hk) (fun c hc => cellE_eq (h := h) (h' := cpi h a sp b dp m) (by show (if c = b then _ else _) = _; rw [if_neg hc]) rfl rfl rfl _) ?_
  rw [hk]
  show Sum.inl (cA 0, n, Sum.inl (if b = b then _ else _)) = _
  rw [if_pos rfl]
theorem wd_cpl {ad : Nat → Nat} {cA : Nat → ClassId} {h : PH} {a b n sp dp m : Nat} (hk : kd b = some (.inr (2, n))) : (wd ad cA h).set b (ad b, .inl (cA 2, n, .inr (.inl (va_cpy (h.2.1 a) (h.2.1 b) sp dp m)))) = wd ad cA (cpl h a sp b dp m) := by
  refine wd_upd (kd_lt hk) (fun c hc => cellE_eq (h := h) (h' := cpl h a sp b dp m) rfl (by show (if c = b then _ else _) = _; rw [if_neg hc]) rfl rfl _) ?_
  rw [hk]
  show Sum.inl (cA 2, n, Sum.inr (Sum.inl (if b = b then _ else _))) = _
  rw [if_pos rfl]
/-! locals -/
theorem tr_cat (ad : Nat → Nat) (v : Value) : (tr ad v).category = v.category := by cases v <;> rfl
theorem tl_mem {ad : Nat → Nat} {ls : Lc} {q : Nat × Value} : q ∈ tl ad ls ↔ ∃ v, ls.getD q.1 none = some v ∧ q.2 = tr ad v := by
  unfold tl
  rw [List.mem_filterMap]
  constructor
  · rintro ⟨i, -, hi⟩
    cases hv : ls.getD i none with
    | none => rw [hv] at hi; cases hi
    | some v => rw [hv] at hi; cases hi; exact ⟨v, hv, rfl⟩
  · rintro ⟨v, hv, he⟩
    refine ⟨q.1, ?_, by rw [hv]; show some (q.1, tr ad v) = some q; rw [← he]⟩
    rw [List.mem_range]
    rcases Nat.lt_or_ge q.1 ls.length with h | h
    · exact h
    · rw [List.getD_eq_getElem?_getD, List.getElem?_eq_none h] at hv; cases hv
theorem tl_get {ad : Nat → Nat} {ls : Lc} {lsA : Array Slot} {n i : Nat} {v : Value} (hl : lv_has lsA n (tl ad ls)) (h : lget ls i = some v) : lsA[i]? = some (.val (tr ad v)) :=
  hl.2.2 (i, tr ad v) (tl_mem.mpr ⟨v, h, rfl⟩)
theorem lv_mono {lsA : Array Slot} {n : Nat} {l l' : List (Nat × Value)} (h : lv_has lsA n l) (hs : ∀ q ∈ l', q ∈ l) : lv_has lsA n l' := ⟨h.1, h.2.1, fun q hq => h.2.2 q (hs q hq)⟩
theorem getD_set {ls : Lc} {i j : Nat} {o : Option Value} {v : Value} (h : (ls.set i o).getD j none = some v) : (j = i ∧ o = some v) ∨ (j ≠ i ∧ ls.getD j none = some v) := by
  by_cases hj : j = i
  · subst hj
    rcases Nat.lt_or_ge j ls.length with q | q
    · rw [List.getD_eq_getElem?_getD, List.getElem?_set_self q] at h
      exact Or.inl ⟨rfl, h⟩
    · rw [List.getD_eq_getElem?_getD, List.getElem?_eq_none (by rw [List.length_set]; exact q)] at h
      cases h
  · rw [List.getD_eq_getElem?_getD, List.getElem?_set_ne (Ne.symm hj), ← List.getD_eq_getElem?_getD] at h
    exact Or.inr ⟨hj, h⟩
theorem lclr_get {ls : Lc} {i j : Nat} {v : Value} (h : (lclr ls i).getD j none = some v) : ls.getD j none = some v ∧ (j + 1 = i → v.category ≠ 2) := by
  cases i with
  | zero => exact ⟨h, fun q => by cases q⟩
  | succ i =>
    have h' : (match ls.getD i none with
      | some w => (match w.category with
        | 2 => ls.set i none
        | _ => ls)
      | none => ls).getD j none = some v := h
    cases hw : ls.getD i none with
    | none =>
      rw [hw] at h'
      have h2 : ls.getD j none = some v := h'
      refine ⟨h2, fun e => ?_⟩
      have hji : j = i := by omega
      subst hji
      rw [hw] at h2
      cases h2
    | some w =>
      rw [hw] at h'
      by_cases hc : w.category = 2
      · have h2 : (ls.set i none).getD j none = some v := by
          cases w <;> first | exact h' | cases hc
        rcases getD_set h2 with ⟨-, q⟩ | ⟨q, q2⟩
        · cases q
        · exact ⟨q2, fun e => absurd (by omega) q⟩
      · have h2 : ls.getD j none = some v := by
          cases w <;> first | exact h' | exact absurd rfl hc
        refine ⟨h2, fun e => ?_⟩
        have hji : j = i := by omega
        subst hji
        rw [hw] at h2
        cases h2
        exact hc
theorem tl_put1 {ad : Nat → Nat} {ls : Lc} {i : Nat} {v : Value} : ∀ q ∈ tl ad (lput1 ls i v), q ∈ (i, tr ad v) :: (tl ad ls).filter (fun q => !(q.1 == i) && !(q.1 + 1 == i && q.2.category == 2)) := by
  intro q hq
  obtain ⟨u, hu, he⟩ := tl_mem.mp hq
  rcases getD_set hu with ⟨h1, h2⟩ | ⟨h1, h2⟩
  · cases h2
    have : q = (i, tr ad v) := by rw [← h1, ← he]
    rw [this]
    exact List.mem_cons_self
  · obtain ⟨h3, h4⟩ := lclr_get h2
    refine List.mem_cons_of_mem _ (List.mem_filter.mpr ⟨tl_mem.mpr ⟨u, h3, he⟩, ?_⟩)
    rw [he, tr_cat]
    by_cases h5 : q.1 + 1 = i
    · simp [h1, h4 h5]
    · simp [h1, h5]
theorem tl_put2 {ad : Nat → Nat} {ls : Lc} {i : Nat} {v : Value} : ∀ q ∈ tl ad (lput2 ls i v), q ∈ (i, tr ad v) :: (tl ad ls).filter (fun q => !(q.1 == i) && (!(q.1 == i + 1) && !(q.1 + 1 == i && q.2.category == 2))) := by
  intro q hq
  obtain ⟨u, hu, he⟩ := tl_mem.mp hq
  rcases getD_set hu with ⟨-, h2⟩ | ⟨h0, hu⟩
  · cases h2
  rcases getD_set hu with ⟨h1, h2⟩ | ⟨h1, h2⟩
  · cases h2
    have : q = (i, tr ad v) := by rw [← h1, ← he]
    rw [this]
    exact List.mem_cons_self
  · obtain ⟨h3, h4⟩ := lclr_get h2
    refine List.mem_cons_of_mem _ (List.mem_filter.mpr ⟨tl_mem.mpr ⟨u, h3, he⟩, ?_⟩)
    rw [he, tr_cat]
    by_cases h5 : q.1 + 1 = i
    · simp [h0, h1, h4 h5]
    · simp [h0, h1, h5]
theorem tl_put0 {ad : Nat → Nat} {ls : Lc} {i : Nat} {w : Value} : ∀ q ∈ tl ad (lput0 ls i), q ∈ (i, w) :: (tl ad ls).filter (fun q => !(q.1 == i) && !(q.1 + 1 == i && q.2.category == 2)) := by
  intro q hq
  obtain ⟨u, hu, he⟩ := tl_mem.mp hq
  rcases getD_set hu with ⟨-, h2⟩ | ⟨h1, h2⟩
  · cases h2
  · obtain ⟨h3, h4⟩ := lclr_get h2
    refine List.mem_cons_of_mem _ (List.mem_filter.mpr ⟨tl_mem.mpr ⟨u, h3, he⟩, ?_⟩)
    rw [he, tr_cat]
    by_cases h5 : q.1 + 1 = i
    · simp [h1, h4 h5]
    · simp [h1, h5]
theorem cI_ofInt (n : Int) : Int32.ofInt n = cI n := by
  cases n with
  | ofNat k => rfl
  | negSucc k =>
    show Int32.ofInt (Int.negSucc k) = -(nI (k + 1))
    rw [Int.negSucc_eq]
    first
      | rw [Int32.ofInt_neg]; rfl
      | simp [Int32.ofInt_neg, nI]
end
section
/-! ===== a step of the pure machine is a step of the machine ===== -/
def AtC (M : MI) (Z : State → Prop) (p : Program) (l : Launch) (e : Env) (R : Room) (s : State) (m : MethodId) (args : Array Value) (below : List Frame) (meth : Method) (cc : Code) (ad : Nat → Nat) (cA : Nat → ClassId) (D : va_G) (A : Nat → Prop) (xs : PH) (L : Nat) : KT := fun pc c ls st h =>
  ∀ (H : Heap) (locs : List Loc) (cells slots : Nat) (lsA : Array Slot), WH ad cA D xs L A h s s.heap H locs → lv_has lsA M.nl (tl ad ls) → cells ≤ c → slots ≤ 6 * c → c ≤ M.cap → W p l e R s m args below meth cc H locs cells slots Z (F0 m pc lsA (st.map (tr ad)))
/-- from this point of M's code, with these locals, stack and pure heap, every run ends with Q -/
def At (M : MI) (Q : Res → PH → Prop) : KT := fun pc c ls st h =>
  ∀ (Z : State → Prop) (p : Program) (l : Launch) (e : Env) (R : Room) (s : State) (m : MethodId) (args : Array Value) (below : List Frame) (meth : Method) (cc : Code) (ad : Nat → Nat) (cA : Nat → ClassId) (D : va_G) (A : Nat → Prop) (xs : PH) (L : Nat),
    Cx M Q Z p l e R s m args below meth cc ad cA D A xs L → AtC M Z p l e R s m args below meth cc ad cA D A xs L pc c ls st h
section
variable {M : MI} {Q : Res → PH → Prop} {Z : State → Prop} {p : Program} {l : Launch} {e : Env} {R : Room} {s : State} {m : MethodId} {args : Array Value} {below : List Frame} {meth : Method} {cc : Code} {ad : Nat → Nat} {cA : Nat → ClassId} {D : va_G} {A : Nat → Prop} {xs : PH} {L : Nat} {k : KT} {pc c : Nat} {ls : Lc} {st : List Value} {h : PH}
theorem ac_stl (hx : p.tables.exec = Jvm.exec) (hb : cc.code = M.b) (hk : ∀ pc c ls st h, k pc c ls st h → AtC M Z p l e R s m args below meth cc ad cA D A xs L pc c ls st h) {q n : Nat}
    (hd : match q with
      | 0 => decode M.b pc = .ok (.iload n, 2)
      | 1 => decode M.b pc = .ok (.lload n, 2)
      | 2 => decode M.b pc = .ok (.fload n, 2)
      | 3 => decode M.b pc = .ok (.dload n, 2)
      | _ => decode M.b pc = .ok (.aload n, 2)) (hs : stl k q (pc + 2) c ls st h n) : AtC M Z p l e R s m args below meth cc ad cA D A xs L pc c ls st h := by
  intro H locs cells slots lsA hW hl h1 h2 h3
  unfold stl at hs
  split at hs
  · split at hs
    · rename_i x hg; exact lv_iload hx hb hd (tl_get hl hg) (hk _ _ _ _ _ hs H locs cells slots lsA hW hl h1 h2 h3)
    · cases hs
  · split at hs
    · rename_i x hg; exact lv_lload hx hb hd (tl_get hl hg) (hk _ _ _ _ _ hs H locs cells slots lsA hW hl h1 h2 h3)
    · cases hs
  · split at hs
    · rename_i x hg; exact lv_fload hx hb hd (tl_get hl hg) (hk _ _ _ _ _ hs H locs cells slots lsA hW hl h1 h2 h3)
    · cases hs
  · split at hs
    · rename_i x hg; exact lv_dload hx hb hd (tl_get hl hg) (hk _ _ _ _ _ hs H locs cells slots lsA hW hl h1 h2 h3)
    · cases hs
  · rename_i q0 q1 q2 q3
    split at hs
    · rename_i x hg; exact lv_aload hx hb (by simpa [q0, q1, q2, q3] using hd) (tl_get hl hg) (hk _ _ _ _ _ hs H locs cells slots lsA hW hl h1 h2 h3)
    · rename_i hg; exact lv_aloadN hx hb (by simpa [q0, q1, q2, q3] using hd) (tl_get hl hg) (hk _ _ _ _ _ hs H locs cells slots lsA hW hl h1 h2 h3)
    · cases hs
theorem ac_stl_n (hx : p.tables.exec = Jvm.exec) (hb : cc.code = M.b) (hk : ∀ pc c ls st h, k pc c ls st h → AtC M Z p l e R s m args below meth cc ad cA D A xs L pc c ls st h) {q : Nat} {n : Fin 4}
    (hd : match q with
      | 0 => decode M.b pc = .ok (.iload_n n, 1)
      | 1 => decode M.b pc = .ok (.lload_n n, 1)
      | 2 => decode M.b pc = .ok (.fload_n n, 1)
      | 3 => decode M.b pc = .ok (.dload_n n, 1)
      | _ => decode M.b pc = .ok (.aload_n n, 1)) (hs : stl k q (pc + 1) c ls st h n.val) : AtC M Z p l e R s m args below meth cc ad cA D A xs L pc c ls st h := by
  intro H locs cells slots lsA hW hl h1 h2 h3
  unfold stl at hs
  split at hs
  · split at hs
    · rename_i x hg; exact lv_iload_n hx hb hd rfl (tl_get hl hg) (hk _ _ _ _ _ hs H locs cells slots lsA hW hl h1 h2 h3)
    · cases hs
  · split at hs
    · rename_i x hg; exact lv_lload_n hx hb hd rfl (tl_get hl hg) (hk _ _ _ _ _ hs H locs cells slots lsA hW hl h1 h2 h3)
    · cases hs
  · split at hs
    · rename_i x hg; exact lv_fload_n hx hb hd rfl (tl_get hl hg) (hk _ _ _ _ _ hs H locs cells slots lsA hW hl h1 h2 h3)
    · cases hs
  · split at hs
    · rename_i x hg; exact lv_dload_n hx hb hd rfl (tl_get hl hg) (hk _ _ _ _ _ hs H locs cells slots lsA hW hl h1 h2 h3)
    · cases hs
  · rename_i q0 q1 q2 q3
    split at hs
    · rename_i x hg; exact lv_aload_n hx hb (by simpa [q0, q1, q2, q3] using hd) rfl (tl_get hl hg) (hk _ _ _ _ _ hs H locs cells slots lsA hW hl h1 h2 h3)
    · rename_i hg; exact lv_aload_nN hx hb (by simpa [q0, q1, q2, q3] using hd) rfl (tl_get hl hg) (hk _ _ _ _ _ hs H locs cells slots lsA hW hl h1 h2 h3)
    · cases hs
theorem blt_of {a b : Nat} (h : Nat.blt a b = true) : a < b := by simpa [Nat.blt_eq] using h
theorem ac_sts (hx : p.tables.exec = Jvm.exec) (hb : cc.code = M.b) (hk : ∀ pc c ls st h, k pc c ls st h → AtC M Z p l e R s m args below meth cc ad cA D A xs L pc c ls st h) {q n : Nat}
    (hd : match q with
      | 0 => decode M.b pc = .ok (.istore n, 2)
      | 1 => decode M.b pc = .ok (.lstore n, 2)
      | 2 => decode M.b pc = .ok (.fstore n, 2)
      | 3 => decode M.b pc = .ok (.dstore n, 2)
      | _ => decode M.b pc = .ok (.astore n, 2)) (hs : sts M.nl k q (pc + 2) c ls st h n) : AtC M Z p l e R s m args below meth cc ad cA D A xs L pc c ls st h := by
  intro H locs cells slots lsA hW hl h1 h2 h3
  unfold sts at hs
  split at hs
  · split at hs
    · rename_i x r hn; exact lv_istore hx hb hd hl (blt_of hn) rfl (fun ls' hl' => hk _ _ _ _ _ hs H locs cells slots ls' hW (lv_mono hl' tl_put1) h1 h2 h3)
    · cases hs
  · split at hs
    · rename_i x r hn; exact lv_lstore hx hb hd hl (blt_of hn) rfl (fun ls' hl' => hk _ _ _ _ _ hs H locs cells slots ls' hW (lv_mono hl' tl_put2) h1 h2 h3)
    · cases hs
  · split at hs
    · rename_i x r hn; exact lv_fstore hx hb hd hl (blt_of hn) rfl (fun ls' hl' => hk _ _ _ _ _ hs H locs cells slots ls' hW (lv_mono hl' tl_put1) h1 h2 h3)
    · cases hs
  · split at hs
    · rename_i x r hn; exact lv_dstore hx hb hd hl (blt_of hn) rfl (fun ls' hl' => hk _ _ _ _ _ hs H locs cells slots ls' hW (lv_mono hl' tl_put2) h1 h2 h3)
    · cases hs
  · rename_i q0 q1 q2 q3
    split at hs
    · rename_i x r hn; exact lv_astore hx hb (by simpa [q0, q1, q2, q3] using hd) hl (blt_of hn) rfl (fun ls' hl' => hk _ _ _ _ _ hs H locs cells slots ls' hW (lv_mono hl' tl_put1) h1 h2 h3)
    · rename_i r hn; exact lv_astoreN hx hb (by simpa [q0, q1, q2, q3] using hd) hl (blt_of hn) rfl (fun ls' hl' => hk _ _ _ _ _ hs H locs cells slots ls' hW (lv_mono hl' tl_put1) h1 h2 h3)
    · cases hs
theorem ac_sts_n (hx : p.tables.exec = Jvm.exec) (hb : cc.code = M.b) (hk : ∀ pc c ls st h, k pc c ls st h → AtC M Z p l e R s m args below meth cc ad cA D A xs L pc c ls st h) {q : Nat} {n : Fin 4}
    (hd : match q with
      | 0 => decode M.b pc = .ok (.istore_n n, 1)
      | 1 => decode M.b pc = .ok (.lstore_n n, 1)
      | 2 => decode M.b pc = .ok (.fstore_n n, 1)
      | 3 => decode M.b pc = .ok (.dstore_n n, 1)
      | _ => decode M.b pc = .ok (.astore_n n, 1)) (hs : sts M.nl k q (pc + 1) c ls st h n.val) : AtC M Z p l e R s m args below meth cc ad cA D A xs L pc c ls st h := by
  intro H locs cells slots lsA hW hl h1 h2 h3
  unfold sts at hs
  split at hs
  · split at hs
    · rename_i x r hn; exact lv_istore_n hx hb hd rfl hl (blt_of hn) rfl (fun ls' hl' => hk _ _ _ _ _ hs H locs cells slots ls' hW (lv_mono hl' tl_put1) h1 h2 h3)
    · cases hs
  · split at hs
    · rename_i x r hn; exact lv_lstore_n hx hb hd rfl hl (blt_of hn) rfl (fun ls' hl' => hk _ _ _ _ _ hs H locs cells slots ls' hW (lv_mono hl' tl_put2) h1 h2 h3)
    · cases hs
  · split at hs
    · rename_i x r hn; exact lv_fstore_n hx hb hd rfl hl (blt_of hn) rfl (fun ls' hl' => hk _ _ _ _ _ hs H locs cells slots ls' hW (lv_mono hl' tl_put1) h1 h2 h3)
    · cases hs
  · split at hs
    · rename_i x r hn; exact lv_dstore_n hx hb hd rfl hl (blt_of hn) rfl (fun ls' hl' => hk _ _ _ _ _ hs H locs cells slots ls' hW (lv_mono hl' tl_put2) h1 h2 h3)
    · cases hs
  · rename_i q0 q1 q2 q3
    split at hs
    · rename_i x r hn; exact lv_astore_n hx hb (by simpa [q0, q1, q2, q3] using hd) rfl hl (blt_of hn) rfl (fun ls' hl' => hk _ _ _ _ _ hs H locs cells slots ls' hW (lv_mono hl' tl_put1) h1 h2 h3)
    · rename_i r hn; exact lv_astore_nN hx hb (by simpa [q0, q1, q2, q3] using hd) rfl hl (blt_of hn) rfl (fun ls' hl' => hk _ _ _ _ _ hs H locs cells slots ls' hW (lv_mono hl' tl_put1) h1 h2 h3)
    · cases hs
theorem ac_a2i (hk : ∀ pc c ls st h, k pc c ls st h → AtC M Z p l e R s m args below meth cc ad cA D A xs L pc c ls st h) {f : Int32 → Int32 → Int32}
    (row : ∀ (x y : Int32) (H : Heap) (locs : List Loc) (cells slots : Nat) (lsA : Array Slot) (rest : List Value), W p l e R s m args below meth cc H locs cells slots Z (F0 m (pc + 1) lsA (.int (f x y) :: rest)) → W p l e R s m args below meth cc H locs cells slots Z (F0 m pc lsA (.int y :: .int x :: rest)))
    (hs : a2i k pc c ls st h f) : AtC M Z p l e R s m args below meth cc ad cA D A xs L pc c ls st h := by
  intro H locs cells slots lsA hW hl h1 h2 h3
  unfold a2i at hs
  split at hs
  · exact row _ _ _ _ _ _ _ _ (hk _ _ _ _ _ hs H locs cells slots lsA hW hl h1 h2 h3)
  · cases hs
theorem ac_a2l (hk : ∀ pc c ls st h, k pc c ls st h → AtC M Z p l e R s m args below meth cc ad cA D A xs L pc c ls st h) {f : Int64 → Int64 → Int64}
    (row : ∀ (x y : Int64) (H : Heap) (locs : List Loc) (cells slots : Nat) (lsA : Array Slot) (rest : List Value), W p l e R s m args below meth cc H locs cells slots Z (F0 m (pc + 1) lsA (.long (f x y) :: rest)) → W p l e R s m args below meth cc H locs cells slots Z (F0 m pc lsA (.long y :: .long x :: rest)))
    (hs : a2l k pc c ls st h f) : AtC M Z p l e R s m args below meth cc ad cA D A xs L pc c ls st h := by
  intro H locs cells slots lsA hW hl h1 h2 h3
  unfold a2l at hs
  split at hs
  · exact row _ _ _ _ _ _ _ _ (hk _ _ _ _ _ hs H locs cells slots lsA hW hl h1 h2 h3)
  · cases hs
theorem ac_if (hx : p.tables.exec = Jvm.exec) (hb : cc.code = M.b) (hk : ∀ pc c ls st h, k pc c ls st h → AtC M Z p l e R s m args below meth cc ad cA D A xs L pc c ls st h) {cd : Jvm.ClassFile.Cond} {off : Int} {t : Nat} {x : Int32} {r : List Value}
    (hd : decode M.b pc = .ok (.ifCond cd off, 3)) (ht : (pc : Int) + off = (t : Int)) (hs : stcc cd x 0 (k t c ls r h) (k (pc + 3) c ls r h)) : AtC M Z p l e R s m args below meth cc ad cA D A xs L pc c ls (.int x :: r) h := by
  intro H locs cells slots lsA hW hl h1 h2 h3
  have g1 : ∀ pc' : Nat, k pc' c ls r h → W p l e R s m args below meth cc H locs cells slots Z (F0 m pc' lsA (r.map (tr ad))) := fun pc' h9 => hk _ _ _ _ _ h9 H locs cells slots lsA hW hl h1 h2 h3
  cases cd
  · exact lv_if_eq hx hb hd ht (fun q => g1 _ (hs.1 q)) (fun q => g1 _ (hs.2 q))
  · exact lv_if_ne hx hb hd ht (fun q => g1 _ (hs.1 q)) (fun q => g1 _ (hs.2 q))
  · exact lv_if_lt hx hb hd ht (fun q => g1 _ (hs.1 q)) (fun q => g1 _ (hs.2 q))
  · exact lv_if_ge hx hb hd ht (fun q => g1 _ (hs.1 q)) (fun q => g1 _ (hs.2 q))
  · exact lv_if_gt hx hb hd ht (fun q => g1 _ (hs.1 q)) (fun q => g1 _ (hs.2 q))
  · exact lv_if_le hx hb hd ht (fun q => g1 _ (hs.1 q)) (fun q => g1 _ (hs.2 q))
theorem ac_icmp (hx : p.tables.exec = Jvm.exec) (hb : cc.code = M.b) (hk : ∀ pc c ls st h, k pc c ls st h → AtC M Z p l e R s m args below meth cc ad cA D A xs L pc c ls st h) {cd : Jvm.ClassFile.Cond} {off : Int} {t : Nat} {x y : Int32} {r : List Value}
    (hd : decode M.b pc = .ok (.if_icmp cd off, 3)) (ht : (pc : Int) + off = (t : Int)) (hs : stcc cd x y (k t c ls r h) (k (pc + 3) c ls r h)) : AtC M Z p l e R s m args below meth cc ad cA D A xs L pc c ls (.int y :: .int x :: r) h := by
  intro H locs cells slots lsA hW hl h1 h2 h3
  have g1 : ∀ pc' : Nat, k pc' c ls r h → W p l e R s m args below meth cc H locs cells slots Z (F0 m pc' lsA (r.map (tr ad))) := fun pc' h9 => hk _ _ _ _ _ h9 H locs cells slots lsA hW hl h1 h2 h3
  cases cd
  · exact lv_icmp_eq hx hb hd ht (fun q => g1 _ (hs.1 q)) (fun q => g1 _ (hs.2 q))
  · exact lv_icmp_ne hx hb hd ht (fun q => g1 _ (hs.1 q)) (fun q => g1 _ (hs.2 q))
  · exact lv_icmp_lt hx hb hd ht (fun q => g1 _ (hs.1 q)) (fun q => g1 _ (hs.2 q))
  · exact lv_icmp_ge hx hb hd ht (fun q => g1 _ (hs.1 q)) (fun q => g1 _ (hs.2 q))
  · exact lv_icmp_gt hx hb hd ht (fun q => g1 _ (hs.1 q)) (fun q => g1 _ (hs.2 q))
  · exact lv_icmp_le hx hb hd ht (fun q => g1 _ (hs.1 q)) (fun q => g1 _ (hs.2 q))
theorem fld_of {idx ci j so q : Nat} (h : fldOk M idx ci j so q = true) : ∃ (C : String) (T : u_T) (N : Nat), pmCl[ci]? = some (C, T, N) ∧ j < N ∧ Cond.fieldLink M.y.cls idx (T j).1 (T j).2.1 (T j).2.2.1 ∈ tbG ∧ N = (fso ci).length ∧
    ((so = 0 ∧ (fso ci).getD j 9 = 0 ∧ (T j).2.2.1 = "I") ∨ (so = 1 ∧ (fso ci).getD j 9 = 0 ∧ (T j).2.2.1 = "Z") ∨ (so = 2 ∧ (fso ci).getD j 9 = 1 ∧ (T j).2.2.1 = "J") ∨ (so = 3 ∧ (fso ci).getD j 9 = 2)) := by
  unfold fldOk at h
  split at h
  · rename_i C T N hc
    simp only [Bool.and_eq_true] at h
    obtain ⟨⟨⟨a1, a2⟩, a3⟩, a4⟩ := h
    refine ⟨C, T, N, hc, blt_of a1, tbG_at a2, Nat.eq_of_beq_eq_true a3, ?_⟩
    split at a4
    · rename_i e1; exact Or.inl ⟨rfl, e1, of_decide_eq_true a4⟩
    · rename_i e1; exact Or.inr (Or.inl ⟨rfl, e1, of_decide_eq_true a4⟩)
    · rename_i e1; exact Or.inr (Or.inr (Or.inl ⟨rfl, e1, of_decide_eq_true a4⟩))
    · rename_i e1; exact Or.inr (Or.inr (Or.inr ⟨rfl, e1⟩))
    · cases a4
  · cases h
theorem obR_of {a j b ci : Nat} {rs : List (Option Nat)} (hk : kd a = some (.inl (ci, rs))) (h : obR a j = some b) : rs.getD j none = some b := by
  unfold obR at h
  rw [hk] at h
  exact h
theorem ac_stg (hx : p.tables.exec = Jvm.exec) (hb : cc.code = M.b) (hown : s.vm.findClass M.y.cls = some m.cls) (hts : ∀ w ∈ tbG, w.before args s = true) (hK : va_K D pmCl (pmTy cA) s) (hk : ∀ pc c ls st h, k pc c ls st h → AtC M Z p l e R s m args below meth cc ad cA D A xs L pc c ls st h) {idx ci j so q : Nat}
    (hd : decode M.b pc = .ok (.getfield idx, 3)) (hf : fldOk M idx ci j so q = true) (hs : stg k pc c ls st h ci j so) : AtC M Z p l e R s m args below meth cc ad cA D A xs L pc c ls st h := by
  intro H locs cells slots lsA hW hl h1 h2 h3
  obtain ⟨C, T, N, hc, hjN, hw, hN, hso⟩ := fld_of hf
  unfold stg at hs
  split at hs
  · rename_i a r
    split at hs
    · rename_i hob
      obtain ⟨rs, hkd⟩ := obC_of hob
      have row : ∀ v : Value, (fvs ad h a ci rs)[j]? = some v → W p l e R s m args below meth cc H locs cells slots Z (F0 m (pc + 3) lsA (v :: r.map (tr ad))) → W p l e R s m args below meth cc H locs cells slots Z (F0 m pc lsA ((Value.ref a :: r).map (tr ad))) := by
        intro v hv kk
        exact va_get (D := D) (ci := ci) (v := v) (C := C) (T := T) (N := N) hx hb hts (cl_ok hc).1 hown hK hW.1 a (wd_ob hkd) hc j hjN (hts _ hw) (fun _ h9 => h9) hv hd kk
      rcases hso with ⟨rfl, e1, -⟩ | ⟨rfl, e1, -⟩ | ⟨rfl, e1, -⟩ | ⟨rfl, e1⟩
      · exact row _ (fvs_get e1 (by decide)) (hk _ _ _ _ _ hs H locs cells slots lsA hW hl h1 h2 h3)
      · exact row _ (fvs_get e1 (by decide)) (hk _ _ _ _ _ hs H locs cells slots lsA hW hl h1 h2 h3)
      · exact row _ (fvs_get e1 (by decide)) (hk _ _ _ _ _ hs H locs cells slots lsA hW hl h1 h2 h3)
      · simp only at hs
        split at hs
        · rename_i b hb2
          have e2 := fvs_get (ad := ad) (h := h) (a := a) (rs := rs) e1 (by decide)
          have e3 : fv ad h a rs 2 j = .ref (ad b) := by
            unfold fv
            simp only
            rw [obR_of hkd hb2]
            rfl
          rw [e3] at e2
          exact row _ e2 (hk _ _ _ _ _ hs H locs cells slots lsA hW hl h1 h2 h3)
        · cases hs
    · cases hs
  · cases hs
end
end
section
/-! ===== steps that write, arrays, switches ===== -/
theorem pd_I : parseFieldDescriptor "I" = some .int := by decide +kernel
theorem pd_Z : parseFieldDescriptor "Z" = some .boolean := by decide +kernel
theorem pd_J : parseFieldDescriptor "J" = some .long := by decide +kernel
theorem scr_si {xs : PH} {L a j : Nat} {x : Int32} {h : PH} (ha : a < NK) (hs : scr xs L h) : scr xs L (si h a j x) := by
  have hN : NK = 130 := rfl
  intro b hb
  obtain ⟨e1, e2, e3, e4⟩ := hs b hb
  exact ⟨(up2_a _ _ _ (by omega)).trans e1, e2, e3, e4⟩
theorem scr_sl {xs : PH} {L a j : Nat} {x : Int64} {h : PH} (ha : a < NK) (hs : scr xs L h) : scr xs L (sl h a j x) := by
  have hN : NK = 130 := rfl
  intro b hb
  obtain ⟨e1, e2, e3, e4⟩ := hs b hb
  exact ⟨e1, (up2_a _ _ _ (by omega)).trans e2, e3, e4⟩
theorem scr_sr {xs : PH} {L a j : Nat} {x : Option Nat} {h : PH} (ha : a < NK) (hs : scr xs L h) : scr xs L (sr h a j x) := by
  have hN : NK = 130 := rfl
  intro b hb
  obtain ⟨e1, e2, e3, e4⟩ := hs b hb
  exact ⟨e1, e2, (up2_a _ _ _ (by omega)).trans e3, e4⟩
theorem scr_cpi {xs : PH} {L a sp b dp n : Nat} {h : PH} (hb : b < NK) (hs : scr xs L h) : scr xs L (cpi h a sp b dp n) := by
  have hN : NK = 130 := rfl
  intro d hd
  obtain ⟨e1, e2, e3, e4⟩ := hs d hd
  exact ⟨(if_neg (by omega : ¬ d = b)).trans e1, e2, e3, e4⟩
theorem scr_cpl {xs : PH} {L a sp b dp n : Nat} {h : PH} (hb : b < NK) (hs : scr xs L h) : scr xs L (cpl h a sp b dp n) := by
  have hN : NK = 130 := rfl
  intro d hd
  obtain ⟨e1, e2, e3, e4⟩ := hs d hd
  exact ⟨e1, (if_neg (by omega : ¬ d = b)).trans e2, e3, e4⟩
section
variable {M : MI} {Q : Res → PH → Prop} {Z : State → Prop} {p : Program} {l : Launch} {e : Env} {R : Room} {s : State} {m : MethodId} {args : Array Value} {below : List Frame} {meth : Method} {cc : Code} {ad : Nat → Nat} {cA : Nat → ClassId} {D : va_G} {A : Nat → Prop} {xs : PH} {L : Nat} {k : KT} {pc c : Nat} {ls : Lc} {st : List Value} {h : PH}
theorem ac_put (hx : p.tables.exec = Jvm.exec) (hb : cc.code = M.b) (hown : s.vm.findClass M.y.cls = some m.cls) (hts : ∀ w ∈ tbG, w.before args s = true) (hK : va_K D pmCl (pmTy cA) s) (hk : ∀ pc c ls st h, k pc c ls st h → AtC M Z p l e R s m args below meth cc ad cA D A xs L pc c ls st h) {idx ci j so q : Nat}
    (hd : decode M.b pc = .ok (.putfield idx, 3)) (hf : fldOk M idx ci j so q = true) (hfin : (match pmCl[ci]? with
      | some (_, T, _) => !(T j).2.2.2
      | none => false) = true) (hs : stp0 k pc c ls st h ci j so) : AtC M Z p l e R s m args below meth cc ad cA D A xs L pc c ls st h := by
  intro H locs cells slots lsA hW hl h1 h2 h3
  obtain ⟨C, T, N, hc, hjN, hw, hN, hso⟩ := fld_of hf
  rw [hc] at hfin
  have hfin2 : (T j).2.2.2 = false := by
    have h9 : (!(T j).2.2.2) = true := hfin
    simpa using h9
  obtain ⟨hin, ⟨ty0, hty⟩, hnm⟩ := cl_ok hc
  have row : ∀ (a : Nat) (rs : List (Option Nat)) (v : Value) (ty : FieldType) (h' : PH) (r : List Value), kd a = some (.inl (ci, rs)) → parseFieldDescriptor (T j).2.2.1 = some ty → narrow ty v = v → fits ty v = true →
      (wd ad cA h).set a (ad a, .inr (ci, (fvs ad h a ci rs).set j v)) = wd ad cA h' → scr xs L h' → k (pc + 3) c ls r h' →
      W p l e R s m args below meth cc H locs cells slots Z (F0 m pc lsA (v :: .ref (ad a) :: r.map (tr ad))) := by
    intro a rs v ty h' r hkd hpd hn hfit he hsc hkk
    refine va_put (D := D) (ci := ci) (v := v) (ty := ty) (C := C) (T := T) (N := N) hx hb hts hin ty0 hty hnm hown hK hW.1 hW.2.1 hW.2.2.1 a (wd_ob hkd) hc j hjN (hts _ hw) (fun _ h9 => h9) hfin2 hpd hn hfit (by rw [fvs_len, ← hN]; exact hjN) hd ?_
    intro H1 locs1 hP hD hS
    rw [he] at hP hD
    exact hk _ _ _ _ _ hkk H1 locs1 cells slots lsA ⟨hP, hD, hS, hsc⟩ hl h1 h2 h3
  unfold stp0 at hs
  rcases hso with ⟨rfl, e1, e2⟩ | ⟨rfl, e1, e2⟩ | ⟨rfl, e1, e2⟩ | ⟨rfl, e1⟩
  · simp only at hs
    split at hs
    · rename_i x a r
      split at hs
      · rename_i hob
        obtain ⟨rs, hkd⟩ := obC_of hob
        exact row a rs (.int x) .int _ r hkd (by rw [e2]; exact pd_I) rfl rfl (wd_si hkd e1) (scr_si (kd_lt hkd) hW.2.2.2) hs
      · cases hs
    · cases hs
  · simp only at hs
    split at hs
    · rename_i x a r
      split at hs
      · rename_i hob
        obtain ⟨rs, hkd⟩ := obC_of hob
        obtain ⟨hB, hs⟩ := hs
        refine row a rs (.int x) .boolean _ r hkd (by rw [e2]; exact pd_Z) ?_ ?_ (wd_si hkd e1) (scr_si (kd_lt hkd) hW.2.2.2) hs
        · rcases hB with rfl | rfl <;> rfl
        · rcases hB with rfl | rfl <;> rfl
      · cases hs
    · cases hs
  · simp only at hs
    split at hs
    · rename_i x a r
      split at hs
      · rename_i hob
        obtain ⟨rs, hkd⟩ := obC_of hob
        exact row a rs (.long x) .long _ r hkd (by rw [e2]; exact pd_J) rfl rfl (wd_sl hkd e1) (scr_sl (kd_lt hkd) hW.2.2.2) hs
      · cases hs
    · cases hs
  · exact absurd hs (by simp)
theorem ty_at (cA : Nat → ClassId) : (pmTy cA)[0]? = some (cA 0, .int) ∧ (pmTy cA)[1]? = some (cA 1, .byte) ∧ (pmTy cA)[2]? = some (cA 2, .long) ∧ (pmTy cA)[3]? = some (cA 3, .double) ∧ (pmTy cA)[4]? = some (cA 4, .object RX8) ∧ (pmTy cA)[5]? = some (cA 5, .object "WaveUpgrade$Command") := ⟨rfl, rfl, rfl, rfl, rfl, rfl⟩
theorem rf_map (ad : Nat → Nat) (o : Option Nat) : va_rf (o.map ad) = tr ad (rf1 o) := by cases o <;> rfl
theorem ac_sta (hx : p.tables.exec = Jvm.exec) (hb : cc.code = M.b) (hK : va_K D pmCl (pmTy cA) s) (hk : ∀ pc c ls st h, k pc c ls st h → AtC M Z p l e R s m args below meth cc ad cA D A xs L pc c ls st h) {q : Nat}
    (hd : match q with
      | 0 => decode M.b pc = .ok (.iaload, 1)
      | 1 => decode M.b pc = .ok (.baload, 1)
      | 2 => decode M.b pc = .ok (.laload, 1)
      | 3 => decode M.b pc = .ok (.daload, 1)
      | _ => decode M.b pc = .ok (.aaload, 1)) (hq : q ≤ 5) (hs : sta k q pc c ls st h) : AtC M Z p l e R s m args below meth cc ad cA D A xs L pc c ls st h := by
  intro H locs cells slots lsA hW hl h1 h2 h3
  unfold sta at hs
  split at hs
  · rename_i i a r
    split at hs
    · rename_i n hn
      have hkd := arN_of hn
      obtain ⟨hin, hs⟩ := hs
      have t := ty_at cA
      have go : ∀ (pc' : Nat) (st' : List Value), k pc' c ls st' h → W p l e R s m args below meth cc H locs cells slots Z (F0 m pc' lsA (st'.map (tr ad))) := fun pc' st' h9 => hk _ _ _ _ _ h9 H locs cells slots lsA hW hl h1 h2 h3
      match q, hd, hs, hkd, hq with
      | 0, hd, hs, hkd, _ => exact va_iald hx hb hK hW.1 a 0 (wd_ar hkd) t.1 hin hd (go _ _ hs)
      | 1, hd, hs, hkd, _ => exact va_bald hx hb hK hW.1 a 1 (wd_ar hkd) t.2.1 hin hd (go _ _ hs)
      | 2, hd, hs, hkd, _ => exact va_lald hx hb hK hW.1 a 2 (wd_ar hkd) t.2.2.1 hin hd (go _ _ hs)
      | 3, hd, hs, hkd, _ => exact hs.elim
      | 4, hd, hs, hkd, _ =>
        refine va_aldq hx hb hK hW.1 a 4 (wd_ar hkd) t.2.2.2.2.1 hin hd ?_
        show W p l e R s m args below meth cc H locs cells slots Z (F0 m (pc + 1) lsA (va_rf ((gr h a i.toNatClampNeg).map ad) :: r.map (tr ad)))
        cases hg : gr h a i.toNatClampNeg with
        | none => exact go _ _ (hs.2 hg)
        | some b => exact go _ _ (hs.1 b hg)
      | 5, hd, hs, hkd, _ =>
        refine va_aldq hx hb hK hW.1 a 5 (wd_ar hkd) t.2.2.2.2.2 hin hd ?_
        show W p l e R s m args below meth cc H locs cells slots Z (F0 m (pc + 1) lsA (va_rf ((gr h a i.toNatClampNeg).map ad) :: r.map (tr ad)))
        cases hg : gr h a i.toNatClampNeg with
        | none => exact go _ _ (hs.2 hg)
        | some b => exact go _ _ (hs.1 b hg)
      | q + 6, _, _, _, hq => omega
    · cases hs
  · cases hs
theorem ac_stq (hx : p.tables.exec = Jvm.exec) (hb : cc.code = M.b) (hK : va_K D pmCl (pmTy cA) s) (hk : ∀ pc c ls st h, k pc c ls st h → AtC M Z p l e R s m args below meth cc ad cA D A xs L pc c ls st h) {q : Nat}
    (hd : match q with
      | 0 => decode M.b pc = .ok (.iastore, 1)
      | 1 => decode M.b pc = .ok (.bastore, 1)
      | 2 => decode M.b pc = .ok (.lastore, 1)
      | _ => decode M.b pc = .ok (.dastore, 1)) (hs : stq k q pc c ls st h) : AtC M Z p l e R s m args below meth cc ad cA D A xs L pc c ls st h := by
  intro H locs cells slots lsA hW hl h1 h2 h3
  have t := ty_at cA
  have go : ∀ (r : List Value) (h' : PH) (w' : va_W), k (pc + 1) c ls r h' → w' = wd ad cA h' → scr xs L h' → ∀ (H1 : Heap) (locs1 : List Loc), va_P D pmCl w' H1 → va_D A w' → va_S A s.heap H1 locs1 → W p l e R s m args below meth cc H1 locs1 cells slots Z (F0 m (pc + 1) lsA (r.map (tr ad))) := by
    intro r h' w' hkk he hsc H1 locs1 hP hD hS
    subst he
    exact hk _ _ _ _ _ hkk H1 locs1 cells slots lsA ⟨hP, hD, hS, hsc⟩ hl h1 h2 h3
  unfold stq at hs
  match q, hd, hs with
  | 0, hd, hs =>
    simp only at hs
    split at hs
    · rename_i x i a r _
      split at hs
      · rename_i n hn
        have hkd := arN_of hn
        exact va_iast hx hb hK hW.1 hW.2.1 hW.2.2.1 a 0 (wd_ar hkd) t.1 hs.1 hd (go _ _ _ hs.2 (wd_sai hkd (Or.inl rfl)) (scr_si (kd_lt hkd) hW.2.2.2))
      · cases hs
    · cases hs
  | 1, hd, hs =>
    simp only at hs
    split at hs
    · rename_i x i a r _
      split at hs
      · rename_i n hn
        have hkd := arN_of hn
        exact va_bast hx hb hK hW.1 hW.2.1 hW.2.2.1 a 1 (wd_ar hkd) t.2.1 hs.1 hd (go _ _ _ hs.2 (by rw [vp_nar_byte]; exact wd_sai hkd (Or.inr rfl)) (scr_si (kd_lt hkd) hW.2.2.2))
      · cases hs
    · cases hs
  | 2, hd, hs =>
    simp only at hs
    split at hs
    · rename_i x i a r _
      split at hs
      · rename_i n hn
        have hkd := arN_of hn
        exact va_last hx hb hK hW.1 hW.2.1 hW.2.2.1 a 2 (wd_ar hkd) t.2.2.1 hs.1 hd (go _ _ _ hs.2 (wd_sal hkd) (scr_sl (kd_lt hkd) hW.2.2.2))
      · cases hs
    · cases hs
  | q + 3, _, hs => exact absurd hs (by simp)
theorem ac_alen (hx : p.tables.exec = Jvm.exec) (hb : cc.code = M.b) (hK : va_K D pmCl (pmTy cA) s) (hk : ∀ pc c ls st h, k pc c ls st h → AtC M Z p l e R s m args below meth cc ad cA D A xs L pc c ls st h) {a n : Nat} {r : List Value}
    (hd : decode M.b pc = .ok (.arraylength, 1)) (hn : arL a = some n) (hs : k (pc + 1) c ls (.int (nI n) :: r) h) : AtC M Z p l e R s m args below meth cc ad cA D A xs L pc c ls (.ref a :: r) h := by
  intro H locs cells slots lsA hW hl h1 h2 h3
  obtain ⟨t, hkd⟩ := arL_of hn
  have go := hk _ _ _ _ _ hs H locs cells slots lsA hW hl h1 h2 h3
  have ht : ∃ ty, (pmTy cA)[t]? = some (cA t, ty) := by
    have hall : (List.range NK).all (fun a => match kd a with
      | some (.inr (t, _)) => Nat.blt t 6
      | _ => true) = true := by decide +kernel
    have h5 := List.all_eq_true.mp hall a (List.mem_range.mpr (kd_lt hkd))
    rw [hkd] at h5
    have h6 : t < 6 := blt_of h5
    match t, h6 with
    | 0, _ => exact ⟨_, rfl⟩
    | 1, _ => exact ⟨_, rfl⟩
    | 2, _ => exact ⟨_, rfl⟩
    | 3, _ => exact ⟨_, rfl⟩
    | 4, _ => exact ⟨_, rfl⟩
    | 5, _ => exact ⟨_, rfl⟩
    | t + 6, h6 => omega
  obtain ⟨ty, ht⟩ := ht
  exact va_alen hx hb hK hW.1 a t (wd_ar hkd) ht rfl hd go
theorem swc_get {x : Int32} {r : List Value} : ∀ (ts : List Nat) (v i t : Nat), swc k x c ls r h v ts → ts[i]? = some t → x = nI (v + i) → k t c ls r h := by
  intro ts
  induction ts with
  | nil => intro v i t _ h9; simp at h9
  | cons u us ih =>
    intro v i t hs hi hxv
    cases i with
    | zero =>
      simp at hi
      subst hi
      exact hs.1 hxv
    | succ i =>
      simp at hi
      exact ih (v + 1) i t hs.2 hi (by rw [hxv]; congr 1; omega)
theorem ac_sw (hx : p.tables.exec = Jvm.exec) (hb : cc.code = M.b) (hk : ∀ pc c ls st h, k pc c ls st h → AtC M Z p l e R s m args below meth cc ad cA D A xs L pc c ls st h) {d lo hi : Int} {offs : Array Int} {len dt l0 : Nat} {ts : List Nat} {x : Int32} {r : List Value}
    (hd : decode M.b pc = .ok (.tableswitch d lo hi offs, len)) (e1 : (pc : Int) + d = (dt : Int)) (e2 : lo = (l0 : Int)) (e3 : hi + 1 = (l0 : Int) + (ts.length : Int)) (e4 : offs.toList.map (fun o => (pc : Int) + o) = ts.map (fun t => ((t : Nat) : Int))) (e5 : l0 + ts.length < 100000)
    (hs : ((∀ j : Nat, l0 ≤ j → j < l0 + ts.length → ¬ x = nI j) → k dt c ls r h) ∧ swc k x c ls r h l0 ts) : AtC M Z p l e R s m args below meth cc ad cA D A xs L pc c ls (.int x :: r) h := by
  intro H locs cells slots lsA hW hl h1 h2 h3
  have go : ∀ pc' : Nat, k pc' c ls r h → W p l e R s m args below meth cc H locs cells slots Z (F0 m pc' lsA (r.map (tr ad))) := fun pc' h9 => hk _ _ _ _ _ h9 H locs cells slots lsA hW hl h1 h2 h3
  by_cases hin : lo ≤ x.toInt ∧ x.toInt ≤ hi
  · obtain ⟨q1, q2⟩ := hin
    have hlen : offs.toList.length = ts.length := by
      have := congrArg List.length e4
      simpa using this
    have hj : (x.toInt - lo).toNat < ts.length := by omega
    obtain ⟨t, ht⟩ : ∃ t, ts[(x.toInt - lo).toNat]? = some t := ⟨_, List.getElem?_eq_getElem hj⟩
    obtain ⟨o, ho⟩ : ∃ o, offs.toList[(x.toInt - lo).toNat]? = some o := ⟨_, List.getElem?_eq_getElem (by rw [hlen]; exact hj)⟩
    have hto : (pc : Int) + o = (t : Int) := by
      have h9 := congrArg (fun l => l[(x.toInt - lo).toNat]?) e4
      simp only [List.getElem?_map, ho, ht, Option.map_some, Option.some.injEq] at h9
      exact h9
    have hxv : x = nI (l0 + (x.toInt - lo).toNat) := by
      have h7 : x.toInt = ((l0 + (x.toInt - lo).toNat : Nat) : Int) := by omega
      apply Int32.toInt_inj.mp
      rw [nI_toInt (by omega)]
      exact h7
    exact lv_tableIn hx hb hd (by omega) (by omega) (by rw [← Array.getElem?_toList]; exact ho) hto (go _ (swc_get ts l0 _ t hs.2 ht hxv))
  · refine lv_tableOut hx hb hd (by omega) e1 (go _ (hs.1 ?_))
    intro j hj1 hj2 he
    apply hin
    rw [he, nI_toInt (by omega)]
    omega
end
end
section
/-! ===== calls ===== -/
section
variable {p : Program} {l : Launch} {e : Env} {R : Room} {s : State} {m : MethodId} {args : Array Value} {below : List Frame} {meth : Method} {c : Code} {T : State} {H : Heap} {locs : List Loc} {cells slots : Nat}
theorem pm_callSN (X : Stand p l e R s m args below meth c T locs cells slots) (hexec : p.tables.exec = Jvm.exec) {own host : String} {index : Nat} {y : MethodName} {bytes : ByteArray} {maxL : Nat} {ret : Option FieldType}
    (hown : s.vm.findClass own = some m.cls) (hlink : (Cond.methodLinkNest own index y host).before args s = true) (hstat : (Cond.static y).before args s = true) (hinit : (Cond.initialized y.cls).before args s = true)
    (hcode : (Cond.code y bytes maxL ret).before args s = true) (hy : y.cls ≠ "java/lang/invoke/MethodHandle" ∧ y.cls ≠ "java/lang/invoke/VarHandle")
    {W9 : Nat} {Pre : Pt → Array Value → Prop} {Post : Pt → Array Value → Option Value → Pt → Prop} {PostX : Pt → Array Value → Addr → Pt → Prop} (hK : vx_Back l R p e below s args y 3 W9 Pre Post PostX)
    {g : JFrame} (hg : g.method = m) (hsize : g.locals.size = c.maxLocals) {argsL rest : List Value} (hlen : ∀ sig, parseMethodDescriptor y.desc = some sig → argsL.length = sig.parameters.length)
    (hstack : g.stack = argsL.reverse ++ rest) (hW : 2 * g.monitorRoom + (rest.map fun v => v.category).sum ≤ W9) (hdg : decode c.code g.pc = .ok (.invokestatic index, 3))
    (hpre : ∀ vm₁, s.WarmedH vm₁ → Pre ⟨T.setVm vm₁, locs, cells, slots⟩ argsL.toArray) :
    (∃ (v : Option Value) (vm₁ : Vm) (B : Pt), s.WarmedH vm₁ ∧ Stand p l e R s m args below meth c B.U B.locs B.cells B.slots ∧ Post ⟨T.setVm vm₁, locs, cells, slots⟩ argsL.toArray v B ∧
      ∀ target, Steps p.tables e below (B.U.setTop { g with pc := g.pc + 3, stack := v.toList ++ rest }) target → Steps p.tables e below (T.setTop g) target) ∨
    (∃ (q : Addr) (vm₁ : Vm) (B : Pt), s.WarmedH vm₁ ∧ Stand p l e R s m args below meth c B.U B.locs B.cells B.slots ∧ PostX ⟨T.setVm vm₁, locs, cells, slots⟩ argsL.toArray q B ∧
      Steps p.tables e below (T.setTop g) ((B.U.setTop { g with stack := rest }).pushFrame (.throwing q))) := by
  obtain ⟨mk, hnamed⟩ := Cond.code_named hcode
  obtain ⟨methM, cM, hmethM, -, -, -, -, -, -, hsigM⟩ := Cond.code_spec hnamed hcode
  have hstatic : methM.isStatic = true := Cond.static_spec hnamed hmethM hstat
  obtain ⟨kP, hkP, -⟩ := className_of_methodNamed hnamed
  have hinitP : kP.init = .initialized := Cond.initialized_spec (findClass_of_methodNamed hnamed) hkP hinit
  obtain ⟨vm₁, X₁, hstep₁⟩ := X.invokestaticNest hexec hown hlink hnamed hmethM hstatic hkP hinitP hy (g := g) hg (argsL := argsL) (rest := rest) (hlen _ hsigM) hstack hdg
  rcases hK m meth c ⟨T.setVm vm₁, locs, cells, slots⟩ { g with stack := rest } (.invokestatic index) mk argsL.toArray X₁ hg hsize hdg hW (X₁.named hnamed) (hpre vm₁ X₁.warmed) with ⟨v, B, X', hpost, hsteps⟩ | ⟨q, B, X', hpost, hsteps⟩
  · exact Or.inl ⟨v, vm₁, B, X₁.warmed, X', hpost, fun target h => hstep₁ _ fun acts => by rw [doInvoke_state]; exact hsteps.trans h⟩
  · exact Or.inr ⟨q, vm₁, B, X₁.warmed, X', hpost, hstep₁ _ fun acts => by rw [doInvoke_state]; exact hsteps⟩
theorem pm_runSN {y : MethodName} {bytes cc : ByteArray} {maxL nL mc ms n index : Nat} {ret : Option FieldType} {ws : List Cond} {rm : Room} {Pc : Array Value → State → Prop} {Qc : Array Value → State → Outcome → State → Prop} {XC : String → State → State → Prop} {free : Addr → Prop} {Ts : List Cond} {own host : String} {As rest : List Value} {g : JFrame}
    (S : CallFix p m c cc nL s args Ts own) (hM : vx_Met l y ws rm Pc Qc XC mc ms free) (cw : va_CN R s args own index y host bytes maxL ret ws rm mc ms n ∧ (Cond.static y).before args s = true) (hp : PreS s H Pc As)
    (hg : g.method = m) (hn : As.length = n) (hsize : g.locals.size = nL) (hstack : g.stack = As.reverse ++ rest) (hW : 2 * g.monitorRoom + (rest.map fun v => v.category).sum ≤ 8) (hdg : decode cc g.pc = .ok (.invokestatic index, 3)) (hf : cells + mc ≤ R.cells ∧ slots + ms ≤ R.slots) :
    vx_Run p l e R s m args below meth c H locs cells slots mc ms g rest (Qc As.toArray) XC free := by
  obtain ⟨⟨⟨hrc, hrs, hfr, hlo, hws, hcw⟩, hcode, hini, hy, hlen, hl⟩, hx1⟩ := cw
  have hK : vx_Back l R p e below s args y 3 8 (PreOf R mc ms Pc) (PostOf Qc mc ms free) (vx_Post XC mc ms free) := vx_back (bytes := bytes) (maxL := maxL) (ret := ret) hM hp.1 hrc hrs hfr hlo hws hcw (fun a' U hW => word_at hW (Or.inl (by first | rfl | simp [Cond.onTables, Cond.keeps, Cond.steady])) hini)
  obtain ⟨hx, hb, hml, ho, -⟩ := S
  intro T hT X
  rcases pm_callSN X hx (bytes := bytes) (maxL := maxL) (ret := ret) ho hl hx1 hini hcode hy hK hg (hsize.trans hml.symm) (argsL := As) (rest := rest) (fun sig h => hn.trans (hlen sig h)) hstack hW (by rw [hb]; exact hdg)
    (fun vm₁ hW₁ => ⟨hf.1, hf.2, hp.2 (T.setVm vm₁) hT hW₁⟩) with ⟨v, vm₁, ⟨U', l2, c2, s2⟩, hW₁, X', ⟨g', mk, t, L, e1, e2, hq, h1, hL, h2, h3⟩, st⟩ | ⟨q, vm₁, ⟨U', l2, c2, s2⟩, hW₁, X', ⟨g', mk, t, L, E, ce, e1, e2, hq, hce, hcv, hcl, h1, hL, h2, h3⟩, st⟩
  · dsimp only [Pt.U, Pt.locs, Pt.cells, Pt.slots] at X' e1 e2 h1 h2 h3 st
    subst h1; subst h2; subst h3
    exact Or.inl ⟨v, (T.setVm vm₁).calling g' mk As.toArray, t, U', L, hT, X', hL, e1, e2, hq, st⟩
  · dsimp only [Pt.U, Pt.locs, Pt.cells, Pt.slots] at X' e1 e2 h1 h2 h3 st hcl
    subst h1; subst h2; subst h3
    exact Or.inr ⟨q, (T.setVm vm₁).calling g' mk As.toArray, t, U', L, E, ce, hT, X', hL, e1, e2, hq, hce, hcv, vx_cls hW₁ hcl, st⟩
end
theorem tbG_good : GoodIn tbG tbG := fun w hw => ⟨hw, good_of_word (List.mem_filter.mp hw).2⟩
theorem wsM_good {M : MI} (h : MOK M) : GoodIn tbG (wsM M) := by
  intro w hw
  rcases List.mem_cons.mp hw with rfl | hw
  · exact tbG_good _ h.1
  · exact tbG_good _ hw
theorem wd_ad {ad : Nat → Nat} {cA : Nat → ClassId} {h h' : PH} {A : Nat → Prop} (hD : va_D A (wd ad cA h)) {B : Nat → Prop} (hB : ∀ a, a < NK → B (ad a)) : va_D B (wd ad cA h') := by
  have key : ∀ (h : PH) (i : Nat) (q : Nat × va_E), (wd ad cA h)[i]? = some q → i < NK ∧ q.1 = ad i := by
    intro h i q hq
    have hi : i < NK := by
      have := (List.getElem?_eq_some_iff.mp hq).1
      simpa [wd] using this
    rw [wd_get hi] at hq
    cases hq
    exact ⟨hi, rfl⟩
  refine ⟨fun i j x y hi hj hxy => ?_, fun k q hk => ?_⟩
  · obtain ⟨a1, a2⟩ := key _ i x hi
    obtain ⟨b1, b2⟩ := key _ j y hj
    exact hD.1 i j _ _ (wd_get a1) (wd_get b1) (by show ad i = ad j; rw [← a2, ← b2, hxy])
  · obtain ⟨a1, a2⟩ := key _ k q hk
    rw [a2]
    exact hB k a1
theorem wd_A {ad : Nat → Nat} {cA : Nat → ClassId} {h : PH} {A : Nat → Prop} (hD : va_D A (wd ad cA h)) {a : Nat} (ha : a < NK) : A (ad a) := hD.2 a _ (wd_get ha)
theorem adA_sub {ad : Nat → Nat} {cA : Nat → ClassId} {h : PH} {A : Nat → Prop} {H0 H : Heap} {locs : List Loc} (hD : va_D A (wd ad cA h)) (hA : ∀ q, H0.size ≤ q → A q) (hS : va_S A H0 H locs) : ∀ q, adA ad H.size q → A q := by
  intro q hq
  rcases hq with ⟨a, ha, rfl⟩ | hq
  · exact wd_A hD ha
  · exact hA q (Nat.le_trans hS.1 hq)
section
variable {M : MI} {Q : Res → PH → Prop} {Z : State → Prop} {p : Program} {l : Launch} {e : Env} {R : Room} {s : State} {m : MethodId} {args : Array Value} {below : List Frame} {meth : Method} {cc : Code} {ad : Nat → Nat} {cA : Nat → ClassId} {D : va_G} {A : Nat → Prop} {xs : PH} {L : Nat} {k : KT} {pc c : Nat} {ls : Lc} {st : List Value} {h : PH} {H : Heap} {locs : List Loc} {cells slots : Nat}
/-- the caller's world is a callee's start -/
theorem pc_start (hK : va_K D pmCl (pmTy cA) s) (hA : ∀ q, s.heap.size ≤ q → A q) (hC : CF ad A s s.heap) (hx : xwOk ad s) (hW : WH ad cA D xs L A h s s.heap H locs) {As : List Value} : PreS s H (va_Pc (As.map (tr ad)) (PcM ad cA D xs L H.size h)) (As.map (tr ad)) := by
  refine ⟨fun a U g mk hq => ?_, fun U hU hWU => ⟨rfl, ?_⟩⟩
  · obtain ⟨q0, q1, q2, q3, q4, q5, q6, q7⟩ := hq
    exact ⟨q0, q1, q2, va_K.moved (u := U) (U := U.calling g mk a) (Vm.Alike.refl U.vm) q3, q4, q5, (q6.moved (u := U) (U := U.calling g mk a) (Vm.Alike.refl U.vm)), q7.same (u := U) (U := U.calling g mk a) rfl⟩
  · obtain ⟨w1, w2, w3, w4⟩ := hW
    refine ⟨by rw [hU], by rw [hU]; exact w1, va_K.moved hWU.alike hK, w2.weaken (fun _ _ _ _ => trivial), w4, ?_, hx.warm hWU⟩
    rw [hU]
    exact ((hC.kept (fun a h1 h2 => w3.2.1 a h1 h2)).moved hWU.alike).narrow (adA_sub w2 hA w3)
theorem ac_run {M' : MI} {Q' : Res → PH → Prop} {rest : List Value} {st0 : List Value} {lsA : Array Slot} {a : Array Value} (hA : ∀ q, s.heap.size ≤ q → A q) (hW : WH ad cA D xs L A h s s.heap H locs)
    (hr : vx_Run p l e R s m args below meth cc H locs cells slots M'.cap (6 * M'.cap) (F0 m pc lsA st0) rest (QcM ad cA D xs L H.size Q' a) (XcM ad cA D xs L H.size Q') (adA ad H.size))
    (kx : ∀ (x : Nat) (h' : PH) (H1 : Heap) (locs1 : List Loc) (q : Addr) (ce : Cell), Q' (.inr x) h' → WH ad cA D xs L A h' s s.heap H1 locs1 → H1[q]? = some ce → ce.vm = .none → s.vm.findClass (exN x) = some ce.cls → vx_W p l e R s m args below meth cc H1 locs1 (cells + M'.cap) (slots + 6 * M'.cap) Z (F0 m pc lsA rest) q)
    (kk : ∀ (v : Option Value) (h' : PH) (H1 : Heap) (locs1 : List Loc), Q' (.inl v) h' → WH ad cA D xs L A h' s s.heap H1 locs1 → W p l e R s m args below meth cc H1 locs1 (cells + M'.cap) (slots + 6 * M'.cap) Z (F0 m (pc + 3) lsA ((v.map (tr ad)).toList ++ rest))) :
    W p l e R s m args below meth cc H locs cells slots Z (F0 m pc lsA st0) := by
  have hsub := adA_sub hW.2.1 hA hW.2.2.1
  have hw : ∀ (h' : PH) (st₀ t T' : State) (L' : List Loc), st₀.heap = H → T'.heap = t.heap → (∀ q ∈ L', adA ad H.size q.base) → va_F (adA ad H.size) st₀ t → PoM ad cA D xs L (adA ad H.size) h' t → WH ad cA D xs L A h' s s.heap T'.heap (locs ++ L') := by
    intro h' st₀ t T' L' h0 e1 hL hF hP
    obtain ⟨-, -, k3⟩ := vx_keep h0 e1 hW.2.2.1 (fun q _ hq => hsub q hq) hsub hL hF
    exact ⟨by rw [e1]; exact hP.1, wd_ad hW.2.1 (fun a ha => wd_A hW.2.1 ha), k3, hP.2.2⟩
  intro T hT X
  rcases hr T hT X with ⟨v, st₀, t, T', L', h0, X', hL, e1, e2, ⟨⟨v', h', hv, hq, hP⟩, hF⟩, st⟩ | ⟨q, st₀, t, T', L', E, ce, h0, X', hL, e1, e2, ⟨⟨x, h', hE, hq, hP⟩, hF⟩, hce, hcv, hcl, st⟩
  · cases hv
    obtain ⟨t2, a1, b1⟩ := kk v' h' T'.heap (locs ++ L') hq (hw h' st₀ t T' L' h0 e1 hL hF hP) T' rfl X'
    exact ⟨t2, st t2 a1, b1⟩
  · subst hE
    obtain ⟨t2, a1, b1⟩ := kx x h' T'.heap (locs ++ L') q ce hq (hw h' st₀ t T' L' h0 e1 hL hF hP) (by rw [e1]; exact hce) hcv hcl T' rfl X'
    exact ⟨t2, st.trans a1, b1⟩
end
end
section
/-! ===== java.lang.Math.floorMod(II)I, by its body: a method that no table of natives has a row for ===== -/
theorem fm_at0 : decode cJ9_floorMod_7cf53 0 = .ok (.iload_n 0, 1) := by decide +kernel
theorem fm_at1 : decode cJ9_floorMod_7cf53 1 = .ok (.iload_n 1, 1) := by decide +kernel
theorem fm_at2 : decode cJ9_floorMod_7cf53 2 = .ok (.irem, 1) := by decide +kernel
theorem fm_at3 : decode cJ9_floorMod_7cf53 3 = .ok (.istore_n 2, 1) := by decide +kernel
theorem fm_at4 : decode cJ9_floorMod_7cf53 4 = .ok (.iload_n 0, 1) := by decide +kernel
theorem fm_at5 : decode cJ9_floorMod_7cf53 5 = .ok (.iload_n 1, 1) := by decide +kernel
theorem fm_at6 : decode cJ9_floorMod_7cf53 6 = .ok (.ixor, 1) := by decide +kernel
theorem fm_at7 : decode cJ9_floorMod_7cf53 7 = .ok (.ifCond .ge 11, 3) := by decide +kernel
theorem fm_at10 : decode cJ9_floorMod_7cf53 10 = .ok (.iload_n 2, 1) := by decide +kernel
theorem fm_at11 : decode cJ9_floorMod_7cf53 11 = .ok (.ifCond .eq 7, 3) := by decide +kernel
theorem fm_at14 : decode cJ9_floorMod_7cf53 14 = .ok (.iload_n 2, 1) := by decide +kernel
theorem fm_at15 : decode cJ9_floorMod_7cf53 15 = .ok (.iload_n 1, 1) := by decide +kernel
theorem fm_at16 : decode cJ9_floorMod_7cf53 16 = .ok (.iadd, 1) := by decide +kernel
theorem fm_at17 : decode cJ9_floorMod_7cf53 17 = .ok (.ireturn, 1) := by decide +kernel
theorem fm_at18 : decode cJ9_floorMod_7cf53 18 = .ok (.iload_n 2, 1) := by decide +kernel
theorem fm_at19 : decode cJ9_floorMod_7cf53 19 = .ok (.ireturn, 1) := by decide +kernel
theorem fm_row0 : (NativeRow.find? natives yJ9_floorMod_7cf53.cls yJ9_floorMod_7cf53.name yJ9_floorMod_7cf53.desc).isNone = true := by decide +kernel
theorem fm_row (p : Program) : NativeRow.find? p.tables.natives yJ9_floorMod_7cf53.cls yJ9_floorMod_7cf53.name yJ9_floorMod_7cf53.desc = none := by
  cases p <;> exact Option.isNone_iff_eq_none.mp fm_row0
def fmS (a b : Int32) : Spec where
  pre := .and (.code yJ9_floorMod_7cf53 cJ9_floorMod_7cf53 3 (some .int)) (.and (.count 2) (.and (.isInt (.arg 0)) (.and (.isInt (.arg 1)) (.and (.eq (.arg 0) (.int a)) (.eq (.arg 1) (.int b))))))
  post := .and .returned (.eq .result (.int (fmV a b)))
  changes := some []
theorem fm_meets (l : Launch) {a b : Int32} (hb0 : ¬ b = 0) : MeetsLoose l yJ9_floorMod_7cf53 (fmS a b) := by
  refine MeetsLoose.of_body_ov (code := cJ9_floorMod_7cf53) (maxLocals := 3) (ret := some .int) fm_row ?_ ?_
  · intro args s h
    simp only [fmS, Cond.before_and, Bool.and_eq_true] at h
    exact h.1
  · intro p e s m args below meth c s₁ B
    have hpre := B.pre
    simp only [fmS, Cond.before_and, Bool.and_eq_true] at hpre
    obtain ⟨-, q0, q1, q2, q3, q4⟩ := hpre
    obtain ⟨a', b', rfl⟩ := Cond.two_ints q0 q1 q2
    have ea : a' = a := by simpa [Cond.before, Cond.holds, Cond.value, Term.eval] using q3
    have eb : b' = b := by simpa [Cond.before, Cond.holds, Cond.value, Term.eval] using q4
    subst ea; subst eb
    have hloc : argsToLocals #[.int a', .int b'] 3 = #[.val (.int a'), .val (.int b'), .unset] := rfl
    have fin : ∀ r : Int32, (∀ fs, Steps p.tables e below (s₁.setTop (entryFrame m #[.int a', .int b'] 3)) (s₁.setFrames fs) ∨ handOver s₁ (some (.int r)) below ≠ some fs) →
        ((fmS a' b').post.after #[.int a', .int b'] s (.returned (some (.int r))) = fun _ => true) →
        ∃ s₂ o, Steps p.tables e below (s₁.setTop (entryFrame m #[.int a', .int b'] 3)) s₂ ∧ s₂.status = .running ∧ Ended s₂ below o ∧
          (fmS a' b').ensures #[.int a', .int b'] s o s₂ := by
      intro r hwalk hpost
      obtain ⟨fs, hfs⟩ := handOver_isSome (s := s₁) (some (.int r)) B.hears₁
      refine ⟨s₁.setFrames fs, .returned (some (.int r)), (hwalk fs).resolve_right (fun h => h hfs), B.here.running, B.ended hfs (by intro h; cases h), ?_, State.sameBut_nil.mpr ?_⟩
      · rw [hpost]
      · rw [State.frames_setFrames _ B.cur₁, B.back]
    by_cases h1 : 0 ≤ a' ^^^ b'
    · refine fin (a' - a' / b' * b') (fun fs => ?_) (by funext s'; simp [fmS, Cond.after, Cond.holds, Cond.value, Term.eval, fmV, h1])
      by_cases hfs : handOver s₁ (some (.int (a' - a' / b' * b'))) below = some fs
      · left
        unfold entryFrame; rw [hloc]
        refine Steps.instrAtOv (c := _) (by simpa using B.here) ?_
        simp [jvm, wpRun, exec, B.here.top, B.exec, B.bytes, fm_at0]
        refine Steps.instrAtOv (c := _) (by simpa using B.here) ?_
        simp [jvm, wpRun, exec, B.here.top, B.exec, B.bytes, fm_at1]
        refine Steps.instrAtOv (c := _) (by simpa using B.here) ?_
        simp [jvm, wpRun, exec, B.here.top, B.exec, B.bytes, fm_at2, hb0]
        refine Steps.instrAtOv (c := _) (by simpa using B.here) ?_
        simp [jvm, wpRun, exec, B.here.top, B.exec, B.bytes, fm_at3]
        refine ⟨#[.val (.int a'), .val (.int b'), .val (.int (a' - a' / b' * b'))], rfl, ?_⟩
        refine Steps.instrAtOv (c := _) (by simpa using B.here) ?_
        simp [jvm, wpRun, exec, B.here.top, B.exec, B.bytes, fm_at4]
        refine Steps.instrAtOv (c := _) (by simpa using B.here) ?_
        simp [jvm, wpRun, exec, B.here.top, B.exec, B.bytes, fm_at5]
        refine Steps.instrAtOv (c := _) (by simpa using B.here) ?_
        simp [jvm, wpRun, exec, B.here.top, B.exec, B.bytes, fm_at6]
        refine Steps.instrAtOv (c := _) (by simpa using B.here) ?_
        simp [jvm, wpRun, exec, B.here.top, B.exec, B.bytes, fm_at7, if_icmp.holds, ifCond.holds, h1]
        refine Steps.instrAtOv (c := _) (by simpa using B.here) ?_
        simp [jvm, wpRun, exec, B.here.top, B.exec, B.bytes, fm_at18]
        refine Steps.instrAtOv (c := _) (by simpa using B.here) ?_
        simp [jvm, wpRun, exec, B.here.top, B.exec, B.bytes, fm_at19, B.method₁, B.returns, narrow]
        intro acts
        rw [ret_to B.frames₁ B.method₁ B.notSynchronized rfl rfl hfs]
        exact Steps.refl _
      · exact Or.inr hfs
    by_cases h2 : a' - a' / b' * b' = 0
    · refine fin (0 : Int32) (fun fs => ?_) (by funext s'; simp [fmS, Cond.after, Cond.holds, Cond.value, Term.eval, fmV, h1, h2])
      by_cases hfs : handOver s₁ (some (.int (0 : Int32))) below = some fs
      · left
        unfold entryFrame; rw [hloc]
        refine Steps.instrAtOv (c := _) (by simpa using B.here) ?_
        simp [jvm, wpRun, exec, B.here.top, B.exec, B.bytes, fm_at0]
        refine Steps.instrAtOv (c := _) (by simpa using B.here) ?_
        simp [jvm, wpRun, exec, B.here.top, B.exec, B.bytes, fm_at1]
        refine Steps.instrAtOv (c := _) (by simpa using B.here) ?_
        simp [jvm, wpRun, exec, B.here.top, B.exec, B.bytes, fm_at2, hb0]
        refine Steps.instrAtOv (c := _) (by simpa using B.here) ?_
        simp [jvm, wpRun, exec, B.here.top, B.exec, B.bytes, fm_at3]
        refine ⟨#[.val (.int a'), .val (.int b'), .val (.int (a' - a' / b' * b'))], rfl, ?_⟩
        refine Steps.instrAtOv (c := _) (by simpa using B.here) ?_
        simp [jvm, wpRun, exec, B.here.top, B.exec, B.bytes, fm_at4]
        refine Steps.instrAtOv (c := _) (by simpa using B.here) ?_
        simp [jvm, wpRun, exec, B.here.top, B.exec, B.bytes, fm_at5]
        refine Steps.instrAtOv (c := _) (by simpa using B.here) ?_
        simp [jvm, wpRun, exec, B.here.top, B.exec, B.bytes, fm_at6]
        refine Steps.instrAtOv (c := _) (by simpa using B.here) ?_
        simp [jvm, wpRun, exec, B.here.top, B.exec, B.bytes, fm_at7, if_icmp.holds, ifCond.holds, h1, h2]
        refine Steps.instrAtOv (c := _) (by simpa using B.here) ?_
        simp [jvm, wpRun, exec, B.here.top, B.exec, B.bytes, fm_at10]
        refine Steps.instrAtOv (c := _) (by simpa using B.here) ?_
        simp [jvm, wpRun, exec, B.here.top, B.exec, B.bytes, fm_at11, if_icmp.holds, ifCond.holds, h1, h2]
        refine Steps.instrAtOv (c := _) (by simpa using B.here) ?_
        simp [jvm, wpRun, exec, B.here.top, B.exec, B.bytes, fm_at18]
        refine Steps.instrAtOv (c := _) (by simpa using B.here) ?_
        simp [jvm, wpRun, exec, B.here.top, B.exec, B.bytes, fm_at19, B.method₁, B.returns, narrow]
        intro acts
        rw [ret_to B.frames₁ B.method₁ B.notSynchronized rfl rfl hfs]
        exact Steps.refl _
      · exact Or.inr hfs
    · refine fin ((a' - a' / b' * b') + b') (fun fs => ?_) (by funext s'; simp [fmS, Cond.after, Cond.holds, Cond.value, Term.eval, fmV, h1, h2])
      by_cases hfs : handOver s₁ (some (.int ((a' - a' / b' * b') + b'))) below = some fs
      · left
        unfold entryFrame; rw [hloc]
        refine Steps.instrAtOv (c := _) (by simpa using B.here) ?_
        simp [jvm, wpRun, exec, B.here.top, B.exec, B.bytes, fm_at0]
        refine Steps.instrAtOv (c := _) (by simpa using B.here) ?_
        simp [jvm, wpRun, exec, B.here.top, B.exec, B.bytes, fm_at1]
        refine Steps.instrAtOv (c := _) (by simpa using B.here) ?_
        simp [jvm, wpRun, exec, B.here.top, B.exec, B.bytes, fm_at2, hb0]
        refine Steps.instrAtOv (c := _) (by simpa using B.here) ?_
        simp [jvm, wpRun, exec, B.here.top, B.exec, B.bytes, fm_at3]
        refine ⟨#[.val (.int a'), .val (.int b'), .val (.int (a' - a' / b' * b'))], rfl, ?_⟩
        refine Steps.instrAtOv (c := _) (by simpa using B.here) ?_
        simp [jvm, wpRun, exec, B.here.top, B.exec, B.bytes, fm_at4]
        refine Steps.instrAtOv (c := _) (by simpa using B.here) ?_
        simp [jvm, wpRun, exec, B.here.top, B.exec, B.bytes, fm_at5]
        refine Steps.instrAtOv (c := _) (by simpa using B.here) ?_
        simp [jvm, wpRun, exec, B.here.top, B.exec, B.bytes, fm_at6]
        refine Steps.instrAtOv (c := _) (by simpa using B.here) ?_
        simp [jvm, wpRun, exec, B.here.top, B.exec, B.bytes, fm_at7, if_icmp.holds, ifCond.holds, h1, h2]
        refine Steps.instrAtOv (c := _) (by simpa using B.here) ?_
        simp [jvm, wpRun, exec, B.here.top, B.exec, B.bytes, fm_at10]
        refine Steps.instrAtOv (c := _) (by simpa using B.here) ?_
        simp [jvm, wpRun, exec, B.here.top, B.exec, B.bytes, fm_at11, if_icmp.holds, ifCond.holds, h1, h2]
        refine Steps.instrAtOv (c := _) (by simpa using B.here) ?_
        simp [jvm, wpRun, exec, B.here.top, B.exec, B.bytes, fm_at14]
        refine Steps.instrAtOv (c := _) (by simpa using B.here) ?_
        simp [jvm, wpRun, exec, B.here.top, B.exec, B.bytes, fm_at15]
        refine Steps.instrAtOv (c := _) (by simpa using B.here) ?_
        simp [jvm, wpRun, exec, B.here.top, B.exec, B.bytes, fm_at16]
        refine Steps.instrAtOv (c := _) (by simpa using B.here) ?_
        simp [jvm, wpRun, exec, B.here.top, B.exec, B.bytes, fm_at17, B.method₁, B.returns, narrow]
        intro acts
        rw [ret_to B.frames₁ B.method₁ B.notSynchronized rfl rfl hfs]
        exact Steps.refl _
      · exact Or.inr hfs
theorem mm_fmod : Cond.static yJ9_floorMod_7cf53 ∈ tbG ∧ Cond.initialized "java/lang/Math" ∈ tbG ∧ Cond.code yJ9_floorMod_7cf53 cJ9_floorMod_7cf53 3 (some .int) ∈ tbG := ⟨tbG_at (p := 1762) (by decide +kernel), tbG_at (p := 10) (by decide +kernel), tbG_at (p := 1763) (by decide +kernel)⟩
section
variable {p : Program} {l : Launch} {e : Env} {R : Room} {s : State} {m : MethodId} {args : Array Value} {below : List Frame} {meth : Method} {c : Code} {H : Heap} {locs : List Loc} {cells slots : Nat} {Q : State → Prop}
variable {pc : Nat} {ls : Array Slot} {rest : List Value}
theorem va_fmod {cc : ByteArray} (hexec : p.tables.exec = Jvm.exec) (hb : c.code = cc) (hml : c.maxLocals = ls.size) {own : String} {index : Nat} (hown : s.vm.findClass own = some m.cls) (hlink : (Cond.methodLink own index yJ9_floorMod_7cf53).before args s = true) (hstat : (Cond.static yJ9_floorMod_7cf53).before args s = true) (hini : (Cond.initialized "java/lang/Math").before args s = true) (hcode : (Cond.code yJ9_floorMod_7cf53 cJ9_floorMod_7cf53 3 (some .int)).before args s = true)
    (hframes : 1 ≤ R.frames) (hlocals : (rest.map fun v => v.category).sum + 14 ≤ R.locals) (hc : cells ≤ R.cells) (hs : slots ≤ R.slots) {x y : Int32} (hy : ¬ y = 0) (hdg : decode cc pc = .ok (.invokestatic index, 3))
    (kk : W p l e R s m args below meth c H locs cells slots Q (F0 m (pc + 3) ls (.int (fmV x y) :: rest))) : W p l e R s m args below meth c H locs cells slots Q (F0 m pc ls (.int y :: .int x :: rest)) := by
  intro T hT X
  obtain ⟨v, vm', X', ⟨first, t, hpost⟩, hstep⟩ := X.staticByContractHK hexec hown hlink hstat hini hcode (by decide) (fm_meets l (a := x) hy)
    rfl rfl rfl rfl
    (fun args' first o s₂ h => by
      simp only [fmS, Cond.after_and, Bool.and_eq_true] at h
      cases o with
      | returned r => exact ⟨r, rfl⟩
      | threw y => simp [Cond.after, Cond.holds, Cond.value] at h)
    (g := F0 m pc ls (.int y :: .int x :: rest)) rfl (by rw [hml]) (argsL := [.int x, .int y]) (rest := rest)
    (fun sig hs => by
      have h : parseMethodDescriptor "(II)I" = some { parameters := [.int, .int], returnType := some .int } := by decide +kernel
      rw [show yJ9_floorMod_7cf53.desc = "(II)I" from rfl, h] at hs
      rw [← Option.some.inj hs]; rfl)
    rfl (by rw [hb]; exact hdg)
    (fun vm' hW => by
      simp only [fmS, Cond.before_and, Bool.and_eq_true]
      refine ⟨?_, rfl, rfl, rfl, ?_, ?_⟩
      · have q := hcode
        rw [← Cond.code_setVm hW.alike] at q
        simp only [Cond.before, Cond.holds, Cond.value, State.methodNamed?, State.vm_setVm] at q ⊢
        exact q
      · simp [Cond.before, Cond.holds, Cond.value, Term.eval]
      · simp [Cond.before, Cond.holds, Cond.value, Term.eval])
    (by show 0 + 1 ≤ R.frames; omega) (by show 2 * 0 + (rest.map fun v => v.category).sum + (3 + 11) + 0 ≤ R.locals; omega) (by show cells + 0 ≤ R.cells; omega) (by show slots + 0 ≤ R.slots; omega)
  obtain rfl : v = some (.int (fmV x y)) := by
    rcases v with _ | w
    · simp [fmS, Cond.after, Cond.holds, Cond.value, Term.eval] at hpost
    · cases w <;> simp [fmS, Cond.after, Cond.holds, Cond.value, Term.eval] at hpost
      rename_i r
      rw [hpost]
  obtain ⟨t, a1, b1⟩ := kk (T.setVm vm') hT X'
  exact ⟨t, hstep t a1, b1⟩
end
end
section
/-! ===== the soundness of one step ===== -/
theorem mm_min : Cond.static Lib.Math.min.name ∈ tbG ∧ Cond.initialized "java/lang/Math" ∈ tbG ∧ Cond.code Lib.Math.min.name Lib.Math.min.code 2 (some .int) ∈ tbG := ⟨tbG_at (p := 697) (by decide +kernel), tbG_at (p := 10) (by decide +kernel), tbG_at (p := 698) (by decide +kernel)⟩
theorem mm_max : Cond.static Lib.Math.max.name ∈ tbG ∧ Cond.initialized "java/lang/Math" ∈ tbG ∧ Cond.code Lib.Math.max.name Lib.Math.max.code 2 (some .int) ∈ tbG := ⟨tbG_at (p := 928) (by decide +kernel), tbG_at (p := 10) (by decide +kernel), tbG_at (p := 929) (by decide +kernel)⟩
theorem mm_abs : Cond.static Lib.Math.abs.name ∈ tbG ∧ Cond.initialized "java/lang/Math" ∈ tbG ∧ Cond.code Lib.Math.abs.name Lib.Math.abs.code 1 (some .int) ∈ tbG := ⟨tbG_at (p := 572) (by decide +kernel), tbG_at (p := 10) (by decide +kernel), tbG_at (p := 573) (by decide +kernel)⟩
theorem mm_cpy : Cond.native arraycopyName ∈ tbG ∧ Cond.static arraycopyName ∈ tbG ∧ Cond.initialized "java/lang/System" ∈ tbG := ⟨tbG_at (p := 701) (by decide +kernel), tbG_at (p := 700) (by decide +kernel), tbG_at (p := 12) (by decide +kernel)⟩
theorem conk_inl {rt : Nat} {q : Nat → PH → Prop} {kk : List Value → PH → Prop} {v : Option Value} {h : PH} (hc : conk rt q kk (.inl v) h) : kk v.toList h := by
  unfold conk at hc
  split at hc
  · rcases v with _ | v
    · exact hc
    · cases hc
  · rcases v with _ | v
    · cases hc
    · cases v <;> first | exact hc | cases hc
  · rcases v with _ | v
    · cases hc
    · cases v <;> first | exact hc | cases hc
  · rcases v with _ | v
    · cases hc
    · cases v <;> first | exact hc | cases hc
  · rcases v with _ | v
    · cases hc
    · cases v <;> first | exact hc | cases hc
  · rcases v with _ | v
    · cases hc
    · cases v <;> first | exact hc | cases hc
theorem conk_inr {rt : Nat} {q : Nat → PH → Prop} {kk : List Value → PH → Prop} {x : Nat} {h : PH} (hc : conk rt q kk (.inr x) h) : q x h := by
  unfold conk at hc
  split at hc <;> exact hc
theorem tr_toList (ad : Nat → Nat) (v : Option Value) : (v.map (tr ad)).toList = v.toList.map (tr ad) := by cases v <;> rfl
theorem cat8_of {st : List Value} {P : Prop} (h : cat8 st P) : (st.map (fun v => v.category)).sum ≤ 8 ∧ P := by
  unfold cat8 at h
  split at h
  · rename_i hb; exact ⟨Nat.le_of_ble_eq_true hb, h⟩
  · cases h
theorem cat_tr (ad : Nat → Nat) (st : List Value) : (st.map (tr ad)).map (fun v => v.category) = st.map (fun v => v.category) := by
  rw [List.map_map]
  apply List.map_congr_left
  intro v _
  exact tr_cat ad v
theorem capk_of {c mcv cap : Nat} {P : Prop} (h : capk c mcv cap P) (hc : c ≤ cap) : c + mcv ≤ cap ∧ P := by
  unfold capk at h
  split at h
  · exact ⟨hc, h⟩
  · exact h
theorem retC_rt {rt : Nat} {r : Option FieldType} (h : retC rt r = true) : True := trivial
theorem calB_of {M M' : MI} {n mcv rt : Nat} (h : calB M M' n mcv rt = true) : mcv = M'.cap ∧ M'.fr + 1 ≤ M.fr ∧ 8 + (M'.nl + 11) + M'.lo ≤ M.lo ∧ M'.y.cls ≠ "java/lang/invoke/MethodHandle" ∧ M'.y.cls ≠ "java/lang/invoke/VarHandle" ∧ (parseMethodDescriptor M'.y.desc).map (fun d => d.parameters.length) = some n := by
  simp only [calB, Bool.and_eq_true, decide_eq_true_eq] at h
  obtain ⟨⟨⟨⟨h1, h2⟩, h3⟩, -⟩, h4⟩ := h
  exact ⟨Nat.eq_of_beq_eq_true h1, Nat.le_of_ble_eq_true h2, Nat.le_of_ble_eq_true h3, h4⟩
section
variable {M : MI} {Q : Res → PH → Prop} {Z : State → Prop} {p : Program} {l : Launch} {e : Env} {R : Room} {s : State} {m : MethodId} {args : Array Value} {below : List Frame} {meth : Method} {cc : Code} {ad : Nat → Nat} {cA : Nat → ClassId} {D : va_G} {A : Nat → Prop} {xs : PH} {L : Nat} {k : KT} {pc c : Nat} {ls : Lc} {st : List Value} {h : PH}
theorem ac_str (hC : Cx M Q Z p l e R s m args below meth cc ad cA D A xs L) {i : Instr} {rt : Nat} (hd : decode M.b pc = .ok (i, 1))
    (hok : ∀ v : Option Value, (match rt with
      | 0 => v = none
      | 1 => ∃ x, v = some (.int x)
      | 2 => ∃ x, v = some (.long x)
      | 3 => ∃ x, v = some (.float x)
      | 4 => ∃ x, v = some (.double x)
      | 5 => v = some .null ∨ ∃ a, v = some (.ref a)
      | 6 => ∃ x, v = some (.int x) ∧ isB x
      | 7 => ∃ x, v = some (.int x) ∧ narrow .byte (.int x) = .int x
      | _ => ∃ x, v = some (.int x) ∧ narrow .char (.int x) = .int x) → rtOk M.ret i v) (hs : str Q rt st h) : AtC M Z p l e R s m args below meth cc ad cA D A xs L pc c ls st h := by
  intro H locs cells slots lsA hW hl h1 h2 h3
  obtain ⟨-, -, -, -, -, -, -, -, -, hend, -, -⟩ := hC
  have fin : ∀ v : Option Value, st = v.toList → rtOk M.ret i v → Q (.inl v) h → W p l e R s m args below meth cc H locs cells slots Z (F0 m pc lsA (st.map (tr ad))) := by
    intro v hv hr hq
    have := hend v h H locs cells slots pc i lsA hd hr hq hW (by omega) (by omega)
    rw [tr_toList, ← hv] at this
    exact this
  unfold str at hs
  split at hs
  · split at hs
    · exact fin none rfl (hok none rfl) hs
    · cases hs
  · split at hs
    · exact fin (some _) rfl (hok _ ⟨_, rfl⟩) hs
    · cases hs
  · split at hs
    · exact fin (some _) rfl (hok _ ⟨_, rfl⟩) hs
    · cases hs
  · split at hs
    · exact fin (some _) rfl (hok _ ⟨_, rfl⟩) hs
    · cases hs
  · split at hs
    · exact fin (some _) rfl (hok _ ⟨_, rfl⟩) hs
    · cases hs
  · split at hs
    · exact fin (some _) rfl (hok _ (Or.inr ⟨_, rfl⟩)) hs
    · exact fin (some _) rfl (hok _ (Or.inl rfl)) hs
    · cases hs
  · split at hs
    · exact fin (some _) rfl (hok _ ⟨_, rfl, hs.1⟩) hs.2
    · cases hs
  · split at hs
    · exact fin (some _) rfl (hok _ ⟨_, rfl, hs.1⟩) hs.2
    · cases hs
  · rename_i r0 r1 r2 r3 r4 r5 r6 r7
    split at hs
    · exact fin (some _) rfl (hok _ (by
        split
        · exact absurd rfl r0
        · exact ⟨_, rfl⟩
        · exact absurd rfl r2
        · exact absurd rfl r3
        · exact absurd rfl r4
        · exact absurd rfl r5
        · exact absurd rfl r6
        · exact absurd rfl r7
        · exact ⟨_, rfl, hs.1⟩)) hs.2
    · cases hs
theorem ac_new (hC : Cx M Q Z p l e R s m args below meth cc ad cA D A xs L) {ik ic x : Nat} (hth : thOk M pc ik ic x) (h8 : (st.map (fun v => v.category)).sum ≤ 8) (hcap : c + 1 ≤ M.cap) (hq : Q (.inr x) h) : AtC M Z p l e R s m args below meth cc ad cA D A xs L pc c ls st h := by
  intro H locs cells slots lsA hW hl h1 h2 h3
  obtain ⟨-, -, -, -, -, -, -, -, -, -, hthr, -⟩ := hC
  exact hthr x h H locs cells slots pc ik ic lsA _ hth hq hW (by omega) (by omega) hl.1 (by rw [cat_tr]; exact h8)
theorem wl_mono {H : Heap} {locs : List Loc} {cells slots : Nat} {g : JFrame} (hk : ∀ (pc c : Nat) (ls : Lc) (st : List Value) (h : PH), k pc c ls st h → AtC M Z p l e R s m args below meth cc ad cA D A xs L pc c ls st h) : True := trivial
/-- an exception of a call: to the handler, or out -/
theorem ac_hnd (hC : Cx M Q Z p l e R s m args below meth cc ad cA D A xs L) {a : KT} (ha : ∀ pc c ls st h, a pc c ls st h → AtC M Z p l e R s m args below meth cc ad cA D A xs L pc c ls st h) {hs : List Nat} (hok : okI.hsOk M pc hs = true)
    {x c' : Nat} {h' : PH} (hh : hnd Q a c' ls hs x h') {H1 : Heap} {locs1 : List Loc} {cells1 slots1 : Nat} {lsA : Array Slot} {rest : List Value} {q : Addr} {ce : Cell} (hW : WH ad cA D xs L A h' s s.heap H1 locs1) (hl : lv_has lsA M.nl (tl ad ls)) (h1 : cells1 ≤ c') (h2 : slots1 ≤ 6 * c') (h3 : c' ≤ M.cap)
    (hce : H1[q]? = some ce) (hcv : ce.vm = .none) (hcl : s.vm.findClass (exN x) = some ce.cls) : vx_W p l e R s m args below meth cc H1 locs1 cells1 slots1 Z (F0 m pc lsA rest) q := by
  obtain ⟨⟨hx, hb, hml, hown, hts⟩, hK, hA, hCF, hxw, hsc, hst, hroom, htab, hend, hthr, hprop⟩ := hC
  have out : Q (.inr x) h' → vx_W p l e R s m args below meth cc H1 locs1 cells1 slots1 Z (F0 m pc lsA rest) q := fun hq =>
    hprop x h' H1 locs1 cells1 slots1 pc lsA rest q ce hq hW (by omega) (by omega) hce hcv hcl
  unfold hnd at hh
  split at hh
  · exact out hh
  · rename_i hne
    split at hh
    · exact out hh
    · rename_i hane
      cases hs with
      | nil => exact absurd rfl hne
      | cons _ _ => cases hok
end
end
section
/-! ===== calls and the JDK's own; the soundness of a step ===== -/
section
variable {M : MI} {Q : Res → PH → Prop} {Z : State → Prop} {p : Program} {l : Launch} {e : Env} {R : Room} {s : State} {m : MethodId} {args : Array Value} {below : List Frame} {meth : Method} {cc : Code} {ad : Nat → Nat} {cA : Nat → ClassId} {D : va_G} {A : Nat → Prop} {xs : PH} {L : Nat} {k : KT} {pc c : Nat} {ls : Lc} {st : List Value} {h : PH}
theorem len9_of {n : Nat} {st : List Value} {P : Prop} (h : len9 n st P) : n ≤ st.length ∧ P := by
  unfold len9 at h
  split at h
  · rename_i hb; exact ⟨Nat.le_of_ble_eq_true hb, h⟩
  · cases h
theorem nfw7 : nativeFrameWords "java/lang/System" "arraycopy" 5 = 7 := by decide +kernel
theorem take_tr (ad : Nat → Nat) (st : List Value) (n : Nat) : ((st.take n).reverse).map (tr ad) = ((st.map (tr ad)).take n).reverse := by
  rw [List.map_reverse, List.map_take]
theorem st_split (ad : Nat → Nat) (st : List Value) (n : Nat) : st.map (tr ad) = (((st.take n).reverse).map (tr ad)).reverse ++ (st.drop n).map (tr ad) := by
  rw [List.map_reverse, List.reverse_reverse, ← List.map_append, List.take_append_drop]
theorem ac_stc (hC : Cx M Q Z p l e R s m args below meth cc ad cA D A xs L) {a : KT} (ha : ∀ pc c ls st h, a pc c ls st h → AtC M Z p l e R s m args below meth cc ad cA D A xs L pc c ls st h) (hk : ∀ pc c ls st h, k pc c ls st h → AtC M Z p l e R s m args below meth cc ad cA D A xs L pc c ls st h)
    {idx kind n rt rc mcv : Nat} {hs : List Nat} {M' : MI} (hM' : MOK M')
    (hd : match kind with
      | 0 => decode M.b pc = .ok (.invokevirtual idx, 3)
      | 5 => decode M.b pc = .ok (.invokevirtual idx, 3)
      | _ => decode M.b pc = .ok (.invokestatic idx, 3))
    (hB : calB M M' n mcv rt = true) (hH : okI.hsOk M pc hs = true)
    (hKd : match kind with
      | 0 => M'.sk = 0 ∧ Cond.methodLink M.y.cls idx M'.y ∈ tbG ∧ ∃ (C : String) (T : u_T) (N : Nat), pmCl[rc]? = some (C, T, N) ∧ M'.y.cls = C
      | 1 => M'.sk = 1 ∧ Cond.methodLink M.y.cls idx M'.y ∈ tbG
      | 3 => M'.sk = 2 ∧ Cond.methodLink M.y.cls idx M'.y ∈ tbG
      | 2 => M'.sk = 1 ∧ Cond.methodLinkNest M.y.cls idx M'.y RX11 ∈ XW
      | 5 => M'.sk = 0 ∧ Cond.methodLink M.y.cls idx M'.y ∈ tbG ∧ M'.y.cls = cNm rc
      | _ => False)
    (hs9 : stc MetPM M Q a k pc M' kind n rt rc mcv hs c ls st h) : AtC M Z p l e R s m args below meth cc ad cA D A xs L pc c ls st h := by
  intro H locs cells slots lsA hW hl h1 h2 h3
  have hC0 := hC
  obtain ⟨⟨hx, hb, hml, hown, hts⟩, hK, hA, hCF, hxw, hsc, hst, hroom, htab, hend, hthr, hprop⟩ := hC
  obtain ⟨e1, e2, e3, e4, e5, e6⟩ := calB_of hB
  subst e1
  have hR : (rmM M').frames + 1 ≤ R.frames ∧ 8 + (M'.nl + 11) + (rmM M').locals ≤ R.locals := ⟨by show M'.fr + 1 ≤ _; omega, by show 8 + (M'.nl + 11) + M'.lo ≤ _; omega⟩
  have hcap : c + M'.cap ≤ M.cap → cells + M'.cap ≤ R.cells ∧ slots + 6 * M'.cap ≤ R.slots := fun h9 => ⟨by omega, by omega⟩
  have hini : (Cond.initialized M'.y.cls).before args s = true := hts _ hM'.2.1
  have hcode0 : headM M' ∈ tbG := hM'.1
  have goW : ∀ (rest : List Value) (as : List Value) (aa : Array Value), c + M'.cap ≤ M.cap → MetPM M' as h (conk rt (hnd Q a (c + M'.cap) ls hs) (fun vs h' => k (pc + 3) (c + M'.cap) ls (vs ++ rest) h')) →
      (∀ (Q' : Res → PH → Prop), MetPM M' as h Q' → vx_Run p l e R s m args below meth cc H locs cells slots M'.cap (6 * M'.cap) (F0 m pc lsA (st.map (tr ad))) (rest.map (tr ad)) (QcM ad cA D xs L H.size Q' aa) (XcM ad cA D xs L H.size Q') (adA ad H.size)) →
      W p l e R s m args below meth cc H locs cells slots Z (F0 m pc lsA (st.map (tr ad))) := by
    intro rest as aa hcp hmp hrun
    refine ac_run (M' := M') hA hW (hrun _ hmp) ?_ ?_
    · intro x h' H1 locs1 q ce hq hW1 hce hcv hcl
      exact ac_hnd hC0 ha hH (conk_inr hq) hW1 hl (by omega) (by omega) hcp hce hcv hcl
    · intro v h' H1 locs1 hq hW1
      have hq1 : k (pc + 3) (c + M'.cap) ls (v.toList ++ rest) h' := conk_inl (kk := fun vs h' => k (pc + 3) (c + M'.cap) ls (vs ++ rest) h') hq
      have := hk _ _ _ _ _ hq1 H1 locs1 (cells + M'.cap) (slots + 6 * M'.cap) lsA hW1 hl (by omega) (by omega) hcp
      rw [List.map_append, ← tr_toList] at this
      exact this
  have hmet : ∀ (as : List Value) (Q' : Res → PH → Prop), MetPM M' as h Q' → vx_Met l M'.y (wsM M') (rmM M') (va_Pc (as.map (tr ad)) (PcM ad cA D xs L H.size h)) (QcM ad cA D xs L H.size Q') (XcM ad cA D xs L H.size Q') M'.cap (6 * M'.cap) (adA ad H.size) := fun as Q' hmp => hmp l ad cA D xs L H.size hst
  have hpre := fun (As : List Value) => pc_start (As := As) hK hA hCF hxw hW
  unfold stc at hs9
  match kind, hd, hKd, hs9 with
  | 0, hd, hKd, hs9 =>
    obtain ⟨hsk, hlink, C, T, N, hci, hcls⟩ := hKd
    obtain ⟨-, -, -, hx3⟩ := id hM'
    rw [hsk] at hx3
    obtain ⟨hhh, hinst, hsel⟩ := hx3
    have hhead : headM M' = Cond.code M'.y M'.b M'.nl M'.ret := by unfold headM; rw [hhh]
    simp only at hs9
    split at hs9
    · rename_i b rest hdrop
      have hlen : (st.take n).length = n := by
        rw [List.length_take]
        have h9 := congrArg List.length hdrop
        rw [List.length_drop, List.length_cons] at h9
        omega
      unfold obIf at hs9
      split at hs9
      · rename_i hob
        obtain ⟨rs, hkd⟩ := obC_of hob
        obtain ⟨h8, hs9⟩ := cat8_of hs9
        obtain ⟨hcp, hmp⟩ := capk_of hs9 h3
        refine goW rest _ (Value.ref (ad b) :: ((st.take n).reverse.map (tr ad))).toArray hcp hmp ?_
        intro Q' hQ'
        have hst9 : st.map (tr ad) = ((st.take n).reverse.map (tr ad)).reverse ++ Value.ref (ad b) :: rest.map (tr ad) := by
          rw [st_split ad st n, hdrop]
          rfl
        refine vx_runV (g := F0 m pc lsA (st.map (tr ad))) (C := M'.y.cls) (y := M'.y) (bytes := M'.b) (maxL := M'.nl) (ret := M'.ret) (n := n) (b := ad b) (As := (st.take n).reverse.map (tr ad)) (rest := rest.map (tr ad)) (Ts := tbG) ⟨hx, hb, hml, hown, hts⟩ (hmet _ _ hQ') ⟨callB_of n hts (wsM_good hM') (by unfold wsM; rw [hhead]) rfl rfl hini (hts _ hlink) ⟨e4, e5, e6⟩ hR, hts _ hinst, hts _ hsel⟩ ⟨(hpre _).1, ?_, fun U hU hWU => (hpre (.ref b :: (st.take n).reverse)).2 U hU hWU⟩ rfl (by rw [List.length_map, List.length_reverse]; exact hlen) hl.1 hst9 (lv_room (by rw [cat_tr]; exact h8)) hd (hcap hcp)
        have hrecv := va_recv (q := (C, T, N)) hK hW.1 (ci := rc) (q0 := b) hci (wd_ob hkd)
        rw [hcls]
        exact hrecv
      · cases hs9
    · cases hs9
  | 5, hd, hKd, hs9 =>
    obtain ⟨hsk, hlink, hcls⟩ := hKd
    obtain ⟨-, -, -, hx3⟩ := id hM'
    rw [hsk] at hx3
    obtain ⟨hhh, hinst, hsel⟩ := hx3
    have hhead : headM M' = Cond.code M'.y M'.b M'.nl M'.ret := by unfold headM; rw [hhh]
    simp only at hs9
    split at hs9
    · rename_i b rest hdrop
      have hlen : (st.take n).length = n := by
        rw [List.length_take]
        have h9 := congrArg List.length hdrop
        rw [List.length_drop, List.length_cons] at h9
        omega
      obtain ⟨hco, hs9⟩ := hs9
      obtain ⟨h8, hs9⟩ := cat8_of hs9
      obtain ⟨hcp, hmp⟩ := capk_of hs9 h3
      refine goW rest _ (Value.ref (ad b) :: ((st.take n).reverse.map (tr ad))).toArray hcp hmp ?_
      intro Q' hQ'
      have hst9 : st.map (tr ad) = ((st.take n).reverse.map (tr ad)).reverse ++ Value.ref (ad b) :: rest.map (tr ad) := by
        rw [st_split ad st n, hdrop]
        rfl
      refine vx_runV (g := F0 m pc lsA (st.map (tr ad))) (C := M'.y.cls) (y := M'.y) (bytes := M'.b) (maxL := M'.nl) (ret := M'.ret) (n := n) (b := ad b) (As := (st.take n).reverse.map (tr ad)) (rest := rest.map (tr ad)) (Ts := tbG) ⟨hx, hb, hml, hown, hts⟩ (hmet _ _ hQ') ⟨callB_of n hts (wsM_good hM') (by unfold wsM; rw [hhead]) rfl rfl hini (hts _ hlink) ⟨e4, e5, e6⟩ hR, hts _ hinst, hts _ hsel⟩ ⟨(hpre _).1, ?_, fun U hU hWU => (hpre (.ref b :: (st.take n).reverse)).2 U hU hWU⟩ rfl (by rw [List.length_map, List.length_reverse]; exact hlen) hl.1 hst9 (lv_room (by rw [cat_tr]; exact h8)) hd (hcap hcp)
      rw [hcls]
      exact va_Orecv (hCF.2.2.2.1 rc b hco) hW.2.2.1
    · cases hs9
  | 1, hd, hKd, hs9 =>
    obtain ⟨hsk, hlink⟩ := hKd
    obtain ⟨-, -, -, hx3⟩ := id hM'
    rw [hsk] at hx3
    obtain ⟨hhh, hstat⟩ := hx3
    have hhead : headM M' = Cond.code M'.y M'.b M'.nl M'.ret := by unfold headM; rw [hhh]
    simp only at hs9
    obtain ⟨hlen0, hs9⟩ := len9_of hs9
    have hlen : (st.take n).length = n := by rw [List.length_take]; omega
    obtain ⟨h8, hs9⟩ := cat8_of hs9
    obtain ⟨hcp, hmp⟩ := capk_of hs9 h3
    refine goW (st.drop n) _ ((st.take n).reverse.map (tr ad)).toArray hcp hmp ?_
    intro Q' hQ'
    exact vx_runS (g := F0 m pc lsA (st.map (tr ad))) (y := M'.y) (bytes := M'.b) (maxL := M'.nl) (ret := M'.ret) (n := n) (As := (st.take n).reverse.map (tr ad)) (rest := (st.drop n).map (tr ad)) (Ts := tbG) ⟨hx, hb, hml, hown, hts⟩ (hmet _ _ hQ') ⟨callB_of n hts (wsM_good hM') (by unfold wsM; rw [hhead]) rfl rfl hini (hts _ hlink) ⟨e4, e5, e6⟩ hR, hts _ hstat⟩ (hpre _) rfl (by rw [List.length_map, List.length_reverse]; exact hlen) hl.1 (st_split ad st n) (lv_room (by rw [cat_tr]; exact h8)) hd (hcap hcp)
  | 2, hd, hKd, hs9 =>
    obtain ⟨hsk, hlink⟩ := hKd
    obtain ⟨-, -, -, hx3⟩ := id hM'
    rw [hsk] at hx3
    obtain ⟨hhh, hstat⟩ := hx3
    have hhead : headM M' = Cond.code M'.y M'.b M'.nl M'.ret := by unfold headM; rw [hhh]
    simp only at hs9
    obtain ⟨hlen0, hs9⟩ := len9_of hs9
    have hlen : (st.take n).length = n := by rw [List.length_take]; omega
    obtain ⟨h8, hs9⟩ := cat8_of hs9
    obtain ⟨hcp, hmp⟩ := capk_of hs9 h3
    refine goW (st.drop n) _ ((st.take n).reverse.map (tr ad)).toArray hcp hmp ?_
    intro Q' hQ'
    exact pm_runSN (g := F0 m pc lsA (st.map (tr ad))) (host := RX11) (y := M'.y) (bytes := M'.b) (maxL := M'.nl) (ret := M'.ret) (n := n) (As := (st.take n).reverse.map (tr ad)) (rest := (st.drop n).map (tr ad)) (Ts := tbG) ⟨hx, hb, hml, hown, hts⟩ (hmet _ _ hQ') ⟨va_cnB n hts (wsM_good hM') (by unfold wsM; rw [hhead]) rfl rfl (hxw.1 _ hlink) hini ⟨e4, e5, e6⟩ hR, hts _ hstat⟩ (hpre _) rfl (by rw [List.length_map, List.length_reverse]; exact hlen) hl.1 (st_split ad st n) (lv_room (by rw [cat_tr]; exact h8)) hd (hcap hcp)
  | 3, hd, hKd, hs9 =>
    obtain ⟨hsk, hlink⟩ := hKd
    obtain ⟨-, -, -, hx3⟩ := id hM'
    rw [hsk] at hx3
    obtain ⟨hhh, hstat⟩ := hx3
    have hhead : headM M' = Cond.codeWith M'.y M'.b M'.nl M'.ret M'.hh := by
      unfold headM
      split
      · rename_i h9; exact absurd h9 hhh
      · rfl
    simp only at hs9
    obtain ⟨hlen0, hs9⟩ := len9_of hs9
    have hlen : (st.take n).length = n := by rw [List.length_take]; omega
    obtain ⟨h8, hs9⟩ := cat8_of hs9
    obtain ⟨hcp, hmp⟩ := capk_of hs9 h3
    refine goW (st.drop n) _ ((st.take n).reverse.map (tr ad)).toArray hcp hmp ?_
    intro Q' hQ'
    have hT : GoodIn tbG (va_wsS M.y.cls idx M'.y (wsM M')) := by
      intro w hw
      unfold va_wsS at hw
      rcases List.mem_append.mp hw with hw | hw
      · simp only [List.mem_cons, List.mem_nil_iff, or_false] at hw
        rcases hw with rfl | rfl | rfl
        · exact tbG_good _ hlink
        · exact tbG_good _ hstat
        · exact tbG_good _ hM'.2.1
      · exact wsM_good hM' w hw
    exact vx_runSX (hh := M'.hh) (g := F0 m pc lsA (st.map (tr ad))) (y := M'.y) (bytes := M'.b) (maxL := M'.nl) (ret := M'.ret) (n := n) (As := (st.take n).reverse.map (tr ad)) (rest := (st.drop n).map (tr ad)) (Ts := tbG) ⟨hx, hb, hml, hown, hts⟩ (hmet _ _ hQ') (vx_cwSW n hts hT (by unfold wsM; rw [hhead]) rfl rfl ⟨e4, e5, e6⟩ hR) (hpre _) rfl (by rw [List.length_map, List.length_reverse]; exact hlen) hl.1 (st_split ad st n) (lv_room (by rw [cat_tr]; exact h8)) hd (hcap hcp)
  | 4, hd, hKd, hs9 => exact hKd.elim
  | k9 + 6, hd, hKd, hs9 => exact hKd.elim
theorem ow_code : Cond.code yJx29ce0_ordinal_8abf5 cJx29ce0_ordinal_8abf5 1 (some .int) ∈ tbG := tbG_at (p := 496) (by decide +kernel)
theorem ow_fl : Cond.fieldLink "java/lang/Enum" 7 "java/lang/Enum" "ordinal" "I" ∈ tbG := tbG_at (p := 1845) (by decide +kernel)
theorem ow_inst : Cond.instanceMethod yJx29ce0_ordinal_8abf5 ∈ tbG := tbG_at (p := 495) (by decide +kernel)
theorem ow_ini : Cond.initialized "java/lang/Enum" ∈ tbG := tbG_at (p := 34) (by decide +kernel)
theorem ow_20 : Cond.sameMethod (cNm 20) "java/lang/Enum" "ordinal" "()I" ∈ tbG ∧ Cond.selects (cNm 20) ⟨cNm 20, "ordinal", "()I"⟩ yJx29ce0_ordinal_8abf5 ∈ tbG := ⟨tbG_at (p := 492) (by decide +kernel), tbG_at (p := 494) (by decide +kernel)⟩
theorem no21 {a : Nat} : ¬ cOk a 21 := fun h => by rcases h with ⟨q, -⟩ | ⟨-, q1, q2⟩ | ⟨q, -⟩
                                                   · cases q
                                                   · omega
                                                   · cases q
theorem od_0 : decode cJx29ce0_ordinal_8abf5 0 = .ok (.aload_n 0, 1) := by decide +kernel
theorem od_1 : decode cJx29ce0_ordinal_8abf5 1 = .ok (.getfield 7, 3) := by decide +kernel
theorem od_4 : decode cJx29ce0_ordinal_8abf5 4 = .ok (.ireturn, 1) := by decide +kernel
/-- Enum.ordinal(), of a constant -/
theorem c_ordinal (l : Launch) (t : Nat) (v : Int32) : Met l yJx29ce0_ordinal_8abf5 (.code yJx29ce0_ordinal_8abf5 cJx29ce0_ordinal_8abf5 1 (some .int) :: tbG) ({ frames := 0, cells := 0, slots := 0, locals := 0 }) (va_Pc [.ref t] (fun U => va_OF "java/lang/Enum" "ordinal" "I" (.int v) t (fun _ => False) U U.heap)) (va_Qi (fun (r : Int32) (_ : Unit) => r = v) (fun _ _ => True) (fun _ => False)) 0 0 (fun _ => False) := by
  refine Met.ofW (cc := cJx29ce0_ordinal_8abf5) (maxL := 1) (ret := some .int) (by decide +kernel) rfl ?_
  intro p e s m args below meth c s₁ B hml hv
  obtain ⟨rfl, hE⟩ := hv
  have hx := B.exec
  have hb := B.bytes
  have hr := B.returns
  have hts := atoms_spec (ws := .code yJx29ce0_ordinal_8abf5 cJx29ce0_ordinal_8abf5 1 (some .int) :: tbG) B.pre
  have hown : s.vm.findClass "java/lang/Enum" = some m.cls := findClass_of_methodNamed B.named
  have hlocks := B.notSynchronized
  have hl := lv_entry ([.ref t]) (n := 1) (Nat.le_of_ble_eq_true rfl)
  rw [lg_entry_eq]
  generalize (lg_sl ([.ref t]) ++ List.replicate (1 - (lg_sl ([.ref t])).length) Slot.unset).toArray = ls at hl ⊢
  have hl : lv_has ls 1 [(0, .ref t)] := hl
  have hS : va_S (fun _ => False) s.heap s.heap [] := va_S.rf
  refine lv_aload_n hx hb od_0 rfl (lv_at hl 0 rfl) ?_
  refine vk_getf hx hb hE hS hown (hts _ (List.mem_cons_of_mem _ ow_fl)) (fun _ h9 => h9) od_1 ?_
  exact W.iret hx hb hr (fun t ht hW => ⟨⟨v, (), rfl, rfl, trivial⟩, hS.F ht⟩) hS.2.2 od_4
theorem ac_ord (hC : Cx M Q Z p l e R s m args below meth cc ad cA D A xs L) (hk : ∀ pc c ls st h, k pc c ls st h → AtC M Z p l e R s m args below meth cc ad cA D A xs L pc c ls st h) {idx ci : Nat} {a : Nat} {r : List Value} (hci : ci = 20 ∨ ci = 21) (hd : decode M.b pc = .ok (.invokevirtual idx, 3)) (hR : okI.jdkR M = true)
    (hlink : Cond.methodLink M.y.cls idx ⟨cNm ci, "ordinal", "()I"⟩ ∈ tbG) (hco : cOk a ci) (hs : cat8 r (k (pc + 3) c ls (.int (cfv a 9) :: r) h)) : AtC M Z p l e R s m args below meth cc ad cA D A xs L pc c ls (.ref a :: r) h := by
  intro H locs cells slots lsA hW hl h1 h2 h3
  obtain ⟨⟨hx, hb, hml, hown, hts⟩, hK, hA, hCF, hxw, hsc, hst, hroom, htab, hend, hthr, hprop⟩ := hC
  simp only [okI.jdkR, Bool.and_eq_true] at hR
  have r1 := Nat.le_of_ble_eq_true hR.1
  have r2 := Nat.le_of_ble_eq_true hR.2
  obtain ⟨h8, hs⟩ := cat8_of hs
  have hE : va_OF "java/lang/Enum" "ordinal" "I" (.int (cfv a 9)) (ad a) A s s.heap := by
    rcases hci with rfl | rfl
    · exact hCF.2.2.1 20 9 _ _ _ false rfl a hco
    · exact absurd hco no21
  have hw2 : Cond.sameMethod (cNm ci) "java/lang/Enum" "ordinal" "()I" ∈ tbG ∧ Cond.selects (cNm ci) ⟨cNm ci, "ordinal", "()I"⟩ yJx29ce0_ordinal_8abf5 ∈ tbG := by
    rcases hci with rfl | rfl
    · exact ow_20
    · exact absurd hco no21
  have hG : GoodIn tbG (va_wsU M.y.cls idx (cNm ci) "java/lang/Enum" ⟨cNm ci, "ordinal", "()I"⟩ yJx29ce0_ordinal_8abf5 (.code yJx29ce0_ordinal_8abf5 cJx29ce0_ordinal_8abf5 1 (some .int) :: tbG)) := by
    intro w hw
    unfold va_wsU at hw
    rcases List.mem_append.mp hw with hw | hw
    · simp only [List.mem_cons, List.mem_nil_iff, or_false] at hw
      rcases hw with rfl | rfl | rfl | rfl | rfl
      · exact tbG_good _ hlink
      · exact tbG_good _ hw2.1
      · exact tbG_good _ hw2.2
      · exact tbG_good _ ow_inst
      · exact tbG_good _ ow_ini
    · rcases List.mem_cons.mp hw with rfl | hw
      · exact tbG_good _ ow_code
      · exact tbG_good _ hw
  have hEH := hE.kept (fun a h1 h2 => hW.2.2.1.2.1 a h1 h2)
  refine va_calli (A1 := fun _ => False) (free := fun _ => False) (va_runU (g := F0 m pc lsA ((Value.ref a :: r).map (tr ad))) (C := cNm ci) (owner := "java/lang/Enum") (x := ⟨cNm ci, "ordinal", "()I"⟩) (b := ad a) (As := []) (rest := r.map (tr ad)) (Ts := tbG) (nL := M.nl) (n := 0) ⟨hx, hb, hml, hown, hts⟩ (c_ordinal l (ad a) (cfv a 9)) (va_cwU 0 hts hG rfl rfl rfl rfl ⟨by decide, by decide, by show (parseMethodDescriptor "()I").map (fun d => d.parameters.length) = some 0; decide +kernel⟩ ⟨by show 0 + 1 ≤ R.frames; omega, by show 8 + (1 + 11) + 0 ≤ R.locals; omega⟩) ⟨?_, ?_, ?_⟩ rfl rfl hl.1 rfl (lv_room (by rw [cat_tr]; exact h8)) hd ⟨by omega, by omega⟩) hW.2.2.1 (fun _ _ h9 => h9.elim) (fun _ h9 => h9.elim) ?_
  · intro a9 U g mk q
    obtain ⟨q0, q1⟩ := q
    exact ⟨q0, q1.moved (u := U) (U := U.calling g mk a9) (Vm.Alike.refl U.vm)⟩
  · exact va_Orecv (hCF.2.2.2.1 ci a hco) hW.2.2.1
  · intro U hU hWU
    refine ⟨rfl, ?_⟩
    show va_OF _ _ _ _ _ _ U U.heap
    rw [hU]
    exact (hEH.moved hWU.alike).narrow (fun _ h9 => h9.elim)
  · intro r9 u t H1 locs1 ht hvm hw hB hz hk1 hS
    rw [hw]
    exact hk _ _ _ _ _ hs H1 locs1 cells slots lsA ⟨hW.1.kept (fun k9 q hq => hk1 q.1 (hW.1 k9 q hq).lt (fun z => z)), hW.2.1, hS, hW.2.2.2⟩ hl h1 h2 h3
theorem c_inj (hCF : CF ad A s s.heap) {x y : Nat} (hx : cOk x 21) (hy : cOk y 21) (h : ad x = ad y) : x = y := by
  exact absurd hx no21
theorem wd_sar {ad : Nat → Nat} {cA : Nat → ClassId} {h : PH} {a n k v : Nat} (hk : kd a = some (.inr (5, n))) : (wd ad cA h).set a (ad a, .inl (cA 5, n, .inr (.inr (.inr (.inr (va_up (fun j => (h.2.2.1 a j).map ad) k (some (ad v)))))))) = wd ad cA (sr h a k (some v)) := by
  refine wd_upd (kd_lt hk) (fun b hb => cellE_eq (h := h) (h' := sr h a k (some v)) rfl rfl (up2_a _ _ _ hb) rfl _) ?_
  rw [hk]
  have e : (fun j => (up2 h.2.2.1 a k (some v) a j).map ad) = va_up (fun j => (h.2.2.1 a j).map ad) k (some (ad v)) := by
    funext j
    simp only [up2, va_up, if_true]
    split <;> rfl
  show Sum.inl (cA 5, n, Sum.inr (Sum.inr (Sum.inr (Sum.inr (fun j => (up2 h.2.2.1 a k (some v) a j).map ad))))) = _
  rw [e]
theorem ac_aast (hC : Cx M Q Z p l e R s m args below meth cc ad cA D A xs L) (hk : ∀ pc c ls st h, k pc c ls st h → AtC M Z p l e R s m args below meth cc ad cA D A xs L pc c ls st h) {x b n : Nat} {i : Int32} {r : List Value} (hd : decode M.b pc = .ok (.aastore, 1)) (hn : arN b 5 = some n) (hco : cOk x 21) (hin : vp_in i n) (hs : k (pc + 1) c ls r (sr h b i.toNatClampNeg (some x))) : AtC M Z p l e R s m args below meth cc ad cA D A xs L pc c ls (.ref x :: .int i :: .ref b :: r) h := by
  intro H locs cells slots lsA hW hl h1 h2 h3
  obtain ⟨⟨hx, hb, hml, hown, hts⟩, hK, hA, hCF, hxw, hsc, hst, hroom, htab, hend, hthr, hprop⟩ := hC
  have hkd := arN_of hn
  have hany : va_Any "WaveUpgrade$Command" s H (ad x) := by
    obtain ⟨cell, q1, q2, q3⟩ := va_Orecv (hCF.2.2.2.1 21 x hco) hW.2.2.1
    obtain ⟨kC, q4, -⟩ := Vm.findClass_spec q3
    refine ⟨cell, q1, q2, ⟨kC, q4⟩, fun comp hcomp => ?_⟩
    have hce := Option.some.inj (q3.symm.trans hcomp)
    rw [hce]
    first | exact Vm.assignable_self _ _ | exact assignable_self _ _ | simp [Vm.assignable]
  refine va_astqM hx hb hK hW.1 hW.2.1 hW.2.2.1 b 5 (wd_ar hkd) (ty_at cA).2.2.2.2.2 hany hin hd ?_
  intro H1 locs1 hP hD hS
  have e9 := wd_sar (ad := ad) (cA := cA) (h := h) (a := b) (n := n) (k := i.toNatClampNeg) (v := x) hkd
  have hP' : va_P D pmCl (wd ad cA (sr h b i.toNatClampNeg (some x))) H1 := by rw [← e9]; exact hP
  have hD' : va_D A (wd ad cA (sr h b i.toNatClampNeg (some x))) := by rw [← e9]; exact hD
  exact hk _ _ _ _ _ hs H1 locs1 cells slots lsA ⟨hP', hD', hS, scr_sr (kd_lt hkd) hW.2.2.2⟩ hl h1 h2 h3
theorem ac_stac (hC : Cx M Q Z p l e R s m args below meth cc ad cA D A xs L) (hk : ∀ pc c ls st h, k pc c ls st h → AtC M Z p l e R s m args below meth cc ad cA D A xs L pc c ls st h) {t : Nat}
    (hd : match t with
      | 0 => decode M.b pc = .ok (.iaload, 1)
      | 1 => decode M.b pc = .ok (.baload, 1)
      | 6 => decode M.b pc = .ok (.iaload, 1)
      | _ => decode M.b pc = .ok (.aaload, 1)) (ht : t = 0 ∨ t = 1 ∨ t = 4 ∨ t = 5 ∨ (t = 6 ∧ M.sk = 3)) (hs : stac k t pc c ls st h) : AtC M Z p l e R s m args below meth cc ad cA D A xs L pc c ls st h := by
  intro H locs cells slots lsA hW hl h1 h2 h3
  obtain ⟨⟨hx, hb, hml, hown, hts⟩, hK, hA, hCF, hxw, hsc, hst, hroom, htab, hend, hthr, hprop⟩ := hC
  unfold stac at hs
  split at hs
  · rename_i i b r
    have go : ∀ (st' : List Value), k (pc + 1) c ls st' h → W p l e R s m args below meth cc H locs cells slots Z (F0 m (pc + 1) lsA (st'.map (tr ad))) := fun st' h9 => hk _ _ _ _ _ h9 H locs cells slots lsA hW hl h1 h2 h3
    rcases ht with rfl | rfl | rfl | rfl | ⟨rfl, h9⟩
    · obtain ⟨q1, q2, q3⟩ := hs
      exact va_ti hx hb (hCF.2.2.2.2.1 0 b q1) hW.2.2.1 q2 rfl hd (go _ q3)
    · obtain ⟨q1, q2, q3⟩ := hs
      exact va_tb hx hb (hCF.2.2.2.2.1 1 b q1) hW.2.2.1 q2 rfl hd (go _ q3)
    · obtain ⟨q1, q2, q3⟩ := hs
      exact vb_tq hx hb (hCF.2.2.2.2.1 4 b q1) hW.2.2.1 q2 rfl hd (go _ q3)
    · obtain ⟨q1, q2, q3⟩ := hs
      exact vb_tq hx hb (hCF.2.2.2.2.1 5 b q1) hW.2.2.1 q2 rfl hd (go _ q3)
    · exact hs.elim
  · cases hs
theorem ac_stln (hC : Cx M Q Z p l e R s m args below meth cc ad cA D A xs L) (hk : ∀ pc c ls st h, k pc c ls st h → AtC M Z p l e R s m args below meth cc ad cA D A xs L pc c ls st h) {t : Nat}
    (hd : decode M.b pc = .ok (.arraylength, 1)) (ht : t = 0 ∨ t = 1 ∨ t = 4 ∨ t = 5 ∨ (t = 6 ∧ M.sk = 3)) (hs : stln k t pc c ls st h) : AtC M Z p l e R s m args below meth cc ad cA D A xs L pc c ls st h := by
  intro H locs cells slots lsA hW hl h1 h2 h3
  obtain ⟨⟨hx, hb, hml, hown, hts⟩, hK, hA, hCF, hxw, hsc, hst, hroom, htab, hend, hthr, hprop⟩ := hC
  unfold stln at hs
  split at hs
  · rename_i b r
    have go : ∀ (st' : List Value), k (pc + 1) c ls st' h → W p l e R s m args below meth cc H locs cells slots Z (F0 m (pc + 1) lsA (st'.map (tr ad))) := fun st' h9 => hk _ _ _ _ _ h9 H locs cells slots lsA hW hl h1 h2 h3
    split at hs
    · exact hs.elim
    · obtain ⟨q1, q3⟩ := hs
      exact va_tlen hx hb (hCF.2.2.2.2.1 t b q1) hW.2.2.1 rfl hd (go _ q3)
  · cases hs
theorem ac_stb (hC : Cx M Q Z p l e R s m args below meth cc ad cA D A xs L) (hk : ∀ pc c ls st h, k pc c ls st h → AtC M Z p l e R s m args below meth cc ad cA D A xs L pc c ls st h) {idx kind : Nat} (hne : kind ≠ 20 ∧ kind ≠ 21) (hd : decode M.b pc = .ok (.invokestatic idx, 3)) (hR : okI.jdkR M = true)
    (hKd : match kind with
      | 10 => Cond.methodLink M.y.cls idx Lib.Math.min.name ∈ tbG
      | 11 => Cond.methodLink M.y.cls idx Lib.Math.max.name ∈ tbG
      | 12 => Cond.methodLink M.y.cls idx Lib.Math.abs.name ∈ tbG
      | 13 => Cond.methodLink M.y.cls idx yJ9_floorMod_7cf53 ∈ tbG
      | _ => Cond.methodLink M.y.cls idx arraycopyName ∈ tbG)
    (hs : stb M k pc kind c ls st h) : AtC M Z p l e R s m args below meth cc ad cA D A xs L pc c ls st h := by
  intro H locs cells slots lsA hW hl h1 h2 h3
  obtain ⟨⟨hx, hb, hml, hown, hts⟩, hK, hA, hCF, hxw, hsc, hst, hroom, htab, hend, hthr, hprop⟩ := hC
  simp only [okI.jdkR, Bool.and_eq_true] at hR
  have r1 := Nat.le_of_ble_eq_true hR.1
  have r2 := Nat.le_of_ble_eq_true hR.2
  have hsz : cc.maxLocals = lsA.size := by rw [hml, hl.1]
  have hno : kind ≠ 20 ∧ kind ≠ 21 := hne
  unfold stb at hs
  split at hs
  · exact absurd rfl hno.1
  · exact absurd rfl hno.2
  · split at hs
    · rename_i y x r
      obtain ⟨h8, hs⟩ := cat8_of hs
      exact va_mmin hx hb hsz hown (hts _ hKd) (hts _ mm_min.1) (hts _ mm_min.2.1) (hts _ mm_min.2.2) (by omega) (by rw [cat_tr]; omega) (by omega) (by omega) hd (hk _ _ _ _ _ hs H locs cells slots lsA hW hl h1 h2 h3)
    · cases hs
  · split at hs
    · rename_i y x r
      obtain ⟨h8, hs⟩ := cat8_of hs
      exact va_mmax hx hb hsz hown (hts _ hKd) (hts _ mm_max.1) (hts _ mm_max.2.1) (hts _ mm_max.2.2) (by omega) (by rw [cat_tr]; omega) (by omega) (by omega) hd (hk _ _ _ _ _ hs H locs cells slots lsA hW hl h1 h2 h3)
    · cases hs
  · split at hs
    · rename_i x r
      obtain ⟨h8, hs⟩ := cat8_of hs
      exact va_mabs hx hb hsz hown (hts _ hKd) (hts _ mm_abs.1) (hts _ mm_abs.2.1) (hts _ mm_abs.2.2) (by omega) (by rw [cat_tr]; omega) (by omega) (by omega) hd (hk _ _ _ _ _ hs H locs cells slots lsA hW hl h1 h2 h3)
    · cases hs
  · split at hs
    · rename_i y x r
      obtain ⟨h7, hs⟩ := hs
      obtain ⟨h8, hs⟩ := cat8_of hs
      exact va_fmod hx hb hsz hown (hts _ hKd) (hts _ mm_fmod.1) (hts _ mm_fmod.2.1) (hts _ mm_fmod.2.2) (by omega) (by rw [cat_tr]; omega) (by omega) (by omega) h7 hd (hk _ _ _ _ _ hs H locs cells slots lsA hW hl h1 h2 h3)
    · cases hs
  · split at hs
    · rename_i n dp b sp a r
      split at hs
      · rename_i n0 n1 g0 g1
        obtain ⟨h8, hs⟩ := cat8_of hs
        obtain ⟨⟨u1, u2, u3, u4, u5⟩, hs⟩ := hs
        have k0 := arN_of g0
        have k1 := arN_of g1
        refine va_copyi hx hb hsz hown (hts _ hKd) (hts _ mm_cpy.1) (hts _ mm_cpy.2.1) (hts _ mm_cpy.2.2) hK hW.1 hW.2.1 hW.2.2.1 a b 0 0 (wd_ar k0) (wd_ar k1) (ty_at cA).1 (ty_at cA).1 rfl u1 u2 u3 u4 u5 (fun i _ => rfl) (by omega) (by rw [cat_tr, nfw7]; omega) hd ?_
        intro H1 locs1 hP hD hS
        have e9 := wd_cpi (ad := ad) (cA := cA) (h := h) (a := a) (sp := sp.toNatClampNeg) (dp := dp.toNatClampNeg) (m := n.toNatClampNeg) k1
        have hP' : va_P D pmCl (wd ad cA (cpi h a sp.toNatClampNeg b dp.toNatClampNeg n.toNatClampNeg)) H1 := by rw [← e9]; exact hP
        have hD' : va_D A (wd ad cA (cpi h a sp.toNatClampNeg b dp.toNatClampNeg n.toNatClampNeg)) := by rw [← e9]; exact hD
        exact hk _ _ _ _ _ hs H1 locs1 cells slots lsA ⟨hP', hD', hS, scr_cpi (kd_lt k1) hW.2.2.2⟩ hl h1 h2 h3
      · cases hs
    · cases hs
  · split at hs
    · rename_i n dp b sp a r
      split at hs
      · rename_i n0 n1 g0 g1
        obtain ⟨h8, hs⟩ := cat8_of hs
        obtain ⟨⟨u1, u2, u3, u4, u5⟩, hs⟩ := hs
        have k0 := arN_of g0
        have k1 := arN_of g1
        refine va_copyl hx hb hsz hown (hts _ hKd) (hts _ mm_cpy.1) (hts _ mm_cpy.2.1) (hts _ mm_cpy.2.2) hK hW.1 hW.2.1 hW.2.2.1 a b 2 2 (wd_ar k0) (wd_ar k1) (ty_at cA).2.2.1 (ty_at cA).2.2.1 rfl u1 u2 u3 u4 u5 (fun i _ => rfl) (by omega) (by rw [cat_tr, nfw7]; omega) hd ?_
        intro H1 locs1 hP hD hS
        have e9 := wd_cpl (ad := ad) (cA := cA) (h := h) (a := a) (sp := sp.toNatClampNeg) (dp := dp.toNatClampNeg) (m := n.toNatClampNeg) k1
        have hP' : va_P D pmCl (wd ad cA (cpl h a sp.toNatClampNeg b dp.toNatClampNeg n.toNatClampNeg)) H1 := by rw [← e9]; exact hP
        have hD' : va_D A (wd ad cA (cpl h a sp.toNatClampNeg b dp.toNatClampNeg n.toNatClampNeg)) := by rw [← e9]; exact hD
        exact hk _ _ _ _ _ hs H1 locs1 cells slots lsA ⟨hP', hD', hS, scr_cpl (kd_lt k1) hW.2.2.2⟩ hl h1 h2 h3
      · cases hs
    · cases hs
  · cases hs
theorem exI {x : Nat} (h : x < 3) : Cond.initialized (exN x) ∈ tbG := by
  match x, h with
  | 0, _ => exact tbG_at (p := 32) (by decide +kernel)
  | 1, _ => exact tbG_at (p := 33) (by decide +kernel)
  | 2, _ => exact tbG_at (p := 37) (by decide +kernel)
theorem beq_of {a b : Nat} (h : Nat.beq a b = true) : a = b := Nat.eq_of_beq_eq_true h
theorem stp_atC (hC : Cx M Q Z p l e R s m args below meth cc ad cA D A xs L) {a : KT} (ha : ∀ pc c ls st h, a pc c ls st h → AtC M Z p l e R s m args below meth cc ad cA D A xs L pc c ls st h) (hk : ∀ pc c ls st h, k pc c ls st h → AtC M Z p l e R s m args below meth cc ad cA D A xs L pc c ls st h)
    {en : En} (hE : okE M en = true) (hms : ∀ M' ∈ en.2.2.2.2, MOK M') (hs : stp MetPM M Q a k en c ls st h) : AtC M Z p l e R s m args below meth cc ad cA D A xs L en.1 c ls st h := by
  obtain ⟨pc, i, len, ax, ms⟩ := en
  have hC0 := hC
  obtain ⟨⟨hx, hb, hml, hown, hts⟩, hK, hA, hCF, hxw, hsc, hst, hroom, htab, hend, hthr, hprop⟩ := hC
  simp only [okE, Bool.and_eq_true, decide_eq_true_eq] at hE
  obtain ⟨hd, hI⟩ := hE
  show AtC M Z p l e R s m args below meth cc ad cA D A xs L pc c ls st h
  have one : ∀ {st' : List Value} {h' : PH} {d : Nat}, k (pc + d) c ls st' h' → h' = h → ∀ (H : Heap) (locs : List Loc) (cells slots : Nat) (lsA : Array Slot), WH ad cA D xs L A h s s.heap H locs → lv_has lsA M.nl (tl ad ls) → cells ≤ c → slots ≤ 6 * c → c ≤ M.cap → W p l e R s m args below meth cc H locs cells slots Z (F0 m (pc + d) lsA (st'.map (tr ad))) := by
    intro st' h' d h9 he H locs cells slots lsA hW hl h1 h2 h3
    subst he
    exact hk _ _ _ _ _ h9 H locs cells slots lsA hW hl h1 h2 h3
  cases i with
  | iconst n =>
    obtain rfl := beq_of hI
    intro H locs cells slots lsA hW hl h1 h2 h3
    exact lv_iconst hx hb hd (cI_ofInt n) (one (d := 1) hs rfl H locs cells slots lsA hW hl h1 h2 h3)
  | bipush n =>
    simp only [okI, Bool.and_eq_true, decide_eq_true_eq] at hI
    obtain ⟨hI, hv⟩ := hI
    obtain rfl := beq_of hI
    intro H locs cells slots lsA hW hl h1 h2 h3
    exact lv_bipush hx hb hd hv (one (d := 2) hs rfl H locs cells slots lsA hW hl h1 h2 h3)
  | sipush n =>
    simp only [okI, Bool.and_eq_true, decide_eq_true_eq] at hI
    obtain ⟨hI, hv⟩ := hI
    obtain rfl := beq_of hI
    intro H locs cells slots lsA hW hl h1 h2 h3
    exact lv_sipush hx hb hd hv (one (d := 3) hs rfl H locs cells slots lsA hW hl h1 h2 h3)
  | lconst n =>
    obtain rfl := beq_of hI
    intro H locs cells slots lsA hW hl h1 h2 h3
    exact lv_lconst hx hb hd rfl (one (d := 1) hs rfl H locs cells slots lsA hW hl h1 h2 h3)
  | fconst f =>
    simp only [okI, Bool.and_eq_true, decide_eq_true_eq] at hI
    obtain ⟨hI, rfl⟩ := hI
    obtain rfl := beq_of hI
    intro H locs cells slots lsA hW hl h1 h2 h3
    exact lv_fconst0 hx hb hd (one (d := 1) hs rfl H locs cells slots lsA hW hl h1 h2 h3)
  | dconst f =>
    simp only [okI, Bool.and_eq_true, decide_eq_true_eq] at hI
    obtain ⟨hI, rfl⟩ := hI
    obtain rfl := beq_of hI
    intro H locs cells slots lsA hW hl h1 h2 h3
    exact lv_dconst0 hx hb hd (one (d := 1) hs rfl H locs cells slots lsA hW hl h1 h2 h3)
  | ldc idx =>
    simp only [okI, Bool.and_eq_true] at hI
    obtain ⟨hI, hv⟩ := hI
    obtain rfl := beq_of hI
    simp only [stp] at hs
    split at hs
    · rename_i n pl
      simp only at hv
      intro H locs cells slots lsA hW hl h1 h2 h3
      exact lv_ldc hx hb hown (hts _ (tbG_at hv)) hd (one (d := 2) hs rfl H locs cells slots lsA hW hl h1 h2 h3)
    · simp only [Bool.and_eq_true, decide_eq_true_eq] at hv
      obtain ⟨q1, q2⟩ := hv
      obtain rfl := beq_of q2
      intro H locs cells slots lsA hW hl h1 h2 h3
      exact va_ldcS hx hb (own := RX1) (by rw [← q1]; exact hown) hxw.2 hd (one (d := 2) hs rfl H locs cells slots lsA hW hl h1 h2 h3)
    · exact hs.elim
  | ldc_w idx =>
    simp only [okI, Bool.and_eq_true] at hI
    obtain ⟨hI, hv⟩ := hI
    obtain rfl := beq_of hI
    simp only [stp] at hs
    split at hs
    · rename_i n pl
      simp only at hv
      intro H locs cells slots lsA hW hl h1 h2 h3
      exact lv_ldcw hx hb hown (hts _ (tbG_at hv)) hd (one (d := 3) hs rfl H locs cells slots lsA hW hl h1 h2 h3)
    · exact hs.elim
  | ldc2_w idx =>
    simp only [okI, Bool.and_eq_true] at hI
    obtain ⟨hI, hv⟩ := hI
    obtain rfl := beq_of hI
    simp only [stp] at hs
    split at hs
    · rename_i n pl
      simp only at hv
      intro H locs cells slots lsA hW hl h1 h2 h3
      exact lv_ldc2 hx hb hown (hts _ (tbG_at hv)) hd (one (d := 3) hs rfl H locs cells slots lsA hW hl h1 h2 h3)
    · exact hs.elim
  | aconst_null =>
    obtain rfl := beq_of hI
    intro H locs cells slots lsA hW hl h1 h2 h3
    exact lv_null hx hb hd (one (d := 1) hs rfl H locs cells slots lsA hW hl h1 h2 h3)
  | iload n =>
    obtain rfl := beq_of hI
    exact ac_stl hx hb hk (q := 0) (n := n) hd hs
  | iload_n n =>
    obtain rfl := beq_of hI
    exact ac_stl_n hx hb hk (q := 0) (n := n) hd hs
  | istore n =>
    obtain rfl := beq_of hI
    exact ac_sts hx hb hk (q := 0) (n := n) hd hs
  | istore_n n =>
    obtain rfl := beq_of hI
    exact ac_sts_n hx hb hk (q := 0) (n := n) hd hs
  | lload n =>
    obtain rfl := beq_of hI
    exact ac_stl hx hb hk (q := 1) (n := n) hd hs
  | lload_n n =>
    obtain rfl := beq_of hI
    exact ac_stl_n hx hb hk (q := 1) (n := n) hd hs
  | lstore n =>
    obtain rfl := beq_of hI
    exact ac_sts hx hb hk (q := 1) (n := n) hd hs
  | lstore_n n =>
    obtain rfl := beq_of hI
    exact ac_sts_n hx hb hk (q := 1) (n := n) hd hs
  | fload n =>
    obtain rfl := beq_of hI
    exact ac_stl hx hb hk (q := 2) (n := n) hd hs
  | fload_n n =>
    obtain rfl := beq_of hI
    exact ac_stl_n hx hb hk (q := 2) (n := n) hd hs
  | fstore n =>
    obtain rfl := beq_of hI
    exact ac_sts hx hb hk (q := 2) (n := n) hd hs
  | fstore_n n =>
    obtain rfl := beq_of hI
    exact ac_sts_n hx hb hk (q := 2) (n := n) hd hs
  | dload n =>
    obtain rfl := beq_of hI
    exact ac_stl hx hb hk (q := 3) (n := n) hd hs
  | dload_n n =>
    obtain rfl := beq_of hI
    exact ac_stl_n hx hb hk (q := 3) (n := n) hd hs
  | dstore n =>
    obtain rfl := beq_of hI
    exact ac_sts hx hb hk (q := 3) (n := n) hd hs
  | dstore_n n =>
    obtain rfl := beq_of hI
    exact ac_sts_n hx hb hk (q := 3) (n := n) hd hs
  | aload n =>
    obtain rfl := beq_of hI
    exact ac_stl hx hb hk (q := 4) (n := n) hd hs
  | aload_n n =>
    obtain rfl := beq_of hI
    exact ac_stl_n hx hb hk (q := 4) (n := n) hd hs
  | astore n =>
    obtain rfl := beq_of hI
    exact ac_sts hx hb hk (q := 4) (n := n) hd hs
  | astore_n n =>
    obtain rfl := beq_of hI
    exact ac_sts_n hx hb hk (q := 4) (n := n) hd hs
  | iinc n v =>
    simp only [okI, Bool.and_eq_true] at hI
    obtain rfl := beq_of hI
    simp only [stp] at hs
    split at hs
    · rename_i x hg hn
      intro H locs cells slots lsA hW hl h1 h2 h3
      obtain ⟨k9, hk9⟩ := List.getElem?_of_mem (tl_mem (ad := ad) (ls := ls) (q := (n, Value.int x)) |>.mpr ⟨.int x, hg, rfl⟩)
      exact lv_iinc (v := x + cI v) hx hb hd hl hk9 (by rw [cI_ofInt]) (blt_of hn) rfl (fun ls' hl' => hk _ _ _ _ _ hs H locs cells slots ls' hW (lv_mono hl' tl_put1) h1 h2 h3)
    · exact hs.elim
  | iadd =>
    obtain rfl := beq_of hI
    exact ac_a2i hk (fun x y H locs cells slots lsA rest kk => lv_iadd hx hb hd kk) hs
  | isub =>
    obtain rfl := beq_of hI
    exact ac_a2i hk (fun x y H locs cells slots lsA rest kk => lv_isub hx hb hd kk) hs
  | imul =>
    obtain rfl := beq_of hI
    exact ac_a2i hk (fun x y H locs cells slots lsA rest kk => lv_imul hx hb hd kk) hs
  | iand =>
    obtain rfl := beq_of hI
    exact ac_a2i hk (fun x y H locs cells slots lsA rest kk => lv_iand hx hb hd kk) hs
  | ior =>
    obtain rfl := beq_of hI
    exact ac_a2i hk (fun x y H locs cells slots lsA rest kk => lv_ior hx hb hd kk) hs
  | ixor =>
    obtain rfl := beq_of hI
    exact ac_a2i hk (fun x y H locs cells slots lsA rest kk => lv_ixor hx hb hd kk) hs
  | ishl =>
    obtain rfl := beq_of hI
    exact ac_a2i hk (fun x y H locs cells slots lsA rest kk => lv_ishl hx hb hd kk) hs
  | ishr =>
    obtain rfl := beq_of hI
    exact ac_a2i hk (fun x y H locs cells slots lsA rest kk => lv_ishr hx hb hd kk) hs
  | iushr =>
    obtain rfl := beq_of hI
    exact ac_a2i hk (fun x y H locs cells slots lsA rest kk => lv_iushr hx hb hd rfl kk) hs
  | land =>
    obtain rfl := beq_of hI
    exact ac_a2l hk (fun x y H locs cells slots lsA rest kk => lv_land hx hb hd kk) hs
  | lor =>
    obtain rfl := beq_of hI
    exact ac_a2l hk (fun x y H locs cells slots lsA rest kk => lv_lor hx hb hd kk) hs
  | idiv =>
    obtain rfl := beq_of hI
    simp only [stp] at hs
    split at hs
    · intro H locs cells slots lsA hW hl h1 h2 h3
      exact lv_idiv hx hb hd hs.1 (one (d := 1) hs.2 rfl H locs cells slots lsA hW hl h1 h2 h3)
    · exact hs.elim
  | irem =>
    obtain rfl := beq_of hI
    simp only [stp] at hs
    split at hs
    · intro H locs cells slots lsA hW hl h1 h2 h3
      exact lv_irem hx hb hd hs.1 (one (d := 1) hs.2 rfl H locs cells slots lsA hW hl h1 h2 h3)
    · exact hs.elim
  | lshl =>
    obtain rfl := beq_of hI
    simp only [stp] at hs
    split at hs
    · intro H locs cells slots lsA hW hl h1 h2 h3
      exact lv_lshl hx hb hd rfl (one (d := 1) hs rfl H locs cells slots lsA hW hl h1 h2 h3)
    · exact hs.elim
  | lshr =>
    obtain rfl := beq_of hI
    simp only [stp] at hs
    split at hs
    · intro H locs cells slots lsA hW hl h1 h2 h3
      exact lv_lshr hx hb hd rfl (one (d := 1) hs rfl H locs cells slots lsA hW hl h1 h2 h3)
    · exact hs.elim
  | lcmp =>
    obtain rfl := beq_of hI
    simp only [stp] at hs
    split at hs
    · intro H locs cells slots lsA hW hl h1 h2 h3
      exact W.lcmp hx hb hd (one (d := 1) hs rfl H locs cells slots lsA hW hl h1 h2 h3)
    · exact hs.elim
  | i2l =>
    obtain rfl := beq_of hI
    simp only [stp] at hs
    split at hs
    · intro H locs cells slots lsA hW hl h1 h2 h3
      exact lv_i2l hx hb hd rfl (one (d := 1) hs rfl H locs cells slots lsA hW hl h1 h2 h3)
    · exact hs.elim
  | l2i =>
    obtain rfl := beq_of hI
    simp only [stp] at hs
    split at hs
    · intro H locs cells slots lsA hW hl h1 h2 h3
      exact lv_l2i hx hb hd rfl (one (d := 1) hs rfl H locs cells slots lsA hW hl h1 h2 h3)
    · exact hs.elim
  | i2b =>
    obtain rfl := beq_of hI
    simp only [stp] at hs
    split at hs
    · intro H locs cells slots lsA hW hl h1 h2 h3
      exact lv_i2b hx hb hd rfl (one (d := 1) hs rfl H locs cells slots lsA hW hl h1 h2 h3)
    · exact hs.elim
  | i2f =>
    obtain rfl := beq_of hI
    simp only [stp] at hs
    split at hs
    · intro H locs cells slots lsA hW hl h1 h2 h3
      exact lv_i2f hx hb hd (one (d := 1) hs rfl H locs cells slots lsA hW hl h1 h2 h3)
    · exact hs.elim
  | i2d =>
    obtain rfl := beq_of hI
    simp only [stp] at hs
    split at hs
    · intro H locs cells slots lsA hW hl h1 h2 h3
      exact lv_i2d hx hb hd (one (d := 1) hs rfl H locs cells slots lsA hW hl h1 h2 h3)
    · exact hs.elim
  | fdiv =>
    obtain rfl := beq_of hI
    simp only [stp] at hs
    split at hs
    · intro H locs cells slots lsA hW hl h1 h2 h3
      exact lv_fdiv hx hb hd hs.1 (one (d := 1) hs.2 rfl H locs cells slots lsA hW hl h1 h2 h3)
    · exact hs.elim
  | ddiv =>
    obtain rfl := beq_of hI
    simp only [stp] at hs
    split at hs
    · intro H locs cells slots lsA hW hl h1 h2 h3
      exact lv_ddiv hx hb hd hs.1 (one (d := 1) hs.2 rfl H locs cells slots lsA hW hl h1 h2 h3)
    · exact hs.elim
  | f2d =>
    obtain rfl := beq_of hI
    simp only [stp] at hs
    split at hs
    · intro H locs cells slots lsA hW hl h1 h2 h3
      exact lv_f2d hx hb hd hs.1 (one (d := 1) hs.2 rfl H locs cells slots lsA hW hl h1 h2 h3)
    · exact hs.elim
  | dup =>
    obtain rfl := beq_of hI
    simp only [stp] at hs
    split at hs
    · split at hs
      · rename_i hc
        intro H locs cells slots lsA hW hl h1 h2 h3
        exact lv_dup hx hb hd (by rw [tr_cat]; exact hc) (one (d := 1) hs rfl H locs cells slots lsA hW hl h1 h2 h3)
      · exact hs.elim
    · exact hs.elim
  | dup2 =>
    obtain rfl := beq_of hI
    simp only [stp] at hs
    split at hs
    · split at hs
      · rename_i hc1 hc2
        intro H locs cells slots lsA hW hl h1 h2 h3
        exact lv_dup2_11 hx hb hd (by rw [tr_cat]; exact hc1) (by rw [tr_cat]; exact hc2) (one (d := 1) hs rfl H locs cells slots lsA hW hl h1 h2 h3)
      · exact hs.elim
    · exact hs.elim
  | pop =>
    obtain rfl := beq_of hI
    simp only [stp] at hs
    split at hs
    · split at hs
      · rename_i hc
        intro H locs cells slots lsA hW hl h1 h2 h3
        exact lv_pop hx hb hd (by rw [tr_cat]; exact hc) (one (d := 1) hs rfl H locs cells slots lsA hW hl h1 h2 h3)
      · exact hs.elim
    · exact hs.elim
  | goto off =>
    simp only [okI, Bool.and_eq_true] at hI
    obtain ⟨hI, hv⟩ := hI
    obtain rfl := beq_of hI
    simp only [stp] at hs
    split at hs
    · rename_i t
      simp only [decide_eq_true_eq] at hv
      intro H locs cells slots lsA hW hl h1 h2 h3
      exact lv_goto hx hb hd hv (hk _ _ _ _ _ hs H locs cells slots lsA hW hl h1 h2 h3)
    · exact hs.elim
  | ifCond cd off =>
    simp only [okI, Bool.and_eq_true] at hI
    obtain ⟨hI, hv⟩ := hI
    obtain rfl := beq_of hI
    simp only [stp] at hs
    split at hs
    · rename_i t
      simp only [decide_eq_true_eq] at hv
      split at hs
      · exact ac_if hx hb hk hd hv hs
      · exact hs.elim
    · exact hs.elim
  | if_icmp cd off =>
    simp only [okI, Bool.and_eq_true] at hI
    obtain ⟨hI, hv⟩ := hI
    obtain rfl := beq_of hI
    simp only [stp] at hs
    split at hs
    · rename_i t
      simp only [decide_eq_true_eq] at hv
      split at hs
      · exact ac_icmp hx hb hk hd hv hs
      · exact hs.elim
    · exact hs.elim
  | ifnull off =>
    simp only [okI, Bool.and_eq_true] at hI
    obtain ⟨hI, hv⟩ := hI
    obtain rfl := beq_of hI
    simp only [stp] at hs
    split at hs
    · rename_i t
      simp only [decide_eq_true_eq] at hv
      split at hs
      · intro H locs cells slots lsA hW hl h1 h2 h3
        exact lv_ifnullN hx hb hd hv (hk _ _ _ _ _ hs H locs cells slots lsA hW hl h1 h2 h3)
      · intro H locs cells slots lsA hW hl h1 h2 h3
        exact lv_ifnull hx hb hd (hk _ _ _ _ _ hs H locs cells slots lsA hW hl h1 h2 h3)
      · exact hs.elim
    · exact hs.elim
  | ifnonnull off =>
    simp only [okI, Bool.and_eq_true] at hI
    obtain ⟨hI, hv⟩ := hI
    obtain rfl := beq_of hI
    simp only [stp] at hs
    split at hs
    · rename_i t
      simp only [decide_eq_true_eq] at hv
      split at hs
      · intro H locs cells slots lsA hW hl h1 h2 h3
        exact lv_ifnonnullN hx hb hd (hk _ _ _ _ _ hs H locs cells slots lsA hW hl h1 h2 h3)
      · intro H locs cells slots lsA hW hl h1 h2 h3
        exact lv_ifnonnull hx hb hd hv (hk _ _ _ _ _ hs H locs cells slots lsA hW hl h1 h2 h3)
      · exact hs.elim
    · exact hs.elim
  | tableswitch d lo hi offs =>
    simp only [stp] at hs
    split at hs
    · rename_i dt l0 ts
      simp only [okI, Bool.and_eq_true, decide_eq_true_eq] at hI
      obtain ⟨⟨⟨⟨q1, q2⟩, q3⟩, q4⟩, q5⟩ := hI
      split at hs
      · exact ac_sw hx hb hk hd q1 q2 q3 q4 (blt_of q5) hs
      · exact hs.elim
    · exact hs.elim
  | getfield idx =>
    simp only [okI, Bool.and_eq_true] at hI
    obtain ⟨hI, hv⟩ := hI
    obtain rfl := beq_of hI
    simp only [stp] at hs
    split at hs
    · simp only at hv
      exact ac_stg hx hb hown hts hK hk hd hv hs
    · rename_i ci j so pl z
      simp only at hv
      split at hv
      · rename_i o n d r hfld
        simp only [Bool.and_eq_true] at hv
        obtain ⟨q1, q2⟩ := hv
        unfold stgc at hs
        split at hs
        · rename_i a9 r9
          obtain ⟨hco, hs⟩ := hs
          intro H locs cells slots lsA hW hl h1 h2 h3
          have hOF := hCF.2.2.1 ci j o n d r hfld a9 hco
          refine vk_getf hx hb hOF hW.2.2.1 hown (hts _ (tbG_at q1)) (fun _ h9 => h9) hd ?_
          cases r with
          | true =>
            obtain rfl := beq_of q2
            exact one (d := 3) hs rfl H locs cells slots lsA hW hl h1 h2 h3
          | false =>
            obtain rfl := beq_of q2
            exact one (d := 3) hs rfl H locs cells slots lsA hW hl h1 h2 h3
        · exact hs.elim
      · cases hv
    · exact hs.elim
  | putfield idx =>
    simp only [okI, Bool.and_eq_true] at hI
    obtain ⟨hI, hv⟩ := hI
    obtain rfl := beq_of hI
    simp only [stp] at hs
    split at hs
    · simp only [Bool.and_eq_true] at hv
      exact ac_put hx hb hown hts hK hk hd hv.1 hv.2 hs
    · exact hs.elim
  | iaload =>
    simp only [okI, Bool.and_eq_true] at hI
    obtain ⟨hI, hv⟩ := hI
    obtain rfl := beq_of hI
    simp only [stp] at hs
    split at hv
    · exact ac_sta hx hb hK hk (q := 0) hd (by decide) hs
    · exact ac_stac hC0 hk (t := 0) hd (Or.inl rfl) hs
    · exact ac_stac hC0 hk (t := 6) hd (Or.inr (Or.inr (Or.inr (Or.inr ⟨rfl, beq_of hv⟩)))) hs
    · cases hv
  | baload =>
    simp only [okI, Bool.and_eq_true] at hI
    obtain ⟨hI, hv⟩ := hI
    obtain rfl := beq_of hI
    simp only [stp] at hs
    split at hv
    · exact ac_sta hx hb hK hk (q := 1) hd (by decide) hs
    · exact ac_stac hC0 hk (t := 1) hd (Or.inr (Or.inl rfl)) hs
    · cases hv
  | laload =>
    obtain rfl := beq_of hI
    exact ac_sta hx hb hK hk (q := 2) hd (by decide) hs
  | daload =>
    obtain rfl := beq_of hI
    exact ac_sta hx hb hK hk (q := 3) hd (by decide) hs
  | aaload =>
    simp only [okI, Bool.and_eq_true] at hI
    obtain ⟨hI, hv⟩ := hI
    obtain rfl := beq_of hI
    simp only [stp] at hs
    split at hs
    · rename_i q
      simp only [Bool.or_eq_true] at hv
      rcases hv with hv | hv <;> obtain rfl := beq_of hv
      · exact ac_sta hx hb hK hk (q := 4) hd (by decide) hs
      · exact ac_sta hx hb hK hk (q := 5) hd (by decide) hs
    · rename_i q t
      simp only [Bool.or_eq_true] at hv
      rcases hv with hv | hv <;> obtain rfl := beq_of hv
      · exact ac_stac hC0 hk (t := 4) hd (Or.inr (Or.inr (Or.inl rfl))) hs
      · exact ac_stac hC0 hk (t := 5) hd (Or.inr (Or.inr (Or.inr (Or.inl rfl)))) hs
    · exact hs.elim
  | aastore =>
    obtain rfl := beq_of hI
    simp only [stp] at hs
    split at hs
    · split at hs
      · rename_i n hn
        exact ac_aast hC0 hk hd hn hs.1 hs.2.1 hs.2.2
      · exact hs.elim
    · exact hs.elim
  | getstatic idx =>
    simp only [okI, Bool.and_eq_true] at hI
    obtain ⟨hI, hv⟩ := hI
    obtain rfl := beq_of hI
    simp only [stp] at hs
    split at hv
    · rename_i i0 p0
      simp only at hs
      split at hv
      · rename_i C9 n9 d9 hst9
        simp only [Bool.and_eq_true] at hv
        intro H locs cells slots lsA hW hl h1 h2 h3
        have hZ := hCF.2.2.2.2.2.1 i0 C9 n9 d9 hst9
        have hi0 : i0 ≠ 0 := by
          intro z
          have h5 := hv.1
          rw [z] at h5
          cases h5
        have hv9 : cSv ad i0 = .ref (ad i0) := by
          unfold cSv
          split
          · exact absurd rfl hi0
          · rfl
        rw [hv9] at hZ
        exact va_gets hx hb hZ hW.2.2.1 hown (hts _ (tbG_at hv.2)) (fun _ h9 => h9) hd (one (d := 3) hs rfl H locs cells slots lsA hW hl h1 h2 h3)
      · cases hv
    · rename_i z0 p0
      simp only at hs
      intro H locs cells slots lsA hW hl h1 h2 h3
      have hZ := hCF.2.2.2.2.2.1 0 _ _ _ rfl
      exact va_gets hx hb hZ hW.2.2.1 hown (hts _ (tbG_at hv)) (fun _ h9 => h9) hd (one (d := 3) hs rfl H locs cells slots lsA hW hl h1 h2 h3)
    · rename_i z0 p0
      simp only at hs
      intro H locs cells slots lsA hW hl h1 h2 h3
      rcases hCF.2.2.2.2.2.2 with hZ | hZ
      · exact va_gets hx hb hZ hW.2.2.1 hown (hts _ (tbG_at hv)) (fun _ h9 => h9) hd (one (d := 3) hs.1 rfl H locs cells slots lsA hW hl h1 h2 h3)
      · exact va_gets hx hb hZ hW.2.2.1 hown (hts _ (tbG_at hv)) (fun _ h9 => h9) hd (one (d := 3) hs.2 rfl H locs cells slots lsA hW hl h1 h2 h3)
    · cases hv
  | if_acmp cd off =>
    simp only [okI, Bool.and_eq_true] at hI
    obtain ⟨hI, hv⟩ := hI
    obtain rfl := beq_of hI
    simp only [stp] at hs
    split at hs
    · rename_i t
      simp only [decide_eq_true_eq] at hv
      split at hs
      · rename_i y x r
        obtain ⟨⟨c1, c2⟩, hs⟩ := hs
        intro H locs cells slots lsA hW hl h1 h2 h3
        have inj : (some (ad x) = some (ad y)) → x = y := fun q => c_inj hCF c1 c2 (Option.some.inj q)
        cases cd with
        | eq => exact lv_acmp_eq (rx := some (ad x)) (ry := some (ad y)) hx hb hd hv (fun q => hk _ _ _ _ _ (hs.1 (inj q)) H locs cells slots lsA hW hl h1 h2 h3) (fun q => hk _ _ _ _ _ (hs.2 (fun z => q (by rw [z]))) H locs cells slots lsA hW hl h1 h2 h3)
        | ne => exact lv_acmp_ne (rx := some (ad x)) (ry := some (ad y)) hx hb hd hv (fun q => hk _ _ _ _ _ (hs.1 (fun z => q (by rw [z]))) H locs cells slots lsA hW hl h1 h2 h3) (fun q => hk _ _ _ _ _ (hs.2 (inj q)) H locs cells slots lsA hW hl h1 h2 h3)
      · exact hs.elim
    · exact hs.elim
  | fcmp op =>
    obtain rfl := beq_of hI
    simp only [stp] at hs
    split at hs
    · intro H locs cells slots lsA hW hl h1 h2 h3
      exact lv_fcmp hx hb hd (one (d := 1) hs rfl H locs cells slots lsA hW hl h1 h2 h3)
    · exact hs.elim
  | dcmp op =>
    obtain rfl := beq_of hI
    simp only [stp] at hs
    split at hs
    · intro H locs cells slots lsA hW hl h1 h2 h3
      exact lv_dcmp hx hb hd (one (d := 1) hs rfl H locs cells slots lsA hW hl h1 h2 h3)
    · exact hs.elim
  | i2c =>
    obtain rfl := beq_of hI
    simp only [stp] at hs
    split at hs
    · intro H locs cells slots lsA hW hl h1 h2 h3
      exact lv_i2c hx hb hd rfl (one (d := 1) hs rfl H locs cells slots lsA hW hl h1 h2 h3)
    · exact hs.elim
  | iastore =>
    obtain rfl := beq_of hI
    exact ac_stq hx hb hK hk (q := 0) hd hs
  | bastore =>
    obtain rfl := beq_of hI
    exact ac_stq hx hb hK hk (q := 1) hd hs
  | lastore =>
    obtain rfl := beq_of hI
    exact ac_stq hx hb hK hk (q := 2) hd hs
  | dastore =>
    obtain rfl := beq_of hI
    exact ac_stq hx hb hK hk (q := 3) hd hs
  | arraylength =>
    simp only [okI, Bool.and_eq_true] at hI
    obtain ⟨hI, hv⟩ := hI
    obtain rfl := beq_of hI
    simp only [stp] at hs
    split at hv
    · simp only at hs
      split at hs
      · split at hs
        · rename_i n hn
          exact ac_alen hx hb hK hk hd hn hs
        · exact hs.elim
      · exact hs.elim
    · exact ac_stln hC0 hk (t := 6) hd (Or.inr (Or.inr (Or.inr (Or.inr ⟨rfl, beq_of hv⟩)))) hs
    · rename_i t _
      simp only [Bool.or_eq_true] at hv
      refine ac_stln hC0 hk (t := t) hd ?_ hs
      rcases hv with ((hv | hv) | hv) | hv
      · exact Or.inl (beq_of hv)
      · exact Or.inr (Or.inl (beq_of hv))
      · exact Or.inr (Or.inr (Or.inl (beq_of hv)))
      · exact Or.inr (Or.inr (Or.inr (Or.inl (beq_of hv))))
    · cases hv
  | return_ =>
    simp only [okI, Bool.and_eq_true, decide_eq_true_eq] at hI
    obtain ⟨hI, hr⟩ := hI
    obtain rfl := beq_of hI
    exact ac_str hC0 (rt := 0) hd (fun v hv => ⟨hv, hr⟩) hs
  | ireturn =>
    simp only [okI, Bool.and_eq_true] at hI
    obtain ⟨hI, hr⟩ := hI
    obtain rfl := beq_of hI
    simp only [stp] at hs
    split at hr
    · simp only [decide_eq_true_eq] at hr
      exact ac_str hC0 (rt := 1) hd (fun v hv => by obtain ⟨x, rfl⟩ := hv; exact ⟨x, .int, rfl, hr, rfl⟩) hs
    · simp only [decide_eq_true_eq] at hr
      exact ac_str hC0 (rt := 6) hd (fun v hv => by
        obtain ⟨x, rfl, hB⟩ := hv
        refine ⟨x, .boolean, rfl, hr, ?_⟩
        rcases hB with rfl | rfl <;> rfl) hs
    · simp only [decide_eq_true_eq] at hr
      exact ac_str hC0 (rt := 7) hd (fun v hv => by obtain ⟨x, rfl, hn⟩ := hv; exact ⟨x, .byte, rfl, hr, hn⟩) hs
    · simp only [decide_eq_true_eq] at hr
      exact ac_str hC0 (rt := 8) hd (fun v hv => by obtain ⟨x, rfl, hn⟩ := hv; exact ⟨x, .char, rfl, hr, hn⟩) hs
    · cases hr
  | lreturn =>
    simp only [okI, Bool.and_eq_true, decide_eq_true_eq] at hI
    obtain ⟨hI, hr⟩ := hI
    obtain rfl := beq_of hI
    exact ac_str hC0 (rt := 2) hd (fun v hv => by obtain ⟨x, rfl⟩ := hv; exact ⟨x, rfl, hr⟩) hs
  | freturn =>
    simp only [okI, Bool.and_eq_true, decide_eq_true_eq] at hI
    obtain ⟨hI, hr⟩ := hI
    obtain rfl := beq_of hI
    exact ac_str hC0 (rt := 3) hd (fun v hv => by obtain ⟨x, rfl⟩ := hv; exact ⟨x, rfl, hr⟩) hs
  | dreturn =>
    simp only [okI, Bool.and_eq_true, decide_eq_true_eq] at hI
    obtain ⟨hI, hr⟩ := hI
    obtain rfl := beq_of hI
    exact ac_str hC0 (rt := 4) hd (fun v hv => by obtain ⟨x, rfl⟩ := hv; exact ⟨x, rfl, hr⟩) hs
  | areturn =>
    simp only [okI, Bool.and_eq_true] at hI
    obtain ⟨hI, hr⟩ := hI
    obtain rfl := beq_of hI
    split at hr
    · rename_i nm hret
      exact ac_str hC0 (rt := 5) hd (fun v hv => ⟨Or.inl ⟨nm, hret⟩, hv⟩) hs
    · cases hr
  | new ik =>
    simp only [stp] at hs
    split at hs
    · rename_i x axr
      obtain ⟨h8, hcap, hq⟩ := cat8_of hs
      simp only [okI, Bool.and_eq_true] at hI
      obtain ⟨hI, hv⟩ := hI
      obtain rfl := beq_of hI
      split at hv
      · rename_i x' ic p1 p2 hax
        cases hax
        simp only [Bool.and_eq_true, decide_eq_true_eq] at hv
        obtain ⟨⟨⟨⟨⟨⟨⟨f1, f2⟩, f3⟩, q1⟩, q2⟩, q3⟩, q4⟩, q5⟩ := hv
        exact ac_new hC0 (ik := ik) (ic := ic) (x := x) ⟨hd, q1, q2, q3, Nat.le_of_ble_eq_true f1, Nat.le_of_ble_eq_true f2, blt_of f3, exI (blt_of f3), tbG_at q4, tbG_at q5⟩ h8 hcap hq
      · cases hv
    · exact hs.elim
  | invokevirtual idx =>
    simp only [okI, Bool.and_eq_true] at hI
    obtain ⟨hI, hv⟩ := hI
    obtain rfl := beq_of hI
    simp only [stp] at hs
    split at hv
    · rename_i n rt rc mcv p' hs' M'
      simp only [Bool.and_eq_true] at hv
      obtain ⟨⟨⟨⟨q1, q2⟩, q3⟩, q4⟩, q5⟩ := hv
      refine ac_stc hC0 ha hk (kind := 0) (hms M' (by simp)) hd q1 q5 ⟨beq_of q2, tbG_at q3, ?_⟩ hs
      split at q4
      · rename_i C T N hc
        exact ⟨C, T, N, hc, of_decide_eq_true q4⟩
      · cases q4
    · rename_i n rt rc mcv p' hs' M'
      simp only [Bool.and_eq_true] at hv
      obtain ⟨⟨⟨⟨q1, q2⟩, q3⟩, q4⟩, q5⟩ := hv
      exact ac_stc hC0 ha hk (kind := 5) (hms M' (by simp)) hd q1 q5 ⟨beq_of q2, tbG_at q3, of_decide_eq_true q4⟩ hs
    · simp only [Bool.and_eq_true] at hv
      simp only [stb] at hs
      split at hs
      · exact ac_ord hC0 hk (Or.inl rfl) hd hv.2 (tbG_at hv.1) hs.1 hs.2
      · exact hs.elim
    · cases hv
  | invokestatic idx =>
    simp only [okI, Bool.and_eq_true] at hI
    obtain ⟨hI, hv⟩ := hI
    obtain rfl := beq_of hI
    simp only [stp] at hs
    split at hv
    · rename_i kind n rt z mcv p' hs' M'
      simp only at hs
      simp only [Bool.and_eq_true] at hv
      obtain ⟨⟨q1, q2⟩, q3⟩ := hv
      split at q2
      · simp only [Bool.and_eq_true] at q2
        exact ac_stc hC0 ha hk (kind := 1) (hms M' (by simp)) hd q1 q3 ⟨beq_of q2.1, tbG_at q2.2⟩ hs
      · simp only [Bool.and_eq_true] at q2
        exact ac_stc hC0 ha hk (kind := 3) (hms M' (by simp)) hd q1 q3 ⟨beq_of q2.1, tbG_at q2.2⟩ hs
      · simp only [Bool.and_eq_true] at q2
        refine ac_stc hC0 ha hk (kind := 2) (hms M' (by simp)) hd q1 q3 ⟨beq_of q2.1, ?_⟩ hs
        have q4 := q2.2
        split at q4
        · rename_i w hw
          rw [← of_decide_eq_true q4]
          exact List.mem_of_getElem? hw
        · cases q4
      · cases q2
    · simp only [Bool.and_eq_true] at hv
      exact ac_stb hC0 hk (kind := 10) (by decide) hd hv.2 (tbG_at hv.1) hs
    · simp only [Bool.and_eq_true] at hv
      exact ac_stb hC0 hk (kind := 11) (by decide) hd hv.2 (tbG_at hv.1) hs
    · simp only [Bool.and_eq_true] at hv
      exact ac_stb hC0 hk (kind := 12) (by decide) hd hv.2 (tbG_at hv.1) hs
    · simp only [Bool.and_eq_true] at hv
      exact ac_stb hC0 hk (kind := 13) (by decide) hd hv.2 (tbG_at hv.1) hs
    · simp only [Bool.and_eq_true] at hv
      exact ac_stb hC0 hk (kind := 15) (by decide) hd hv.2 (tbG_at hv.1) hs
    · simp only [Bool.and_eq_true] at hv
      exact ac_stb hC0 hk (kind := 16) (by decide) hd hv.2 (tbG_at hv.1) hs
    · cases hv
  | _ => exact hs.elim
end
end
section
/-! ===== 'At' step by step; a method's contract out of its entry; what goes on behind a call ===== -/
theorem at_step {M : MI} {Q : Res → PH → Prop} {k : KT} {en : En} {c : Nat} {ls : Lc} {st : List Value} {h : PH} (hE : okE M en = true) (hms : ∀ M' ∈ en.2.2.2.2, MOK M') (hk : ∀ pc c ls st h, k pc c ls st h → At M Q pc c ls st h) (hs : stp MetPM M Q (At M Q) k en c ls st h) : At M Q en.1 c ls st h := by
  intro Z p l e R s m args below meth cc ad cA D A xs L hC
  exact stp_atC hC (fun pc c ls st h h9 => h9 Z p l e R s m args below meth cc ad cA D A xs L hC) (fun pc c ls st h h9 => hk pc c ls st h h9 Z p l e R s m args below meth cc ad cA D A xs L hC) hE hms hs
/-- a method's code, in blocks of rows by place / 16 -/
abbrev Cd : Type := List (List En)
def lkE (C : Cd) (pc : Nat) : Option En := (C.getD (pc / 16) []).find? (fun e => Nat.beq e.1 pc)
def okC (M : MI) (C : Cd) : Bool := C.all (fun b => b.all (fun e => okE M e))
def msC (C : Cd) : List MI := C.flatMap (fun b => b.flatMap (fun e => e.2.2.2.2))
theorem lkE_mem {C : Cd} {pc : Nat} {e : En} (h : lkE C pc = some e) : (∃ b ∈ C, e ∈ b) ∧ e.1 = pc := by
  unfold lkE at h
  refine ⟨?_, Nat.eq_of_beq_eq_true (List.find?_some (p := fun e : En => Nat.beq e.1 pc) h)⟩
  have hm := List.mem_of_find?_eq_some h
  rcases Nat.lt_or_ge (pc / 16) C.length with q | q
  · refine ⟨C[pc / 16], List.getElem_mem q, ?_⟩
    rw [List.getD_eq_getElem?_getD, List.getElem?_eq_getElem q] at hm
    exact hm
  · rw [List.getD_eq_getElem?_getD, List.getElem?_eq_none q] at hm
    cases hm
/-- the code is M's, and the tables know what it calls -/
def CdOk (M : MI) (C : Cd) : Prop := okC M C = true ∧ ∀ M' ∈ msC C, MOK M'
/-- n steps, or up to a place where to stop -/
def vc (C : Cd) (M : MI) (Q : Res → PH → Prop) (stops : List Nat) : Nat → KT
  | 0 => At M Q
  | n + 1 => fun pc c ls st h => match stops.elem pc with
    | true => At M Q pc c ls st h
    | false => match lkE C pc with
      | some e => stp MetPM M Q (At M Q) (vc C M Q stops n) e c ls st h
      | none => False
theorem step_of {C : Cd} {M : MI} (hC : CdOk M C) {Q : Res → PH → Prop} {k : KT} (hk : ∀ pc c ls st h, k pc c ls st h → At M Q pc c ls st h) {pc c : Nat} {ls : Lc} {st : List Value} {h : PH} {e : En} (he : lkE C pc = some e) (hs : stp MetPM M Q (At M Q) k e c ls st h) : At M Q pc c ls st h := by
  obtain ⟨⟨b, hb, heb⟩, hpc⟩ := lkE_mem he
  have h1 := List.all_eq_true.mp (List.all_eq_true.mp hC.1 b hb) e heb
  have h2 : ∀ M' ∈ e.2.2.2.2, MOK M' := fun M' hm => hC.2 M' (List.mem_flatMap.mpr ⟨b, hb, List.mem_flatMap.mpr ⟨e, heb, hm⟩⟩)
  rw [← hpc]
  exact at_step h1 h2 hk hs
theorem vc_ok {C : Cd} {M : MI} (hC : CdOk M C) {Q : Res → PH → Prop} {stops : List Nat} : ∀ (n pc c : Nat) (ls : Lc) (st : List Value) (h : PH), vc C M Q stops n pc c ls st h → At M Q pc c ls st h := by
  intro n
  induction n with
  | zero => intro pc c ls st h h9; exact h9
  | succ n ih =>
    intro pc c ls st h h9
    unfold vc at h9
    split at h9
    · exact h9
    · split at h9
      · rename_i e he
        exact step_of hC ih he h9
      · exact h9.elim
/-- from a stop on: the first step is taken -/
def vg (C : Cd) (M : MI) (Q : Res → PH → Prop) (stops : List Nat) (n : Nat) : KT := fun pc c ls st h => match lkE C pc with
  | some e => stp MetPM M Q (At M Q) (vc C M Q stops n) e c ls st h
  | none => False
theorem vg_ok {C : Cd} {M : MI} (hC : CdOk M C) {Q : Res → PH → Prop} {stops : List Nat} (n pc c : Nat) (ls : Lc) (st : List Value) (h : PH) (h9 : vg C M Q stops n pc c ls st h) : At M Q pc c ls st h := by
  unfold vg at h9
  split at h9
  · rename_i e he
    exact step_of hC (vc_ok hC n) he h9
  · exact h9.elim
/-- the locals at a method's entry -/
def ent : List Value → Lc
  | [] => []
  | v :: r => match v.category with
    | 2 => some v :: none :: ent r
    | _ => some v :: ent r
def entL (n : Nat) (as : List Value) : Lc := ent as ++ List.replicate (n - (ent as).length) none
end
section
/-! ===== a method's contract out of its entry ===== -/
def exNames : List String := ["java/lang/RuntimeException", "java/lang/Exception"]
/-- the words of a throw: each good one at its place of the tables, the others among XW -/
def exL (X : String) : List Jvm.Cond := (Bundle.throwableAtoms ++ Bundle.chain0Atoms X exNames) ++ (Bundle.ownAtoms0 "" 0 X exNames).drop 40
def thW (X : String) (ps : List Nat) : Bool := Nat.beq (exL X).length ps.length && ((exL X).zip ps).all (fun q => !vx_no q.1 || atW q.2 q.1 || XW.elem q.1)
theorem thW_0 : thW (exN 0) [29, 643, 652, 656, 659, 661, 644, 645, 44, 45, 646, 651, 657, 673, 633, 674, 635, 675, 637, 647, 0, 649, 0, 639, 1331, 1332, 1333, 666, 624, 666, 667, 668, 669, 626, 669, 670, 671, 644, 628, 1322, 1323, 1324, 654, 1325, 1326, 1327, 1328, 0, 0, 642, 641, 1329] = true := by decide +kernel
theorem thW_1 : thW (exN 1) [29, 643, 652, 656, 659, 661, 644, 645, 44, 45, 646, 651, 657, 673, 633, 674, 635, 675, 637, 647, 0, 649, 0, 639, 663, 664, 665, 666, 624, 666, 667, 668, 669, 626, 669, 670, 671, 644, 628, 622, 623, 630, 631, 632, 634, 636, 638, 0, 0, 642, 641, 640] = true := by decide +kernel
theorem thW_2 : thW (exN 2) [29, 643, 652, 656, 659, 661, 644, 645, 44, 45, 646, 651, 657, 673, 633, 674, 635, 675, 637, 647, 0, 649, 0, 639, 1402, 1403, 1404, 666, 624, 666, 667, 668, 669, 626, 669, 670, 671, 644, 628, 1393, 1394, 1395, 655, 1396, 1397, 1398, 1399, 0, 0, 642, 641, 1400] = true := by decide +kernel
theorem thW_of {X : String} {ps : List Nat} (h : thW X ps = true) {w : Jvm.Cond} (hw : w ∈ exL X) (hno : vx_no w = true) : w ∈ tbG ∨ w ∈ XW := by
  simp only [thW, Bool.and_eq_true] at h
  obtain ⟨h1, h2⟩ := h
  have h1 := Nat.eq_of_beq_eq_true h1
  obtain ⟨i, hi⟩ := List.getElem?_of_mem hw
  have hil : i < ps.length := by rw [← h1]; exact (List.getElem?_eq_some_iff.mp hi).1
  have h3 : ((exL X).zip ps)[i]? = some (w, ps[i]) := by
    rw [List.getElem?_zip_eq_some]
    exact ⟨hi, List.getElem?_eq_getElem hil⟩
  have h4 := List.all_eq_true.mp h2 _ (List.mem_of_getElem? h3)
  simp only [Bool.or_eq_true] at h4
  rcases h4 with (h4 | h4) | h4
  · rw [hno] at h4; cases h4
  · exact Or.inl (tbG_at h4)
  · exact Or.inr (List.elem_iff.mp h4)
theorem own_of {own X : String} {ic : Nat} {w : Jvm.Cond} (h : w ∈ Bundle.ownAtoms0 own ic X exNames) : w = .methodLink own ic (Bundle.init0 X) ∨ w ∈ exL X := by
  unfold Bundle.ownAtoms0 at h
  unfold exL
  rcases List.mem_append.mp h with h | h
  · exact Or.inr (List.mem_append_left _ h)
  · rcases List.mem_cons.mp h with h | h
    · exact Or.inl h
    · refine Or.inr (List.mem_append_right _ ?_)
      have e : (Bundle.ownAtoms0 "" 0 X exNames).drop 40 = _ := rfl
      rw [e]
      exact h
theorem th_words {own : String} {ic x : Nat} (hx : x < 3) {w : Jvm.Cond} (hw : w ∈ vx_at0 own ic (exN x) exNames) (hml : Cond.methodLink own ic (Bundle.init0 (exN x)) ∈ tbG) : w ∈ tbG ∨ w ∈ XW := by
  obtain ⟨h1, h2⟩ := List.mem_filter.mp hw
  rcases own_of h1 with h3 | h3
  · rw [h3]; exact Or.inl hml
  · match x, hx with
    | 0, _ => exact thW_of thW_0 h3 h2
    | 1, _ => exact thW_of thW_1 h3 h2
    | 2, _ => exact thW_of thW_2 h3 h2
theorem XW_on : XW.all (fun w => w.onTables) = true := by decide +kernel
theorem ot_of {w : Jvm.Cond} (h : w ∈ tbG ∨ w ∈ XW) : vx_ot w = true := by
  unfold vx_ot
  rcases h with h | h
  · rw [(List.mem_filter.mp h).2, Bool.or_true]
  · rw [List.all_eq_true.mp XW_on w h, Bool.true_or]
theorem st_before {ad : Nat → Nat} {s : State} {args : Array Value} (hts : ∀ w ∈ tbG, w.before args s = true) (hx : xwOk ad s) {w : Jvm.Cond} (h : w ∈ tbG ∨ w ∈ XW) : w.before args s = true := by
  rcases h with h | h
  · exact hts w h
  · exact va_Nw.use (List.all_eq_true.mp XW_on w h) (hx.1 w h)
theorem fit_x (x : Nat) : Bundle.fit (exN x) = true := by
  match x with
  | 0 => decide +kernel
  | 1 => decide +kernel
  | x + 2 =>
    show Bundle.fit "java/lang/IndexOutOfBoundsException" = true
    decide +kernel
theorem fit_n : ∀ n ∈ exNames, Bundle.fit n = true := by decide +kernel
theorem ent_lv (ad : Nat → Nat) : ∀ (as : List Value), (ent as).length = (lg_sl (as.map (tr ad))).length ∧ ∀ (i0 : Nat) (q : Nat × Value), (∃ v, (ent as).getD (q.1 - i0) none = some v ∧ i0 ≤ q.1 ∧ q.2 = tr ad v) → q ∈ lv_args i0 (as.map (tr ad)) := by
  intro as
  induction as with
  | nil => exact ⟨rfl, fun i0 q ⟨v, h, _⟩ => by simp [ent] at h⟩
  | cons v r ih =>
    obtain ⟨ih1, ih2⟩ := ih
    have hc : v.category = 1 ∨ v.category = 2 := lv_cat v
    rcases hc with hc | hc
    · have e : ent (v :: r) = some v :: ent r := by
        cases v <;> first | rfl | cases hc
      refine ⟨?_, ?_⟩
      · rw [e]
        simp only [lg_sl, List.map_cons, List.flatMap_cons, tr_cat, hc]
        simp [ih1, lg_sl]
      · intro i0 q ⟨u, h1, h2, h3⟩
        rw [e] at h1
        simp only [List.map_cons, lv_args, tr_cat, hc]
        by_cases h4 : q.1 = i0
        · rw [h4, Nat.sub_self] at h1
          simp at h1
          subst h1
          have : q = (i0, tr ad v) := by rw [← h4, ← h3]
          rw [this]
          exact List.mem_cons_self
        · refine List.mem_cons_of_mem _ (ih2 (i0 + 1) q ⟨u, ?_, by omega, h3⟩)
          have : q.1 - i0 = (q.1 - (i0 + 1)) + 1 := by omega
          rw [this] at h1
          simpa using h1
    · have e : ent (v :: r) = some v :: none :: ent r := by
        cases v <;> first | rfl | cases hc
      refine ⟨?_, ?_⟩
      · rw [e]
        simp only [lg_sl, List.map_cons, List.flatMap_cons, tr_cat, hc]
        simp [ih1, lg_sl]
      · intro i0 q ⟨u, h1, h2, h3⟩
        rw [e] at h1
        simp only [List.map_cons, lv_args, tr_cat, hc]
        by_cases h4 : q.1 = i0
        · rw [h4, Nat.sub_self] at h1
          simp at h1
          subst h1
          have : q = (i0, tr ad v) := by rw [← h4, ← h3]
          rw [this]
          exact List.mem_cons_self
        · by_cases h5 : q.1 = i0 + 1
          · have : q.1 - i0 = 0 + 1 := by omega
            rw [this] at h1
            simp at h1
          · refine List.mem_cons_of_mem _ (ih2 (i0 + 2) q ⟨u, ?_, by omega, h3⟩)
            have : q.1 - i0 = (q.1 - (i0 + 2)) + 1 + 1 := by omega
            rw [this] at h1
            simpa using h1
theorem getD_app {l : Lc} {n i : Nat} {v : Value} (h : (l ++ List.replicate n none).getD i none = some v) : l.getD i none = some v := by
  rcases Nat.lt_or_ge i l.length with q | q
  · rw [List.getD_eq_getElem?_getD, List.getElem?_append_left q] at h
    rw [List.getD_eq_getElem?_getD]; exact h
  · exfalso
    rw [List.getD_eq_getElem?_getD, List.getElem?_append_right q, List.getElem?_replicate] at h
    split at h <;> cases h
set_option maxHeartbeats 1000000 in
theorem met_of {M : MI} {as : List Value} {h : PH} {Q : Res → PH → Prop} (hM : MOK M) (hfr : (ent as).length ≤ M.nl) (hQ : M.hh ≠ [] → ∀ x h, ¬ Q (.inr x) h) (hat : At M Q 0 0 (entL M.nl as) [] h) : MetPM M as h Q := by
  intro l ad cA D xs L sz hst
  have body : ∀ (p : Program) (e : Env) (s : State) (m : MethodId) (args : Array Value) (below : List Frame) (meth : Method) (c : Code) (s₁ : State), BodyLoose p l M.y (headSpec (wsM M) (rmM M)) M.b M.nl M.ret e s m args below meth c s₁ → c.maxLocals = M.nl → c.exceptionTable.toList = tableOf M.hh → va_Pc (as.map (tr ad)) (PcM ad cA D xs L sz h) args s →
      W p l e (headSpec (wsM M) (rmM M)).room s m args below meth c s.heap [] 0 0 (vx_MQ below (QcM ad cA D xs L sz Q) (XcM ad cA D xs L sz Q) args s M.cap (6 * M.cap) (adA ad sz)) (entryFrame m args M.nl) := by
    intro p e s m args below meth c s₁ B hml htab hv
    obtain ⟨rfl, hsz, hP, hK, hD0, hscr, hCF, hxw⟩ := hv
    subst hsz
    have hts0 := atoms_spec (ws := wsM M) B.pre
    have hts : ∀ w ∈ tbG, w.before (as.map (tr ad)).toArray s = true := fun w hw => hts0 w (List.mem_cons_of_mem _ hw)
    have hown : s.vm.findClass M.y.cls = some m.cls := findClass_of_methodNamed B.named
    have hlocks := B.notSynchronized
    have hD : va_D (adA ad s.heap.size) (wd ad cA h) := wd_ad hD0 (fun a ha => Or.inl ⟨a, ha, rfl⟩)
    have hlv := lv_entry (as.map (tr ad)) (n := M.nl) (by rw [← (ent_lv ad as).1]; exact hfr)
    rw [lg_entry_eq]
    refine hat _ p l e _ s m _ below meth c ad cA D (adA ad s.heap.size) xs L ?_ s.heap [] 0 0 _ ⟨hP, hD, va_S.rf, hscr⟩ (lv_mono hlv ?_) (Nat.le_refl 0) (Nat.zero_le _) (Nat.zero_le _)
    · refine ⟨⟨B.exec, B.bytes, hml, hown, hts⟩, hK, fun q hq => Or.inr hq, hCF, hxw, (fun h3 => by have h4 := hM.2.2.2; rw [h3] at h4; exact h4.elim), hst, ⟨Nat.le_refl _, Nat.le_refl _, Nat.le_refl _, Nat.le_refl _⟩, htab, ?_, ?_, ?_⟩
      · intro v h' H locs cells slots pc i ls hd hr hq hW hc hs
        refine W.widen (k := M.cap) (n := 6 * M.cap) hc hs ?_
        refine vx_ret ?_
        have hqc : ∀ t : State, t.heap = H → s.WarmedH t.vm → QcM ad cA D xs L s.heap.size Q (as.map (tr ad)).toArray s (.returned (v.map (tr ad))) t := fun t ht _ => ⟨⟨v, h', rfl, hq, by rw [ht]; exact hW.1, hW.2.1, hW.2.2.2⟩, hW.2.2.1.F ht⟩
        have hf := hW.2.2.1.2.2
        have hret := B.returns
        cases i <;> simp only [rtOk] at hr
        case return_ =>
          obtain ⟨rfl, hr⟩ := hr
          exact W.vret B.exec B.bytes (hret.trans hr) hqc hf hd
        case ireturn =>
          obtain ⟨x, ty, rfl, hr, hn⟩ := hr
          exact W.zret B.exec B.bytes (hret.trans hr) hn hqc hf hd
        case lreturn =>
          obtain ⟨x, rfl, hr⟩ := hr
          exact W.lret B.exec B.bytes (hret.trans hr) hqc hf hd
        case freturn =>
          obtain ⟨x, rfl, hr⟩ := hr
          exact W.fret B.exec B.bytes (hret.trans hr) hqc hf hd
        case dreturn =>
          obtain ⟨x, rfl, hr⟩ := hr
          exact W.dret B.exec B.bytes (hret.trans hr) hqc hf hd
        case areturn =>
          obtain ⟨hty, hv⟩ := hr
          have hty2 : ∃ rt, M.ret = some rt ∧ ((∃ n, rt = .object n) ∨ ∃ t, rt = .array t) := by
            rcases hty with ⟨n, hn⟩ | ⟨t, hn⟩
            · exact ⟨_, hn, Or.inl ⟨n, rfl⟩⟩
            · exact ⟨_, hn, Or.inr ⟨t, rfl⟩⟩
          obtain ⟨rt, hr1, hr2⟩ := hty2
          rcases hv with rfl | ⟨a, rfl⟩
          · exact W.aret B.exec B.bytes (hret.trans hr1) hr2 (Or.inl rfl) hqc hf hd
          · exact W.aret B.exec B.bytes (hret.trans hr1) hr2 (Or.inr ⟨_, rfl⟩) hqc hf hd
      · intro x h' H locs cells slots pc ik ic ls rest hth hq hW hc hs hlsz h8
        obtain ⟨d0, d3, d4, d7, f1, f2, hx3, hini, hcl, hml9⟩ := hth
        have hhh : M.hh = [] := by
          by_cases q : M.hh = []
          · exact q
          · exact absurd hq (hQ q x h')
        have hall : ∀ w ∈ Cond.classLink M.y.cls ik (exN x) :: Cond.initialized (exN x) :: vx_at0 M.y.cls ic (exN x) exNames, w ∈ tbG ∨ w ∈ XW := by
          intro w hw
          rcases List.mem_cons.mp hw with rfl | hw
          · exact Or.inl hcl
          · rcases List.mem_cons.mp hw with rfl | hw
            · exact Or.inl hini
            · exact th_words hx3 hw hml9
        refine vx_throw0 (names := exNames) (ik := ik) (ic := ic) (cls := exN x) (A := adA ad s.heap.size) B.exec B.bytes hst hown (fit_x x) fit_n (hts _ hcl) (hts _ hini) (fun w hw => st_before hts hxw (hall w (List.mem_cons_of_mem _ (List.mem_cons_of_mem _ hw)))) (fun w hw => ot_of (hall w hw)) hCF.1.1 hCF.1.2 hW.2.2.1 (hlsz.trans hml.symm) d0 d3 d4 d7 ?_ ?_ ?_ ?_ ?_ hlocks ?_ hW.2.2.1.2.2 hc hs
        · rw [htab, hhh]
          intro z hz
          cases hz
        · show 2 + 3 < M.fr
          omega
        · show _ + (13 * (2 + 1) + 42) ≤ M.lo
          omega
        · exact hc
        · exact hs
        · intro t hvm hsz2 hk2
          refine ⟨⟨x, h', rfl, hq, ?_, hW.2.1, hW.2.2.2⟩, Nat.le_trans hW.2.2.1.1 hsz2, fun q h1 h2 => by rw [hk2 q (Nat.lt_of_lt_of_le h1 hW.2.2.1.1)]; exact hW.2.2.1.2.1 q h1 h2⟩
          exact hW.1.kept (fun k q hk => hk2 q.1 (hW.1 k q hk).lt)
      · intro x h' H locs cells slots pc ls rest q ce hq hW hc hs hce hcv hcl
        have hhh : M.hh = [] := by
          by_cases q : M.hh = []
          · exact q
          · exact absurd hq (hQ q x h')
        refine vx_out (E := exN x) ?_ hlocks hce hcv hcl (fun t ht _ => ⟨⟨x, h', rfl, hq, by rw [ht]; exact hW.1, hW.2.1, hW.2.2.2⟩, hW.2.2.1.F ht⟩) hW.2.2.1.2.2 hc hs
        rw [htab, hhh]
        intro z hz
        cases hz
    · intro q hq
      obtain ⟨v, hv, he⟩ := tl_mem.mp hq
      refine (ent_lv ad as).2 0 q ⟨v, getD_app hv, Nat.zero_le _, he⟩
  by_cases hhh : M.hh = []
  · refine vx_ofW (cc := M.b) (maxL := M.nl) (ret := M.ret) hM.2.2.1 (by unfold wsM headM; rw [hhh]) ?_
    intro p e s m args below meth c s₁ B hml ht hv
    refine body p e s m args below meth c s₁ B hml ?_ hv
    rw [hhh]
    cases hl9 : c.exceptionTable.toList with
    | nil => rfl
    | cons a r => exact (ht a (by rw [hl9]; exact List.mem_cons_self)).elim
  · have hhead : headM M = Cond.codeWith M.y M.b M.nl M.ret M.hh := by
      unfold headM
      split
      · rename_i h9; exact absurd h9 hhh
      · rfl
    refine vx_ofWH (cc := M.b) (maxL := M.nl) (ret := M.ret) (hh := M.hh) hM.2.2.1 (by unfold wsM; rw [hhead]) ?_
    intro p e s m args below meth c s₁ B hml hv
    refine body p e s m args below meth c s₁ B hml ?_ hv
    exact vx_table (x := M.y) B (atoms_spec (ws := wsM M) B.pre _ (by unfold wsM; rw [hhead]; exact List.mem_cons_self))
end
section
/-! ===== tables of the methods' code, 1 ===== -/
/-! ===== tables ===== -/
theorem tbG_atS {p : Nat} {w : Jvm.Cond} (h : (decide ((k2_sels lw_privs)[p]? = some w) && goodWord w) = true) : w ∈ tbG := by
  simp only [Bool.and_eq_true, decide_eq_true_eq] at h
  exact List.mem_filter.mpr ⟨List.mem_append_left _ (List.mem_of_getElem? h.1), h.2⟩
theorem MOKi {M : MI} (h1 : headM M ∈ tbG) (h2 : Cond.initialized M.y.cls ∈ tbG) (h3 : plainName M.y.cls = true) (h4 : M.sk = 0) (h5 : M.hh = []) (h6 : Cond.instanceMethod M.y ∈ tbG) (h7 : Cond.selects M.y.cls M.y M.y ∈ tbG) : MOK M := ⟨h1, h2, h3, by rw [h4]; exact ⟨h5, h6, h7⟩⟩
theorem MOKs {M : MI} (h1 : headM M ∈ tbG) (h2 : Cond.initialized M.y.cls ∈ tbG) (h3 : plainName M.y.cls = true) (h4 : M.sk = 1) (h5 : M.hh = []) (h6 : Cond.static M.y ∈ tbG) : MOK M := ⟨h1, h2, h3, by rw [h4]; exact ⟨h5, h6⟩⟩
theorem MOKh {M : MI} (h1 : headM M ∈ tbG) (h2 : Cond.initialized M.y.cls ∈ tbG) (h3 : plainName M.y.cls = true) (h4 : M.sk = 2) (h5 : M.hh ≠ []) (h6 : Cond.static M.y ∈ tbG) : MOK M := ⟨h1, h2, h3, by rw [h4]; exact ⟨h5, h6⟩⟩
def allM : List MI → Prop
  | [] => True
  | M :: r => MOK M ∧ allM r
theorem allM_of {l : List MI} (h : allM l) : ∀ M ∈ l, MOK M := by
  induction l with
  | nil => intro M hM; cases hM
  | cons a r ih =>
    intro M hM
    rcases List.mem_cons.mp hM with rfl | hM
    · exact h.1
    · exact ih h.2 M hM
def m_X10_append : MI := (yX10_append, cX10_append, 3, none, 0, 0, 0, [], 0)
def m_X11_feed : MI := (yX11_feed, cX11_feed, 6, some .int, 6, 89, 1, [], 0)
def m_X11_truncate : MI := (yX11_truncate, cX11_truncate, 2, some .int, 6, 89, 1, [], 0)
def m_X5_reset : MI := (yX5_reset, cX5_reset, 1, none, 0, 0, 0, [], 0)
def m_X8_reset : MI := (yX8_reset, cX8_reset, 1, none, 0, 0, 0, [], 0)
def m_X10_scanWord : MI := (yX10_scanWord, cX10_scanWord, 1, none, 0, 0, 0, [], 0)
def m_X10_scanNumber : MI := (yX10_scanNumber, cX10_scanNumber, 1, none, 0, 0, 0, [], 0)
def m_X10_advance : MI := (yX10_advance, cX10_advance, 2, none, 1, 20, 0, [], 0)
def m_X10_begin : MI := (yX10_begin, cX10_begin, 1, none, 2, 41, 0, [], 0)
def m_J0_coder_7d493 : MI := (yJ0_coder_7d493, cJ0_coder_7d493, 1, some .byte, 0, 0, 0, [], 0)
def m_J0_length_8abf5 : MI := (yJ0_length_8abf5, cJ0_length_8abf5, 1, some .int, 1, 20, 0, [], 0)
def m_J0_isLatin1_aae02 : MI := (yJ0_isLatin1_aae02, cJ0_isLatin1_aae02, 1, some .boolean, 0, 0, 0, [], 0)
def m_J3_checkIndex_8e157 : MI := (yJ3_checkIndex_8e157, cJ3_checkIndex_8e157, 3, some .int, 0, 0, 0, [], 1)
def m_J0_checkIndex_df160 : MI := (yJ0_checkIndex_df160, cJ0_checkIndex_df160, 2, none, 1, 22, 0, [], 1)
def m_J1_charAt_3b067 : MI := (yJ1_charAt_3b067, cJ1_charAt_3b067, 2, some .char, 2, 43, 0, [], 1)
def m_J2_length_9d52b : MI := (yJ2_length_9d52b, cJ2_length_9d52b, 1, some .int, 0, 0, 0, [], 1)
def m_J2_checkIndex_2214a : MI := (yJ2_checkIndex_2214a, cJ2_checkIndex_2214a, 2, none, 2, 43, 0, [], 1)
def m_J2_getChar_3b067 : MI := (yJ2_getChar_3b067, cJ2_getChar_3b067, 2, some .char, 0, 0, 0, [], 1)
def m_J2_charAt_3b067 : MI := (yJ2_charAt_3b067, cJ2_charAt_3b067, 2, some .char, 3, 64, 0, [], 1)
def m_J0_charAt_5068e : MI := (yJ0_charAt_5068e, cJ0_charAt_5068e, 2, some .char, 4, 85, 0, [], 0)
def m_X10_isWord : MI := (yX10_isWord, cX10_isWord, 5, some .boolean, 5, 106, 0, [], 0)
def m_X9_at : MI := (yX9_at, cX9_at, 5, some (.object "WaveUpgrade$Statement"), 6, 130, 0, [], 1)
def m_X10_fail : MI := (yX10_fail, cX10_fail, 2, some .boolean, 0, 0, 0, [], 0)
def m_X6_isFull : MI := (yX6_isFull, cX6_isFull, 1, some .boolean, 0, 0, 0, [], 0)
def m_X1_errorOfFirstWord : MI := (yX1_errorOfFirstWord, cX1_errorOfFirstWord, 2, some .int, 1, 60, 0, [], 0)
def m_X6_numberOf : MI := (yX6_numberOf, cX6_numberOf, 4, some .int, 0, 0, 0, [], 0)
def m_X10_takeNewName : MI := (yX10_takeNewName, cX10_takeNewName, 4, some .long, 2, 41, 0, [], 0)
def m_X10_takeNumber : MI := (yX10_takeNumber, cX10_takeNumber, 4, some .int, 2, 41, 0, [], 0)
def m_X6_add : MI := (yX6_add, cX6_add, 3, none, 0, 0, 0, [], 0)
def m_X5_addVersion : MI := (yX5_addVersion, cX5_addVersion, 6, none, 1, 22, 0, [], 0)
def m_X1_readVersion : MI := (yX1_readVersion, cX1_readVersion, 5, some .boolean, 3, 64, 0, [], 0)
def m_X10_findName : MI := (yX10_findName, cX10_findName, 3, some .int, 1, 23, 0, [], 0)
def m_X5_talkersOf : MI := (yX5_talkersOf, cX5_talkersOf, 2, some .int, 0, 0, 0, [], 0)
def m_X11_isIn : MI := (yX11_isIn, cX11_isIn, 2, some .boolean, 0, 0, 0, [], 1)
def m_X5_addTalk : MI := (yX5_addTalk, cX5_addTalk, 3, none, 0, 0, 0, [], 0)
theorem o_X10_append : MOK m_X10_append := MOKi (tbG_at (p := 1339) (by decide +kernel)) (tbG_at (p := 21) (by decide +kernel)) (by decide +kernel) rfl rfl (tbG_at (p := 1337) (by decide +kernel)) (tbG_at (p := 1338) (by decide +kernel))
theorem o_X11_feed : MOK m_X11_feed := MOKi (tbG_at (p := 1320) (by decide +kernel)) (tbG_at (p := 20) (by decide +kernel)) (by decide +kernel) rfl rfl (tbG_at (p := 1318) (by decide +kernel)) (tbG_at (p := 1319) (by decide +kernel))
theorem o_X11_truncate : MOK m_X11_truncate := MOKi (tbG_at (p := 1347) (by decide +kernel)) (tbG_at (p := 20) (by decide +kernel)) (by decide +kernel) rfl rfl (tbG_at (p := 1345) (by decide +kernel)) (tbG_at (p := 1346) (by decide +kernel))
theorem o_X5_reset : MOK m_X5_reset := MOKi (tbG_at (p := 112) (by decide +kernel)) (tbG_at (p := 23) (by decide +kernel)) (by decide +kernel) rfl rfl (tbG_at (p := 110) (by decide +kernel)) (tbG_at (p := 111) (by decide +kernel))
theorem o_X8_reset : MOK m_X8_reset := MOKi (tbG_at (p := 222) (by decide +kernel)) (tbG_at (p := 22) (by decide +kernel)) (by decide +kernel) rfl rfl (tbG_at (p := 220) (by decide +kernel)) (tbG_at (p := 221) (by decide +kernel))
theorem o_X10_scanWord : MOK m_X10_scanWord := MOKi (tbG_at (p := 415) (by decide +kernel)) (tbG_at (p := 21) (by decide +kernel)) (by decide +kernel) rfl rfl (tbG_at (p := 414) (by decide +kernel)) (tbG_atS (p := 0) (by decide +kernel))
theorem o_X10_scanNumber : MOK m_X10_scanNumber := MOKi (tbG_at (p := 419) (by decide +kernel)) (tbG_at (p := 21) (by decide +kernel)) (by decide +kernel) rfl rfl (tbG_at (p := 418) (by decide +kernel)) (tbG_atS (p := 1) (by decide +kernel))
theorem o_X10_advance : MOK m_X10_advance := MOKi (tbG_at (p := 411) (by decide +kernel)) (tbG_at (p := 21) (by decide +kernel)) (by decide +kernel) rfl rfl (tbG_at (p := 409) (by decide +kernel)) (tbG_at (p := 410) (by decide +kernel))
theorem o_X10_begin : MOK m_X10_begin := MOKi (tbG_at (p := 407) (by decide +kernel)) (tbG_at (p := 21) (by decide +kernel)) (by decide +kernel) rfl rfl (tbG_at (p := 405) (by decide +kernel)) (tbG_at (p := 406) (by decide +kernel))
theorem o_J0_coder_7d493 : MOK m_J0_coder_7d493 := MOKi (tbG_at (p := 440) (by decide +kernel)) (tbG_at (p := 7) (by decide +kernel)) (by decide +kernel) rfl rfl (tbG_at (p := 438) (by decide +kernel)) (tbG_at (p := 439) (by decide +kernel))
theorem o_J0_length_8abf5 : MOK m_J0_length_8abf5 := MOKi (tbG_at (p := 436) (by decide +kernel)) (tbG_at (p := 7) (by decide +kernel)) (by decide +kernel) rfl rfl (tbG_at (p := 434) (by decide +kernel)) (tbG_at (p := 435) (by decide +kernel))
theorem o_J0_isLatin1_aae02 : MOK m_J0_isLatin1_aae02 := MOKi (tbG_at (p := 450) (by decide +kernel)) (tbG_at (p := 7) (by decide +kernel)) (by decide +kernel) rfl rfl (tbG_at (p := 448) (by decide +kernel)) (tbG_at (p := 449) (by decide +kernel))
theorem o_J3_checkIndex_8e157 : MOK m_J3_checkIndex_8e157 := MOKs (tbG_at (p := 461) (by decide +kernel)) (tbG_at (p := 13) (by decide +kernel)) (by decide +kernel) rfl rfl (tbG_at (p := 460) (by decide +kernel))
theorem o_J0_checkIndex_df160 : MOK m_J0_checkIndex_df160 := MOKs (tbG_at (p := 456) (by decide +kernel)) (tbG_at (p := 7) (by decide +kernel)) (by decide +kernel) rfl rfl (tbG_at (p := 455) (by decide +kernel))
theorem o_J1_charAt_3b067 : MOK m_J1_charAt_3b067 := MOKs (tbG_at (p := 453) (by decide +kernel)) (tbG_at (p := 14) (by decide +kernel)) (by decide +kernel) rfl rfl (tbG_at (p := 452) (by decide +kernel))
theorem o_J2_length_9d52b : MOK m_J2_length_9d52b := MOKs (tbG_at (p := 470) (by decide +kernel)) (tbG_at (p := 8) (by decide +kernel)) (by decide +kernel) rfl rfl (tbG_at (p := 469) (by decide +kernel))
theorem o_J2_checkIndex_2214a : MOK m_J2_checkIndex_2214a := MOKs (tbG_at (p := 467) (by decide +kernel)) (tbG_at (p := 8) (by decide +kernel)) (by decide +kernel) rfl rfl (tbG_at (p := 466) (by decide +kernel))
theorem o_J2_getChar_3b067 : MOK m_J2_getChar_3b067 := MOKs (tbG_at (p := 474) (by decide +kernel)) (tbG_at (p := 8) (by decide +kernel)) (by decide +kernel) rfl rfl (tbG_at (p := 473) (by decide +kernel))
theorem o_J2_charAt_3b067 : MOK m_J2_charAt_3b067 := MOKs (tbG_at (p := 464) (by decide +kernel)) (tbG_at (p := 8) (by decide +kernel)) (by decide +kernel) rfl rfl (tbG_at (p := 463) (by decide +kernel))
theorem o_J0_charAt_5068e : MOK m_J0_charAt_5068e := MOKi (tbG_at (p := 446) (by decide +kernel)) (tbG_at (p := 7) (by decide +kernel)) (by decide +kernel) rfl rfl (tbG_at (p := 444) (by decide +kernel)) (tbG_at (p := 445) (by decide +kernel))
theorem o_X10_isWord : MOK m_X10_isWord := MOKi (tbG_at (p := 432) (by decide +kernel)) (tbG_at (p := 21) (by decide +kernel)) (by decide +kernel) rfl rfl (tbG_at (p := 430) (by decide +kernel)) (tbG_at (p := 431) (by decide +kernel))
theorem o_X9_at : MOK m_X9_at := MOKs (tbG_at (p := 426) (by decide +kernel)) (tbG_at (p := 35) (by decide +kernel)) (by decide +kernel) rfl rfl (tbG_at (p := 425) (by decide +kernel))
theorem o_X10_fail : MOK m_X10_fail := MOKi (tbG_at (p := 484) (by decide +kernel)) (tbG_at (p := 21) (by decide +kernel)) (by decide +kernel) rfl rfl (tbG_at (p := 482) (by decide +kernel)) (tbG_at (p := 483) (by decide +kernel))
theorem o_X6_isFull : MOK m_X6_isFull := MOKi (tbG_at (p := 500) (by decide +kernel)) (tbG_at (p := 24) (by decide +kernel)) (by decide +kernel) rfl rfl (tbG_at (p := 498) (by decide +kernel)) (tbG_at (p := 499) (by decide +kernel))
theorem o_X1_errorOfFirstWord : MOK m_X1_errorOfFirstWord := MOKi (tbG_at (p := 488) (by decide +kernel)) (tbG_at (p := 27) (by decide +kernel)) (by decide +kernel) rfl rfl (tbG_at (p := 487) (by decide +kernel)) (tbG_atS (p := 3) (by decide +kernel))
theorem o_X6_numberOf : MOK m_X6_numberOf := MOKi (tbG_at (p := 518) (by decide +kernel)) (tbG_at (p := 24) (by decide +kernel)) (by decide +kernel) rfl rfl (tbG_at (p := 516) (by decide +kernel)) (tbG_at (p := 517) (by decide +kernel))
theorem o_X10_takeNewName : MOK m_X10_takeNewName := MOKi (tbG_at (p := 513) (by decide +kernel)) (tbG_at (p := 21) (by decide +kernel)) (by decide +kernel) rfl rfl (tbG_at (p := 511) (by decide +kernel)) (tbG_at (p := 512) (by decide +kernel))
theorem o_X10_takeNumber : MOK m_X10_takeNumber := MOKi (tbG_at (p := 522) (by decide +kernel)) (tbG_at (p := 21) (by decide +kernel)) (by decide +kernel) rfl rfl (tbG_at (p := 520) (by decide +kernel)) (tbG_at (p := 521) (by decide +kernel))
theorem o_X6_add : MOK m_X6_add := MOKi (tbG_at (p := 530) (by decide +kernel)) (tbG_at (p := 24) (by decide +kernel)) (by decide +kernel) rfl rfl (tbG_at (p := 528) (by decide +kernel)) (tbG_at (p := 529) (by decide +kernel))
theorem o_X5_addVersion : MOK m_X5_addVersion := MOKi (tbG_at (p := 526) (by decide +kernel)) (tbG_at (p := 23) (by decide +kernel)) (by decide +kernel) rfl rfl (tbG_at (p := 524) (by decide +kernel)) (tbG_at (p := 525) (by decide +kernel))
theorem o_X1_readVersion : MOK m_X1_readVersion := MOKi (tbG_at (p := 509) (by decide +kernel)) (tbG_at (p := 27) (by decide +kernel)) (by decide +kernel) rfl rfl (tbG_at (p := 508) (by decide +kernel)) (tbG_atS (p := 5) (by decide +kernel))
theorem o_X10_findName : MOK m_X10_findName := MOKi (tbG_at (p := 538) (by decide +kernel)) (tbG_at (p := 21) (by decide +kernel)) (by decide +kernel) rfl rfl (tbG_at (p := 536) (by decide +kernel)) (tbG_at (p := 537) (by decide +kernel))
theorem o_X5_talkersOf : MOK m_X5_talkersOf := MOKi (tbG_at (p := 542) (by decide +kernel)) (tbG_at (p := 23) (by decide +kernel)) (by decide +kernel) rfl rfl (tbG_at (p := 540) (by decide +kernel)) (tbG_at (p := 541) (by decide +kernel))
theorem o_X11_isIn : MOK m_X11_isIn := MOKs (tbG_at (p := 545) (by decide +kernel)) (tbG_at (p := 20) (by decide +kernel)) (by decide +kernel) rfl rfl (tbG_at (p := 544) (by decide +kernel))
theorem o_X5_addTalk : MOK m_X5_addTalk := MOKi (tbG_at (p := 549) (by decide +kernel)) (tbG_at (p := 23) (by decide +kernel)) (by decide +kernel) rfl rfl (tbG_at (p := 547) (by decide +kernel)) (tbG_at (p := 548) (by decide +kernel))
def c_X10_append : Cd := [
  [(0, .bipush 24, 2, [], []), (2, .istore_n 2, 1, [], []), (3, .iload_n 2, 1, [], []), (4, .ifCond .lt 44, 3, [48], []), (7, .aload_n 0, 1, [], []), (8, .getfield 15, 3, [7, 1, 0, 53], []), (11, .aload_n 0, 1, [], []), (12, .getfield 9, 3, [7, 0, 3, 52], []), (15, .arraylength, 1, [], [])],
  [(16, .if_icmp .ge 32, 3, [48], []), (19, .aload_n 0, 1, [], []), (20, .getfield 9, 3, [7, 0, 3, 52], []), (23, .aload_n 0, 1, [], []), (24, .getfield 15, 3, [7, 1, 0, 53], []), (27, .iload_n 1, 1, [], []), (28, .iload_n 2, 1, [], []), (29, .ishr, 1, [], []), (30, .i2b, 1, [], []), (31, .bastore, 1, [], [])],
  [(32, .aload_n 0, 1, [], []), (33, .dup, 1, [], []), (34, .getfield 15, 3, [7, 1, 0, 53], []), (37, .iconst 1, 1, [], []), (38, .iadd, 1, [], []), (39, .putfield 15, 3, [7, 1, 0, 53], []), (42, .iinc 2 (-8), 3, [], []), (45, .goto (-42), 3, [3], [])],
  [(48, .return_, 1, [], [])]]
theorem k_X10_append : CdOk m_X10_append c_X10_append := ⟨by decide +kernel, allM_of trivial⟩
def c_X11_feed : Cd := [
  [(0, .aload_n 0, 1, [], []), (1, .getfield 10, 3, [8, 0, 3, 360], []), (4, .getfield 76, 3, [7, 1, 0, 54], []), (7, .bipush 20, 2, [], []), (9, .iadd, 1, [], []), (10, .sipush 900, 3, [], []), (13, .if_icmp .le 11, 3, [24], [])],
  [(16, .new 79, 3, [0, 81, 1321, 1330], []), (24, .aload_n 0, 1, [], []), (25, .getfield 10, 3, [8, 0, 3, 360], []), (28, .iload_n 1, 1, [], []), (29, .invokevirtual 82, 3, [0, 1, 0, 7, 0, 1336], [m_X10_append])],
  [(32, .aload_n 0, 1, [], []), (33, .getfield 10, 3, [8, 0, 3, 360], []), (36, .iload_n 2, 1, [], []), (37, .invokevirtual 82, 3, [0, 1, 0, 7, 0, 1336], [m_X10_append]), (40, .aload_n 0, 1, [], []), (41, .getfield 10, 3, [8, 0, 3, 360], []), (44, .iload_n 3, 1, [], []), (45, .invokevirtual 82, 3, [0, 1, 0, 7, 0, 1336], [m_X10_append])],
  [(48, .aload_n 0, 1, [], []), (49, .getfield 10, 3, [8, 0, 3, 360], []), (52, .iload 4, 2, [], []), (54, .invokevirtual 82, 3, [0, 1, 0, 7, 0, 1336], [m_X10_append]), (57, .aload_n 0, 1, [], []), (58, .getfield 10, 3, [8, 0, 3, 360], []), (61, .iload 5, 2, [], []), (63, .invokevirtual 82, 3, [0, 1, 0, 7, 0, 1336], [m_X10_append])],
  [(66, .aload_n 0, 1, [], []), (67, .getfield 10, 3, [8, 0, 3, 360], []), (70, .getfield 76, 3, [7, 1, 0, 54], []), (73, .ireturn, 1, [1], [])]]
theorem k_X11_feed : CdOk m_X11_feed c_X11_feed := ⟨by decide +kernel, allM_of ⟨o_X10_append, ⟨o_X10_append, ⟨o_X10_append, ⟨o_X10_append, ⟨o_X10_append, trivial⟩⟩⟩⟩⟩⟩
def c_X11_truncate : Cd := [
  [(0, .iload_n 1, 1, [], []), (1, .ifCond .lt 14, 3, [15], []), (4, .iload_n 1, 1, [], []), (5, .aload_n 0, 1, [], []), (6, .getfield 10, 3, [8, 0, 3, 360], []), (9, .getfield 76, 3, [7, 1, 0, 54], []), (12, .if_icmp .le 11, 3, [23], []), (15, .new 86, 3, [1, 88, 621, 662], [])],
  [(23, .aload_n 0, 1, [], []), (24, .getfield 10, 3, [8, 0, 3, 360], []), (27, .iload_n 1, 1, [], []), (28, .putfield 76, 3, [7, 1, 0, 54], []), (31, .iload_n 1, 1, [], [])],
  [(32, .ireturn, 1, [1], [])]]
theorem k_X11_truncate : CdOk m_X11_truncate c_X11_truncate := ⟨by decide +kernel, allM_of trivial⟩
def c_X5_reset : Cd := [
  [(0, .aload_n 0, 1, [], []), (1, .getfield 14, 3, [3, 0, 3, 113], []), (4, .iconst 0, 1, [], []), (5, .putfield 54, 3, [4, 1, 0, 99], []), (8, .aload_n 0, 1, [], []), (9, .getfield 30, 3, [3, 4, 3, 119], []), (12, .iconst 0, 1, [], []), (13, .putfield 54, 3, [4, 1, 0, 99], [])],
  [(16, .aload_n 0, 1, [], []), (17, .getfield 42, 3, [3, 8, 3, 128], []), (20, .iconst 0, 1, [], []), (21, .putfield 54, 3, [4, 1, 0, 99], []), (24, .aload_n 0, 1, [], []), (25, .iconst 0, 1, [], []), (26, .putfield 58, 3, [3, 11, 0, 139], []), (29, .aload_n 0, 1, [], []), (30, .iconst 0, 1, [], []), (31, .putfield 61, 3, [3, 12, 0, 141], [])],
  [(34, .aload_n 0, 1, [], []), (35, .iconst 1, 1, [], []), (36, .putfield 64, 3, [3, 13, 0, 144], []), (39, .aload_n 0, 1, [], []), (40, .iconst 1, 1, [], []), (41, .putfield 67, 3, [3, 14, 0, 147], []), (44, .aload_n 0, 1, [], []), (45, .iconst 5, 1, [], []), (46, .putfield 70, 3, [3, 15, 0, 150], [])],
  [(49, .aload_n 0, 1, [], []), (50, .bipush 10, 2, [], []), (52, .putfield 73, 3, [3, 16, 0, 153], []), (55, .aload_n 0, 1, [], []), (56, .bipush 50, 2, [], []), (58, .putfield 76, 3, [3, 17, 0, 156], []), (61, .return_, 1, [], [])]]
theorem k_X5_reset : CdOk m_X5_reset c_X5_reset := ⟨by decide +kernel, allM_of trivial⟩
def c_X8_reset : Cd := [
  [(0, .aload_n 0, 1, [], []), (1, .iconst 0, 1, [], []), (2, .putfield 38, 3, [6, 1, 0, 226], []), (5, .aload_n 0, 1, [], []), (6, .iconst 1, 1, [], []), (7, .putfield 42, 3, [6, 2, 0, 228], []), (10, .aload_n 0, 1, [], []), (11, .iconst 0, 1, [], []), (12, .putfield 45, 3, [6, 7, 0, 236], []), (15, .aload_n 0, 1, [], [])],
  [(16, .iconst 0, 1, [], []), (17, .putfield 48, 3, [6, 8, 0, 238], []), (20, .aload_n 0, 1, [], []), (21, .iconst 0, 1, [], []), (22, .putfield 51, 3, [6, 9, 0, 240], []), (25, .aload_n 0, 1, [], []), (26, .iconst (-1), 1, [], []), (27, .putfield 54, 3, [6, 10, 0, 242], []), (30, .aload_n 0, 1, [], []), (31, .iconst (-1), 1, [], [])],
  [(32, .putfield 57, 3, [6, 11, 0, 243], []), (35, .aload_n 0, 1, [], []), (36, .iconst 0, 1, [], []), (37, .putfield 60, 3, [6, 12, 1, 244], []), (40, .aload_n 0, 1, [], []), (41, .iconst (-1), 1, [], []), (42, .putfield 64, 3, [6, 13, 0, 245], []), (45, .aload_n 0, 1, [], []), (46, .iconst (-1), 1, [], []), (47, .putfield 67, 3, [6, 14, 0, 246], [])],
  [(50, .aload_n 0, 1, [], []), (51, .getfield 27, 3, [6, 15, 3, 247], []), (54, .iconst 0, 1, [], []), (55, .putfield 70, 3, [1, 1, 0, 209], []), (58, .return_, 1, [], [])]]
theorem k_X8_reset : CdOk m_X8_reset c_X8_reset := ⟨by decide +kernel, allM_of trivial⟩
def c_X10_scanWord : Cd := [
  [(0, .aload_n 0, 1, [], []), (1, .lconst 0, 1, [], []), (2, .putfield 31, 3, [7, 6, 2, 60], []), (5, .aload_n 0, 1, [], []), (6, .getfield 38, 3, [7, 8, 0, 62], []), (9, .aload_n 0, 1, [], []), (10, .getfield 15, 3, [7, 1, 0, 53], []), (13, .if_icmp .ge 66, 3, [79], [])],
  [(16, .aload_n 0, 1, [], []), (17, .getfield 9, 3, [7, 0, 3, 52], []), (20, .aload_n 0, 1, [], []), (21, .getfield 38, 3, [7, 8, 0, 62], []), (24, .baload, 1, [], []), (25, .bipush 97, 2, [], []), (27, .if_icmp .lt 52, 3, [79], []), (30, .aload_n 0, 1, [], []), (31, .getfield 9, 3, [7, 0, 3, 52], [])],
  [(34, .aload_n 0, 1, [], []), (35, .getfield 38, 3, [7, 8, 0, 62], []), (38, .baload, 1, [], []), (39, .bipush 122, 2, [], []), (41, .if_icmp .gt 38, 3, [79], []), (44, .aload_n 0, 1, [], []), (45, .aload_n 0, 1, [], []), (46, .getfield 31, 3, [7, 6, 2, 60], [])],
  [(49, .bipush 8, 2, [], []), (51, .lshl, 1, [], []), (52, .aload_n 0, 1, [], []), (53, .getfield 9, 3, [7, 0, 3, 52], []), (56, .aload_n 0, 1, [], []), (57, .getfield 38, 3, [7, 8, 0, 62], []), (60, .baload, 1, [], []), (61, .i2l, 1, [], []), (62, .lor, 1, [], []), (63, .putfield 31, 3, [7, 6, 2, 60], [])],
  [(66, .aload_n 0, 1, [], []), (67, .dup, 1, [], []), (68, .getfield 38, 3, [7, 8, 0, 62], []), (71, .iconst 1, 1, [], []), (72, .iadd, 1, [], []), (73, .putfield 38, 3, [7, 8, 0, 62], []), (76, .goto (-71), 3, [5], []), (79, .aload_n 0, 1, [], [])],
  [(80, .aload_n 0, 1, [], []), (81, .getfield 38, 3, [7, 8, 0, 62], []), (84, .aload_n 0, 1, [], []), (85, .getfield 28, 3, [7, 5, 0, 59], []), (88, .isub, 1, [], []), (89, .bipush 8, 2, [], []), (91, .if_icmp .gt 7, 3, [98], []), (94, .iconst 1, 1, [], []), (95, .goto 5, 3, [100], [])],
  [(98, .bipush 6, 2, [], []), (100, .putfield 25, 3, [7, 4, 0, 57], []), (103, .return_, 1, [], [])]]
theorem k_X10_scanWord : CdOk m_X10_scanWord c_X10_scanWord := ⟨by decide +kernel, allM_of trivial⟩
def c_X10_scanNumber : Cd := [
  [(0, .aload_n 0, 1, [], []), (1, .iconst 0, 1, [], []), (2, .putfield 35, 3, [7, 7, 0, 61], []), (5, .aload_n 0, 1, [], []), (6, .getfield 38, 3, [7, 8, 0, 62], []), (9, .aload_n 0, 1, [], []), (10, .getfield 15, 3, [7, 1, 0, 53], []), (13, .if_icmp .ge 68, 3, [81], [])],
  [(16, .aload_n 0, 1, [], []), (17, .getfield 9, 3, [7, 0, 3, 52], []), (20, .aload_n 0, 1, [], []), (21, .getfield 38, 3, [7, 8, 0, 62], []), (24, .baload, 1, [], []), (25, .bipush 48, 2, [], []), (27, .if_icmp .lt 54, 3, [81], []), (30, .aload_n 0, 1, [], []), (31, .getfield 9, 3, [7, 0, 3, 52], [])],
  [(34, .aload_n 0, 1, [], []), (35, .getfield 38, 3, [7, 8, 0, 62], []), (38, .baload, 1, [], []), (39, .bipush 57, 2, [], []), (41, .if_icmp .gt 40, 3, [81], []), (44, .aload_n 0, 1, [], []), (45, .aload_n 0, 1, [], []), (46, .getfield 35, 3, [7, 7, 0, 61], [])],
  [(49, .bipush 10, 2, [], []), (51, .imul, 1, [], []), (52, .aload_n 0, 1, [], []), (53, .getfield 9, 3, [7, 0, 3, 52], []), (56, .aload_n 0, 1, [], []), (57, .getfield 38, 3, [7, 8, 0, 62], []), (60, .baload, 1, [], []), (61, .bipush 48, 2, [], []), (63, .isub, 1, [], [])],
  [(64, .iadd, 1, [], []), (65, .putfield 35, 3, [7, 7, 0, 61], []), (68, .aload_n 0, 1, [], []), (69, .dup, 1, [], []), (70, .getfield 38, 3, [7, 8, 0, 62], []), (73, .iconst 1, 1, [], []), (74, .iadd, 1, [], []), (75, .putfield 38, 3, [7, 8, 0, 62], []), (78, .goto (-73), 3, [5], [])],
  [(81, .aload_n 0, 1, [], []), (82, .aload_n 0, 1, [], []), (83, .getfield 38, 3, [7, 8, 0, 62], []), (86, .aload_n 0, 1, [], []), (87, .getfield 28, 3, [7, 5, 0, 59], []), (90, .isub, 1, [], []), (91, .iconst 3, 1, [], []), (92, .if_icmp .gt 7, 3, [99], []), (95, .iconst 2, 1, [], [])],
  [(96, .goto 5, 3, [101], []), (99, .bipush 6, 2, [], []), (101, .putfield 25, 3, [7, 4, 0, 57], []), (104, .return_, 1, [], [])]]
theorem k_X10_scanNumber : CdOk m_X10_scanNumber c_X10_scanNumber := ⟨by decide +kernel, allM_of trivial⟩
def c_X10_advance : Cd := [
  [(0, .aload_n 0, 1, [], []), (1, .getfield 38, 3, [7, 8, 0, 62], []), (4, .aload_n 0, 1, [], []), (5, .getfield 15, 3, [7, 1, 0, 53], []), (8, .if_icmp .ge 44, 3, [52], []), (11, .aload_n 0, 1, [], []), (12, .getfield 9, 3, [7, 0, 3, 52], []), (15, .aload_n 0, 1, [], [])],
  [(16, .getfield 38, 3, [7, 8, 0, 62], []), (19, .baload, 1, [], []), (20, .bipush 32, 2, [], []), (22, .if_icmp .eq 17, 3, [39], []), (25, .aload_n 0, 1, [], []), (26, .getfield 9, 3, [7, 0, 3, 52], []), (29, .aload_n 0, 1, [], []), (30, .getfield 38, 3, [7, 8, 0, 62], [])],
  [(33, .baload, 1, [], []), (34, .bipush 10, 2, [], []), (36, .if_icmp .ne 16, 3, [52], []), (39, .aload_n 0, 1, [], []), (40, .dup, 1, [], []), (41, .getfield 38, 3, [7, 8, 0, 62], []), (44, .iconst 1, 1, [], []), (45, .iadd, 1, [], []), (46, .putfield 38, 3, [7, 8, 0, 62], [])],
  [(49, .goto (-49), 3, [0], []), (52, .aload_n 0, 1, [], []), (53, .aload_n 0, 1, [], []), (54, .getfield 38, 3, [7, 8, 0, 62], []), (57, .putfield 28, 3, [7, 5, 0, 59], []), (60, .aload_n 0, 1, [], []), (61, .getfield 38, 3, [7, 8, 0, 62], [])],
  [(64, .aload_n 0, 1, [], []), (65, .getfield 15, 3, [7, 1, 0, 53], []), (68, .if_icmp .lt 9, 3, [77], []), (71, .aload_n 0, 1, [], []), (72, .iconst 0, 1, [], []), (73, .putfield 25, 3, [7, 4, 0, 57], []), (76, .return_, 1, [], []), (77, .aload_n 0, 1, [], []), (78, .getfield 9, 3, [7, 0, 3, 52], [])],
  [(81, .aload_n 0, 1, [], []), (82, .getfield 38, 3, [7, 8, 0, 62], []), (85, .baload, 1, [], []), (86, .istore_n 1, 1, [], []), (87, .iload_n 1, 1, [], []), (88, .bipush 97, 2, [], []), (90, .if_icmp .lt 16, 3, [106], []), (93, .iload_n 1, 1, [], []), (94, .bipush 122, 2, [], [])],
  [(96, .if_icmp .gt 10, 3, [106], []), (99, .aload_n 0, 1, [], []), (100, .invokevirtual 44, 3, [0, 0, 0, 7, 0, 412], [m_X10_scanWord]), (103, .goto 68, 3, [171], []), (106, .iload_n 1, 1, [], []), (107, .bipush 48, 2, [], []), (109, .if_icmp .lt 16, 3, [125], [])],
  [(112, .iload_n 1, 1, [], []), (113, .bipush 57, 2, [], []), (115, .if_icmp .gt 10, 3, [125], []), (118, .aload_n 0, 1, [], []), (119, .invokevirtual 47, 3, [0, 0, 0, 7, 0, 416], [m_X10_scanNumber]), (122, .goto 49, 3, [171], []), (125, .aload_n 0, 1, [], []), (126, .iload_n 1, 1, [], []), (127, .bipush 59, 2, [], [])],
  [(129, .if_icmp .ne 7, 3, [136], []), (132, .iconst 3, 1, [], []), (133, .goto 25, 3, [158], []), (136, .iload_n 1, 1, [], []), (137, .bipush 40, 2, [], []), (139, .if_icmp .ne 7, 3, [146], []), (142, .iconst 4, 1, [], []), (143, .goto 15, 3, [158], [])],
  [(146, .iload_n 1, 1, [], []), (147, .bipush 41, 2, [], []), (149, .if_icmp .ne 7, 3, [156], []), (152, .iconst 5, 1, [], []), (153, .goto 5, 3, [158], []), (156, .bipush 6, 2, [], []), (158, .putfield 25, 3, [7, 4, 0, 57], [])],
  [(161, .aload_n 0, 1, [], []), (162, .dup, 1, [], []), (163, .getfield 38, 3, [7, 8, 0, 62], []), (166, .iconst 1, 1, [], []), (167, .iadd, 1, [], []), (168, .putfield 38, 3, [7, 8, 0, 62], []), (171, .return_, 1, [], [])]]
theorem k_X10_advance : CdOk m_X10_advance c_X10_advance := ⟨by decide +kernel, allM_of ⟨o_X10_scanWord, ⟨o_X10_scanNumber, trivial⟩⟩⟩
def c_X10_begin : Cd := [
  [(0, .aload_n 0, 1, [], []), (1, .iconst 0, 1, [], []), (2, .putfield 19, 3, [7, 2, 0, 55], []), (5, .aload_n 0, 1, [], []), (6, .iconst (-1), 1, [], []), (7, .putfield 22, 3, [7, 3, 0, 56], []), (10, .aload_n 0, 1, [], []), (11, .iconst 0, 1, [], []), (12, .putfield 38, 3, [7, 8, 0, 62], []), (15, .aload_n 0, 1, [], [])],
  [(16, .invokevirtual 41, 3, [0, 0, 0, 7, 0, 408], [m_X10_advance]), (19, .return_, 1, [], [])]]
theorem k_X10_begin : CdOk m_X10_begin c_X10_begin := ⟨by decide +kernel, allM_of ⟨o_X10_advance, trivial⟩⟩
def c_J0_coder_7d493 : Cd := [
  [(0, .getstatic 38, 3, [1, 0, 441], []), (3, .ifCond .eq 10, 3, [13], []), (6, .aload_n 0, 1, [], []), (7, .getfield 15, 3, [22, 1, 0, 1095, 0], []), (10, .goto 4, 3, [14], []), (13, .iconst 1, 1, [], []), (14, .ireturn, 1, [7], [])]]
theorem k_J0_coder_7d493 : CdOk m_J0_coder_7d493 c_J0_coder_7d493 := ⟨by decide +kernel, allM_of trivial⟩
def c_J0_length_8abf5 : Cd := [
  [(0, .aload_n 0, 1, [], []), (1, .getfield 9, 3, [22, 0, 3, 1094, 0], []), (4, .arraylength, 1, [1], []), (5, .aload_n 0, 1, [], []), (6, .invokevirtual 335, 3, [5, 0, 1, 22, 0, 437], [m_J0_coder_7d493]), (9, .ishr, 1, [], []), (10, .ireturn, 1, [1], [])]]
theorem k_J0_length_8abf5 : CdOk m_J0_length_8abf5 c_J0_length_8abf5 := ⟨by decide +kernel, allM_of ⟨o_J0_coder_7d493, trivial⟩⟩
def c_J0_isLatin1_aae02 : Cd := [
  [(0, .getstatic 38, 3, [1, 0, 441], []), (3, .ifCond .eq 14, 3, [17], []), (6, .aload_n 0, 1, [], []), (7, .getfield 15, 3, [22, 1, 0, 1095, 0], []), (10, .ifCond .ne 7, 3, [17], []), (13, .iconst 1, 1, [], []), (14, .goto 4, 3, [18], [])],
  [(17, .iconst 0, 1, [], []), (18, .ireturn, 1, [6], [])]]
theorem k_J0_isLatin1_aae02 : CdOk m_J0_isLatin1_aae02 c_J0_isLatin1_aae02 := ⟨by decide +kernel, allM_of trivial⟩
def c_J3_checkIndex_8e157 : Cd := [
  [(0, .iload_n 0, 1, [], []), (1, .ifCond .lt 8, 3, [9], []), (4, .iload_n 0, 1, [], []), (5, .iload_n 1, 1, [], []), (6, .if_icmp .lt 10, 3, [16], []), (9, .aload_n 2, 1, [], []), (10, .iload_n 0, 1, [], []), (11, .iload_n 1, 1, [], [])],
  [(16, .iload_n 0, 1, [], []), (17, .ireturn, 1, [1], [])]]
theorem k_J3_checkIndex_8e157 : CdOk m_J3_checkIndex_8e157 c_J3_checkIndex_8e157 := ⟨by decide +kernel, allM_of trivial⟩
def c_J0_checkIndex_df160 : Cd := [
  [(0, .iload_n 0, 1, [], []), (1, .iload_n 1, 1, [], []), (2, .getstatic 1053, 3, [2, 0, 457], []), (5, .invokestatic 1059, 3, [1, 3, 1, 0, 0, 459], [m_J3_checkIndex_8e157]), (8, .pop, 1, [], []), (9, .return_, 1, [], [])]]
theorem k_J0_checkIndex_df160 : CdOk m_J0_checkIndex_df160 c_J0_checkIndex_df160 := ⟨by decide +kernel, allM_of ⟨o_J3_checkIndex_8e157, trivial⟩⟩
def c_J1_charAt_3b067 : Cd := [
  [(0, .iload_n 1, 1, [], []), (1, .aload_n 0, 1, [], []), (2, .arraylength, 1, [1], []), (3, .invokestatic 9, 3, [1, 2, 0, 0, 0, 454], [m_J0_checkIndex_df160]), (6, .aload_n 0, 1, [], []), (7, .iload_n 1, 1, [], []), (8, .baload, 1, [1], []), (9, .sipush 255, 3, [], []), (12, .iand, 1, [], []), (13, .i2c, 1, [], []), (14, .ireturn, 1, [8], [])]]
theorem k_J1_charAt_3b067 : CdOk m_J1_charAt_3b067 c_J1_charAt_3b067 := ⟨by decide +kernel, allM_of ⟨o_J0_checkIndex_df160, trivial⟩⟩
def c_J2_length_9d52b : Cd := [
  [(0, .aload_n 0, 1, [], []), (1, .arraylength, 1, [], []), (2, .iconst 1, 1, [], []), (3, .ishr, 1, [], []), (4, .ireturn, 1, [1], [])]]
theorem k_J2_length_9d52b : CdOk m_J2_length_9d52b c_J2_length_9d52b := ⟨by decide +kernel, allM_of trivial⟩
def c_J2_checkIndex_2214a : Cd := [
  [(0, .iload_n 0, 1, [], []), (1, .aload_n 1, 1, [], []), (2, .invokestatic 48, 3, [1, 1, 1, 0, 0, 468], [m_J2_length_9d52b]), (5, .invokestatic 414, 3, [1, 2, 0, 0, 0, 471], [m_J0_checkIndex_df160]), (8, .return_, 1, [], [])]]
theorem k_J2_checkIndex_2214a : CdOk m_J2_checkIndex_2214a c_J2_checkIndex_2214a := ⟨by decide +kernel, allM_of ⟨o_J2_length_9d52b, ⟨o_J0_checkIndex_df160, trivial⟩⟩⟩
def c_J2_getChar_3b067 : Cd := []
theorem k_J2_getChar_3b067 : CdOk m_J2_getChar_3b067 c_J2_getChar_3b067 := ⟨by decide +kernel, allM_of trivial⟩
def c_J2_charAt_3b067 : Cd := [
  [(0, .iload_n 1, 1, [], []), (1, .aload_n 0, 1, [], []), (2, .invokestatic 67, 3, [1, 2, 0, 0, 0, 465], [m_J2_checkIndex_2214a]), (5, .aload_n 0, 1, [], []), (6, .iload_n 1, 1, [], []), (7, .invokestatic 71, 3, [1, 2, 1, 0, 0, 472], [m_J2_getChar_3b067]), (10, .ireturn, 1, [8], [])]]
theorem k_J2_charAt_3b067 : CdOk m_J2_charAt_3b067 c_J2_charAt_3b067 := ⟨by decide +kernel, allM_of ⟨o_J2_checkIndex_2214a, ⟨o_J2_getChar_3b067, trivial⟩⟩⟩
def c_J0_charAt_5068e : Cd := [
  [(0, .aload_n 0, 1, [], []), (1, .invokevirtual 492, 3, [5, 0, 1, 22, 0, 447], [m_J0_isLatin1_aae02]), (4, .ifCond .eq 12, 3, [16], []), (7, .aload_n 0, 1, [], []), (8, .getfield 9, 3, [22, 0, 3, 1094, 0], []), (11, .iload_n 1, 1, [], []), (12, .invokestatic 495, 3, [1, 2, 1, 0, 0, 451], [m_J1_charAt_3b067]), (15, .ireturn, 1, [8], [])],
  [(16, .aload_n 0, 1, [], []), (17, .getfield 9, 3, [22, 0, 3, 1094, 0], []), (20, .iload_n 1, 1, [], []), (21, .invokestatic 498, 3, [1, 2, 1, 0, 0, 462], [m_J2_charAt_3b067]), (24, .ireturn, 1, [8], [])]]
theorem k_J0_charAt_5068e : CdOk m_J0_charAt_5068e c_J0_charAt_5068e := ⟨by decide +kernel, allM_of ⟨o_J0_isLatin1_aae02, ⟨o_J1_charAt_3b067, ⟨o_J2_charAt_3b067, trivial⟩⟩⟩⟩
def c_X10_isWord : Cd := [
  [(0, .lconst 0, 1, [], []), (1, .lstore_n 2, 1, [], []), (2, .iconst 0, 1, [], []), (3, .istore 4, 2, [], []), (5, .iload 4, 2, [], []), (7, .aload_n 1, 1, [], []), (8, .invokevirtual 50, 3, [5, 0, 1, 22, 0, 433], [m_J0_length_8abf5]), (11, .if_icmp .ge 22, 3, [33], []), (14, .lload_n 2, 1, [], []), (15, .bipush 8, 2, [], [])],
  [(17, .lshl, 1, [], []), (18, .aload_n 1, 1, [], []), (19, .iload 4, 2, [], []), (21, .invokevirtual 55, 3, [5, 1, 1, 22, 0, 443], [m_J0_charAt_5068e]), (24, .i2l, 1, [], []), (25, .lor, 1, [], []), (26, .lstore_n 2, 1, [], []), (27, .iinc 4 1, 3, [], []), (30, .goto (-25), 3, [5], [])],
  [(33, .aload_n 0, 1, [], []), (34, .getfield 25, 3, [7, 4, 0, 57], []), (37, .iconst 1, 1, [], []), (38, .if_icmp .ne 16, 3, [54], []), (41, .aload_n 0, 1, [], []), (42, .getfield 31, 3, [7, 6, 2, 60], []), (45, .lload_n 2, 1, [], []), (46, .lcmp, 1, [], []), (47, .ifCond .ne 7, 3, [54], [])],
  [(50, .iconst 1, 1, [], []), (51, .goto 4, 3, [55], []), (54, .iconst 0, 1, [], []), (55, .ireturn, 1, [6], [])]]
theorem k_X10_isWord : CdOk m_X10_isWord c_X10_isWord := ⟨by decide +kernel, allM_of ⟨o_J0_length_8abf5, ⟨o_J0_charAt_5068e, trivial⟩⟩⟩
def c_X9_at : Cd := [
  [(0, .getstatic 73, 3, [0, 1080, 427], []), (3, .astore_n 1, 1, [], []), (4, .aload_n 1, 1, [], []), (5, .arraylength, 1, [4], []), (6, .istore_n 2, 1, [], []), (7, .iconst 0, 1, [], []), (8, .istore_n 3, 1, [], []), (9, .iload_n 3, 1, [], []), (10, .iload_n 2, 1, [], []), (11, .if_icmp .ge 29, 3, [40], []), (14, .aload_n 1, 1, [], []), (15, .iload_n 3, 1, [], [])],
  [(16, .aaload, 1, [0, 4], []), (17, .astore 4, 2, [], []), (19, .aload_n 0, 1, [], []), (20, .aload 4, 2, [], []), (22, .getfield 59, 3, [20, 0, 3, 1844, 0], []), (25, .invokevirtual 76, 3, [0, 1, 1, 7, 0, 429], [m_X10_isWord]), (28, .ifCond .eq 6, 3, [34], []), (31, .aload 4, 2, [], [])],
  [(33, .areturn, 1, [], []), (34, .iinc 3 1, 3, [], []), (37, .goto (-28), 3, [9], []), (40, .aconst_null, 1, [], []), (41, .areturn, 1, [], [])]]
theorem k_X9_at : CdOk m_X9_at c_X9_at := ⟨by decide +kernel, allM_of ⟨o_X10_isWord, trivial⟩⟩
def c_X10_fail : Cd := [
  [(0, .aload_n 0, 1, [], []), (1, .iload_n 1, 1, [], []), (2, .putfield 19, 3, [7, 2, 0, 55], []), (5, .aload_n 0, 1, [], []), (6, .aload_n 0, 1, [], []), (7, .getfield 28, 3, [7, 5, 0, 59], []), (10, .putfield 22, 3, [7, 3, 0, 56], []), (13, .iconst 0, 1, [], []), (14, .ireturn, 1, [6], [])]]
theorem k_X10_fail : CdOk m_X10_fail c_X10_fail := ⟨by decide +kernel, allM_of trivial⟩
def c_X6_isFull : Cd := [
  [(0, .aload_n 0, 1, [], []), (1, .getfield 9, 3, [4, 1, 0, 98], []), (4, .aload_n 0, 1, [], []), (5, .getfield 15, 3, [4, 0, 3, 97], []), (8, .arraylength, 1, [], []), (9, .if_icmp .lt 7, 3, [16], []), (12, .iconst 1, 1, [], []), (13, .goto 4, 3, [17], [])],
  [(16, .iconst 0, 1, [], []), (17, .ireturn, 1, [6], [])]]
theorem k_X6_isFull : CdOk m_X6_isFull c_X6_isFull := ⟨by decide +kernel, allM_of trivial⟩
def c_X1_errorOfFirstWord : Cd := [
  [(0, .getstatic 72, 3, [0, 1082, 489], []), (3, .aload_n 1, 1, [], []), (4, .invokevirtual 78, 3, [20, 491], []), (7, .iaload, 1, [0], []), (8, .tableswitch 172 1 7 #[44, 64, 84, 104, 122, 141, 141], 44, [180, 1, 52, 72, 92, 112, 130, 149, 149], [])],
  [],
  [],
  [(52, .aload_n 0, 1, [], []), (53, .getfield 29, 3, [0, 2, 3, 310], []), (56, .getfield 82, 3, [3, 0, 3, 114], []), (59, .invokevirtual 86, 3, [0, 0, 1, 4, 0, 497], [m_X6_isFull]), (62, .ifCond .eq 8, 3, [70], [])],
  [(65, .bipush 6, 2, [], []), (67, .goto 4, 3, [71], []), (70, .iconst 0, 1, [], []), (71, .ireturn, 1, [1], []), (72, .aload_n 0, 1, [], []), (73, .getfield 29, 3, [0, 2, 3, 310], []), (76, .getfield 91, 3, [3, 4, 3, 120], []), (79, .invokevirtual 86, 3, [0, 0, 1, 4, 0, 497], [m_X6_isFull])],
  [(82, .ifCond .eq 8, 3, [90], []), (85, .bipush 6, 2, [], []), (87, .goto 4, 3, [91], []), (90, .iconst 0, 1, [], []), (91, .ireturn, 1, [1], []), (92, .aload_n 0, 1, [], []), (93, .getfield 29, 3, [0, 2, 3, 310], [])],
  [(96, .getfield 94, 3, [3, 8, 3, 130], []), (99, .invokevirtual 86, 3, [0, 0, 1, 4, 0, 497], [m_X6_isFull]), (102, .ifCond .eq 8, 3, [110], []), (105, .bipush 6, 2, [], []), (107, .goto 4, 3, [111], []), (110, .iconst 0, 1, [], []), (111, .ireturn, 1, [1], [])],
  [(112, .aload_n 0, 1, [], []), (113, .getfield 29, 3, [0, 2, 3, 310], []), (116, .getfield 97, 3, [3, 12, 0, 142], []), (119, .iconst 5, 1, [], []), (120, .if_icmp .lt 8, 3, [128], []), (123, .bipush 6, 2, [], []), (125, .goto 4, 3, [129], [])],
  [(128, .iconst 0, 1, [], []), (129, .ireturn, 1, [1], []), (130, .aload_n 0, 1, [], []), (131, .getfield 29, 3, [0, 2, 3, 310], []), (134, .getfield 100, 3, [3, 11, 0, 140], []), (137, .bipush 20, 2, [], []), (139, .if_icmp .lt 8, 3, [147], []), (142, .bipush 6, 2, [], [])],
  [(144, .goto 4, 3, [148], []), (147, .iconst 0, 1, [], []), (148, .ireturn, 1, [1], []), (149, .aload_n 0, 1, [], []), (150, .getfield 9, 3, [0, 3, 0, 311], []), (153, .aload_n 1, 1, [], []), (154, .getfield 103, 3, [20, 1, 0, 1846, 0], []), (157, .iand, 1, [], []), (158, .ifCond .ne 16, 3, [174], [])],
  [(161, .aload_n 0, 1, [], []), (162, .getfield 29, 3, [0, 2, 3, 310], []), (165, .getfield 94, 3, [3, 8, 3, 130], []), (168, .getfield 106, 3, [4, 1, 0, 101], []), (171, .ifCond .le 7, 3, [178], []), (174, .iconst 4, 1, [], []), (175, .goto 4, 3, [179], [])],
  [(178, .iconst 0, 1, [], []), (179, .ireturn, 1, [1], []), (180, .aload_n 0, 1, [], []), (181, .getfield 9, 3, [0, 3, 0, 311], []), (184, .aload_n 1, 1, [], []), (185, .getfield 103, 3, [20, 1, 0, 1846, 0], []), (188, .iand, 1, [], []), (189, .ifCond .eq 7, 3, [196], [])],
  [(192, .iconst 4, 1, [], []), (193, .goto 4, 3, [197], []), (196, .iconst 0, 1, [], []), (197, .ireturn, 1, [1], [])]]
theorem k_X1_errorOfFirstWord : CdOk m_X1_errorOfFirstWord c_X1_errorOfFirstWord := ⟨by decide +kernel, allM_of ⟨o_X6_isFull, ⟨o_X6_isFull, ⟨o_X6_isFull, trivial⟩⟩⟩⟩
def c_X6_numberOf : Cd := [
  [(0, .iconst 0, 1, [], []), (1, .istore_n 3, 1, [], []), (2, .iload_n 3, 1, [], []), (3, .aload_n 0, 1, [], []), (4, .getfield 9, 3, [4, 1, 0, 98], []), (7, .if_icmp .ge 22, 3, [29], []), (10, .aload_n 0, 1, [], []), (11, .getfield 15, 3, [4, 0, 3, 97], []), (14, .iload_n 3, 1, [], []), (15, .laload, 1, [], [])],
  [(16, .lload_n 1, 1, [], []), (17, .lcmp, 1, [], []), (18, .ifCond .ne 5, 3, [23], []), (21, .iload_n 3, 1, [], []), (22, .ireturn, 1, [1], []), (23, .iinc 3 1, 3, [], []), (26, .goto (-24), 3, [2], []), (29, .iconst (-1), 1, [], []), (30, .ireturn, 1, [1], [])]]
theorem k_X6_numberOf : CdOk m_X6_numberOf c_X6_numberOf := ⟨by decide +kernel, allM_of trivial⟩
def c_X10_takeNewName : Cd := [
  [(0, .aload_n 0, 1, [], []), (1, .getfield 25, 3, [7, 4, 0, 57], []), (4, .iconst 1, 1, [], []), (5, .if_icmp .eq 11, 3, [16], []), (8, .aload_n 0, 1, [], []), (9, .iconst 1, 1, [], []), (10, .invokevirtual 59, 3, [0, 1, 1, 7, 0, 514], [m_X10_fail]), (13, .pop, 1, [], []), (14, .lconst 0, 1, [], []), (15, .lreturn, 1, [], [])],
  [(16, .aload_n 1, 1, [], []), (17, .aload_n 0, 1, [], []), (18, .getfield 31, 3, [7, 6, 2, 60], []), (21, .invokevirtual 63, 3, [0, 1, 1, 4, 0, 515], [m_X6_numberOf]), (24, .iconst (-1), 1, [], []), (25, .if_icmp .eq 11, 3, [36], []), (28, .aload_n 0, 1, [], []), (29, .iconst 3, 1, [], []), (30, .invokevirtual 59, 3, [0, 1, 1, 7, 0, 514], [m_X10_fail])],
  [(33, .pop, 1, [], []), (34, .lconst 0, 1, [], []), (35, .lreturn, 1, [], []), (36, .aload_n 0, 1, [], []), (37, .getfield 31, 3, [7, 6, 2, 60], []), (40, .lstore_n 2, 1, [], []), (41, .aload_n 0, 1, [], []), (42, .invokevirtual 41, 3, [0, 0, 0, 7, 0, 408], [m_X10_advance]), (45, .lload_n 2, 1, [], []), (46, .lreturn, 1, [], [])]]
theorem k_X10_takeNewName : CdOk m_X10_takeNewName c_X10_takeNewName := ⟨by decide +kernel, allM_of ⟨o_X10_fail, ⟨o_X6_numberOf, ⟨o_X10_fail, ⟨o_X10_advance, trivial⟩⟩⟩⟩⟩
def c_X10_takeNumber : Cd := [
  [(0, .aload_n 0, 1, [], []), (1, .getfield 25, 3, [7, 4, 0, 57], []), (4, .iconst 2, 1, [], []), (5, .if_icmp .eq 11, 3, [16], []), (8, .aload_n 0, 1, [], []), (9, .iconst 1, 1, [], []), (10, .invokevirtual 59, 3, [0, 1, 1, 7, 0, 514], [m_X10_fail]), (13, .pop, 1, [], []), (14, .iconst (-1), 1, [], []), (15, .ireturn, 1, [1], [])],
  [(16, .aload_n 0, 1, [], []), (17, .getfield 35, 3, [7, 7, 0, 61], []), (20, .iload_n 1, 1, [], []), (21, .if_icmp .lt 11, 3, [32], []), (24, .aload_n 0, 1, [], []), (25, .getfield 35, 3, [7, 7, 0, 61], []), (28, .iload_n 2, 1, [], []), (29, .if_icmp .le 11, 3, [40], [])],
  [(32, .aload_n 0, 1, [], []), (33, .iconst 2, 1, [], []), (34, .invokevirtual 59, 3, [0, 1, 1, 7, 0, 514], [m_X10_fail]), (37, .pop, 1, [], []), (38, .iconst (-1), 1, [], []), (39, .ireturn, 1, [1], []), (40, .aload_n 0, 1, [], []), (41, .getfield 35, 3, [7, 7, 0, 61], []), (44, .istore_n 3, 1, [], []), (45, .aload_n 0, 1, [], []), (46, .invokevirtual 41, 3, [0, 0, 0, 7, 0, 408], [m_X10_advance])],
  [(49, .iload_n 3, 1, [], []), (50, .ireturn, 1, [1], [])]]
theorem k_X10_takeNumber : CdOk m_X10_takeNumber c_X10_takeNumber := ⟨by decide +kernel, allM_of ⟨o_X10_fail, ⟨o_X10_fail, ⟨o_X10_advance, trivial⟩⟩⟩⟩
def c_X6_add : Cd := [
  [(0, .aload_n 0, 1, [], []), (1, .getfield 9, 3, [4, 1, 0, 98], []), (4, .aload_n 0, 1, [], []), (5, .getfield 15, 3, [4, 0, 3, 97], []), (8, .arraylength, 1, [], []), (9, .if_icmp .ge 23, 3, [32], []), (12, .aload_n 0, 1, [], []), (13, .getfield 15, 3, [4, 0, 3, 97], [])],
  [(16, .aload_n 0, 1, [], []), (17, .getfield 9, 3, [4, 1, 0, 98], []), (20, .lload_n 1, 1, [], []), (21, .lastore, 1, [], []), (22, .aload_n 0, 1, [], []), (23, .dup, 1, [], []), (24, .getfield 9, 3, [4, 1, 0, 98], []), (27, .iconst 1, 1, [], []), (28, .iadd, 1, [], []), (29, .putfield 9, 3, [4, 1, 0, 98], [])],
  [(32, .return_, 1, [], [])]]
theorem k_X6_add : CdOk m_X6_add c_X6_add := ⟨by decide +kernel, allM_of trivial⟩
def c_X5_addVersion : Cd := [
  [(0, .aload_n 0, 1, [], []), (1, .getfield 14, 3, [3, 0, 3, 113], []), (4, .getfield 54, 3, [4, 1, 0, 99], []), (7, .istore 5, 2, [], []), (9, .iload 5, 2, [], []), (11, .bipush 8, 2, [], []), (13, .if_icmp .ge 39, 3, [52], [])],
  [(16, .aload_n 0, 1, [], []), (17, .getfield 14, 3, [3, 0, 3, 113], []), (20, .lload_n 1, 1, [], []), (21, .invokevirtual 87, 3, [0, 1, 0, 4, 0, 527], [m_X6_add]), (24, .aload_n 0, 1, [], []), (25, .getfield 20, 3, [3, 1, 3, 116], []), (28, .iload 5, 2, [], []), (30, .iload_n 3, 1, [], []), (31, .iastore, 1, [], [])],
  [(32, .aload_n 0, 1, [], []), (33, .getfield 24, 3, [3, 2, 3, 117], []), (36, .iload 5, 2, [], []), (38, .iload 4, 2, [], []), (40, .iastore, 1, [], []), (41, .aload_n 0, 1, [], []), (42, .getfield 27, 3, [3, 3, 3, 118], []), (45, .iload 5, 2, [], []), (47, .iconst 1, 1, [], [])],
  [(48, .iload 5, 2, [], []), (50, .ishl, 1, [], []), (51, .iastore, 1, [], []), (52, .return_, 1, [], [])]]
theorem k_X5_addVersion : CdOk m_X5_addVersion c_X5_addVersion := ⟨by decide +kernel, allM_of ⟨o_X6_add, trivial⟩⟩
def c_X1_readVersion : Cd := [
  [(0, .aload_n 0, 1, [], []), (1, .getfield 15, 3, [0, 0, 3, 308], []), (4, .aload_n 0, 1, [], []), (5, .getfield 29, 3, [0, 2, 3, 310], []), (8, .getfield 82, 3, [3, 0, 3, 114], []), (11, .invokevirtual 130, 3, [0, 1, 2, 7, 0, 510], [m_X10_takeNewName]), (14, .lstore_n 1, 1, [], []), (15, .lload_n 1, 1, [], [])],
  [(16, .lconst 0, 1, [], []), (17, .lcmp, 1, [], []), (18, .ifCond .ne 5, 3, [23], []), (21, .iconst 0, 1, [], []), (22, .ireturn, 1, [6], []), (23, .aload_n 0, 1, [], []), (24, .getfield 15, 3, [0, 0, 3, 308], []), (27, .iconst 1, 1, [], []), (28, .bipush 9, 2, [], []), (30, .invokevirtual 134, 3, [0, 2, 1, 7, 0, 519], [m_X10_takeNumber])],
  [(33, .istore_n 3, 1, [], []), (34, .iload_n 3, 1, [], []), (35, .iconst (-1), 1, [], []), (36, .if_icmp .ne 5, 3, [41], []), (39, .iconst 0, 1, [], []), (40, .ireturn, 1, [6], []), (41, .aload_n 0, 1, [], []), (42, .getfield 15, 3, [0, 0, 3, 308], []), (45, .iload_n 3, 1, [], []), (46, .bipush 9, 2, [], [])],
  [(48, .invokevirtual 134, 3, [0, 2, 1, 7, 0, 519], [m_X10_takeNumber]), (51, .istore 4, 2, [], []), (53, .iload 4, 2, [], []), (55, .iconst (-1), 1, [], []), (56, .if_icmp .ne 5, 3, [61], []), (59, .iconst 0, 1, [], []), (60, .ireturn, 1, [6], []), (61, .aload_n 0, 1, [], []), (62, .getfield 29, 3, [0, 2, 3, 310], [])],
  [(65, .lload_n 1, 1, [], []), (66, .iload_n 3, 1, [], []), (67, .iload 4, 2, [], []), (69, .invokevirtual 138, 3, [0, 3, 0, 3, 0, 523], [m_X5_addVersion]), (72, .iconst 1, 1, [], []), (73, .ireturn, 1, [6], [])]]
theorem k_X1_readVersion : CdOk m_X1_readVersion c_X1_readVersion := ⟨by decide +kernel, allM_of ⟨o_X10_takeNewName, ⟨o_X10_takeNumber, ⟨o_X10_takeNumber, ⟨o_X5_addVersion, trivial⟩⟩⟩⟩⟩
def c_X10_findName : Cd := [
  [(0, .aload_n 0, 1, [], []), (1, .getfield 25, 3, [7, 4, 0, 57], []), (4, .iconst 1, 1, [], []), (5, .if_icmp .eq 11, 3, [16], []), (8, .aload_n 0, 1, [], []), (9, .iconst 1, 1, [], []), (10, .invokevirtual 59, 3, [0, 1, 1, 7, 0, 514], [m_X10_fail]), (13, .pop, 1, [], []), (14, .iconst (-1), 1, [], []), (15, .ireturn, 1, [1], [])],
  [(16, .aload_n 1, 1, [], []), (17, .aload_n 0, 1, [], []), (18, .getfield 31, 3, [7, 6, 2, 60], []), (21, .invokevirtual 63, 3, [0, 1, 1, 4, 0, 515], [m_X6_numberOf]), (24, .istore_n 2, 1, [], []), (25, .iload_n 2, 1, [], []), (26, .iconst (-1), 1, [], []), (27, .if_icmp .ne 9, 3, [36], []), (30, .aload_n 0, 1, [], []), (31, .iconst 3, 1, [], [])],
  [(32, .invokevirtual 59, 3, [0, 1, 1, 7, 0, 514], [m_X10_fail]), (35, .pop, 1, [], []), (36, .iload_n 2, 1, [], []), (37, .ireturn, 1, [1], [])]]
theorem k_X10_findName : CdOk m_X10_findName c_X10_findName := ⟨by decide +kernel, allM_of ⟨o_X10_fail, ⟨o_X6_numberOf, ⟨o_X10_fail, trivial⟩⟩⟩⟩
def c_X5_talkersOf : Cd := [
  [(0, .iload_n 1, 1, [], []), (1, .ifCond .lt 23, 3, [24], []), (4, .iload_n 1, 1, [], []), (5, .aload_n 0, 1, [], []), (6, .getfield 14, 3, [3, 0, 3, 113], []), (9, .getfield 54, 3, [4, 1, 0, 99], []), (12, .if_icmp .ge 12, 3, [24], []), (15, .aload_n 0, 1, [], [])],
  [(16, .getfield 27, 3, [3, 3, 3, 118], []), (19, .iload_n 1, 1, [], []), (20, .iaload, 1, [], []), (21, .goto 4, 3, [25], []), (24, .iconst 0, 1, [], []), (25, .ireturn, 1, [1], [])]]
theorem k_X5_talkersOf : CdOk m_X5_talkersOf c_X5_talkersOf := ⟨by decide +kernel, allM_of trivial⟩
def c_X11_isIn : Cd := [
  [(0, .iload_n 0, 1, [], []), (1, .iload_n 1, 1, [], []), (2, .ishr, 1, [], []), (3, .iconst 1, 1, [], []), (4, .iand, 1, [], []), (5, .ifCond .eq 7, 3, [12], []), (8, .iconst 1, 1, [], []), (9, .goto 4, 3, [13], []), (12, .iconst 0, 1, [], []), (13, .ireturn, 1, [6], [])]]
theorem k_X11_isIn : CdOk m_X11_isIn c_X11_isIn := ⟨by decide +kernel, allM_of trivial⟩
def c_X5_addTalk : Cd := [
  [(0, .aload_n 0, 1, [], []), (1, .getfield 27, 3, [3, 3, 3, 118], []), (4, .iload_n 1, 1, [], []), (5, .dup2, 1, [], []), (6, .iaload, 1, [], []), (7, .iconst 1, 1, [], []), (8, .iload_n 2, 1, [], []), (9, .ishl, 1, [], []), (10, .ior, 1, [], []), (11, .iastore, 1, [], []), (12, .aload_n 0, 1, [], []), (13, .getfield 27, 3, [3, 3, 3, 118], [])],
  [(16, .iload_n 2, 1, [], []), (17, .dup2, 1, [], []), (18, .iaload, 1, [], []), (19, .iconst 1, 1, [], []), (20, .iload_n 1, 1, [], []), (21, .ishl, 1, [], []), (22, .ior, 1, [], []), (23, .iastore, 1, [], []), (24, .return_, 1, [], [])]]
theorem k_X5_addTalk : CdOk m_X5_addTalk c_X5_addTalk := ⟨by decide +kernel, allM_of trivial⟩
end
section
/-! ===== tables of the methods' code, 2 ===== -/
def m_X1_readTalks : MI := (yX1_readTalks, cX1_readTalks, 3, some .boolean, 2, 45, 0, [], 0)
def m_X5_addPlace : MI := (yX5_addPlace, cX5_addPlace, 4, none, 1, 22, 0, [], 0)
def m_X1_readPlace : MI := (yX1_readPlace, cX1_readPlace, 3, some .boolean, 3, 64, 0, [], 0)
def m_X5_isReader : MI := (yX5_isReader, cX5_isReader, 3, some .boolean, 0, 0, 0, [], 0)
def m_X8_canJoin : MI := (yX8_canJoin, cX8_canJoin, 6, some .boolean, 1, 60, 0, [], 0)
def m_X5_join : MI := (yX5_join, cX5_join, 3, none, 0, 0, 0, [], 0)
def m_X5_addMember : MI := (yX5_addMember, cX5_addMember, 6, none, 1, 22, 0, [], 0)
def m_X8_addMember : MI := (yX8_addMember, cX8_addMember, 7, none, 2, 47, 0, [], 0)
def m_X1_readMember : MI := (yX1_readMember, cX1_readMember, 6, some .boolean, 6, 130, 0, [], 0)
def m_X5_addLink : MI := (yX5_addLink, cX5_addLink, 3, none, 1, 22, 0, [], 0)
def m_X1_readLink : MI := (yX1_readLink, cX1_readLink, 3, some .boolean, 2, 45, 0, [], 0)
def m_X5_addWave : MI := (yX5_addWave, cX5_addWave, 1, none, 0, 0, 0, [], 0)
def m_X5_addToWave : MI := (yX5_addToWave, cX5_addToWave, 3, none, 0, 0, 0, [], 0)
def m_X1_readPlaceOfWave : MI := (yX1_readPlaceOfWave, cX1_readPlaceOfWave, 3, some .boolean, 2, 45, 0, [], 0)
def m_X1_readWave : MI := (yX1_readWave, cX1_readWave, 4, some .boolean, 3, 67, 0, [], 0)
def m_X1_readSetting : MI := (yX1_readSetting, cX1_readSetting, 3, some .boolean, 3, 64, 0, [], 0)
def m_X1_readRest : MI := (yX1_readRest, cX1_readRest, 2, some .boolean, 7, 155, 0, [], 0)
def m_X10_takeSign : MI := (yX10_takeSign, cX10_takeSign, 2, some .boolean, 2, 41, 0, [], 0)
def m_X1_readStatement : MI := (yX1_readStatement, cX1_readStatement, 3, some .boolean, 8, 176, 0, [], 0)
def m_X1_readAll : MI := (yX1_readAll, cX1_readAll, 2, some .boolean, 9, 198, 0, [], 0)
def m_X6_copyFrom : MI := (yX6_copyFrom, cX6_copyFrom, 2, none, 1, 60, 0, [], 0)
def m_X11_copyRow : MI := (yX11_copyRow, cX11_copyRow, 2, none, 1, 60, 0, [], 1)
def m_X5_copyFrom : MI := (yX5_copyFrom, cX5_copyFrom, 2, none, 2, 81, 0, [], 0)
def m_X3_copyFrom : MI := (yX3_copyFrom, cX3_copyFrom, 2, none, 2, 81, 0, [], 0)
def m_X8_copyFrom : MI := (yX8_copyFrom, cX8_copyFrom, 2, none, 3, 102, 0, [], 0)
def m_X8_replaceBy : MI := (yX8_replaceBy, cX8_replaceBy, 2, none, 4, 123, 0, [], 0)
def m_X4_forget : MI := (yX4_forget, cX4_forget, 1, none, 0, 0, 0, [], 0)
def m_X11_readText : MI := (yX11_readText, cX11_readText, 2, some .int, 10, 219, 1, [], 0)
def m_X5_numberOf : MI := (yX5_numberOf, cX5_numberOf, 2, some .int, 0, 0, 0, [], 0)
def m_X11_setting : MI := (yX11_setting, cX11_setting, 2, some .int, 6, 89, 1, [], 0)
def m_X11_needVersion : MI := (yX11_needVersion, cX11_needVersion, 2, none, 6, 89, 1, [], 0)
def m_X11_mayTalk : MI := (yX11_mayTalk, cX11_mayTalk, 3, some .boolean, 7, 110, 2, [], 0)
def m_X11_needFormat : MI := (yX11_needFormat, cX11_needFormat, 1, none, 6, 89, 1, [], 1)
def m_X5_readersOf : MI := (yX5_readersOf, cX5_readersOf, 4, some .int, 1, 22, 0, [], 0)
def m_X11_readers : MI := (yX11_readers, cX11_readers, 2, some .int, 7, 109, 1, [], 0)
theorem o_X1_readTalks : MOK m_X1_readTalks := MOKi (tbG_at (p := 534) (by decide +kernel)) (tbG_at (p := 27) (by decide +kernel)) (by decide +kernel) rfl rfl (tbG_at (p := 533) (by decide +kernel)) (tbG_atS (p := 6) (by decide +kernel))
theorem o_X5_addPlace : MOK m_X5_addPlace := MOKi (tbG_at (p := 557) (by decide +kernel)) (tbG_at (p := 23) (by decide +kernel)) (by decide +kernel) rfl rfl (tbG_at (p := 555) (by decide +kernel)) (tbG_at (p := 556) (by decide +kernel))
theorem o_X1_readPlace : MOK m_X1_readPlace := MOKi (tbG_at (p := 553) (by decide +kernel)) (tbG_at (p := 27) (by decide +kernel)) (by decide +kernel) rfl rfl (tbG_at (p := 552) (by decide +kernel)) (tbG_atS (p := 7) (by decide +kernel))
theorem o_X5_isReader : MOK m_X5_isReader := MOKi (tbG_at (p := 570) (by decide +kernel)) (tbG_at (p := 23) (by decide +kernel)) (by decide +kernel) rfl rfl (tbG_at (p := 568) (by decide +kernel)) (tbG_at (p := 569) (by decide +kernel))
theorem o_X8_canJoin : MOK m_X8_canJoin := MOKi (tbG_at (p := 565) (by decide +kernel)) (tbG_at (p := 22) (by decide +kernel)) (by decide +kernel) rfl rfl (tbG_at (p := 563) (by decide +kernel)) (tbG_at (p := 564) (by decide +kernel))
theorem o_X5_join : MOK m_X5_join := MOKi (tbG_at (p := 588) (by decide +kernel)) (tbG_at (p := 23) (by decide +kernel)) (by decide +kernel) rfl rfl (tbG_at (p := 587) (by decide +kernel)) (tbG_atS (p := 9) (by decide +kernel))
theorem o_X5_addMember : MOK m_X5_addMember := MOKi (tbG_at (p := 584) (by decide +kernel)) (tbG_at (p := 23) (by decide +kernel)) (by decide +kernel) rfl rfl (tbG_at (p := 582) (by decide +kernel)) (tbG_at (p := 583) (by decide +kernel))
theorem o_X8_addMember : MOK m_X8_addMember := MOKi (tbG_at (p := 580) (by decide +kernel)) (tbG_at (p := 22) (by decide +kernel)) (by decide +kernel) rfl rfl (tbG_at (p := 578) (by decide +kernel)) (tbG_at (p := 579) (by decide +kernel))
theorem o_X1_readMember : MOK m_X1_readMember := MOKi (tbG_at (p := 561) (by decide +kernel)) (tbG_at (p := 27) (by decide +kernel)) (by decide +kernel) rfl rfl (tbG_at (p := 560) (by decide +kernel)) (tbG_atS (p := 8) (by decide +kernel))
theorem o_X5_addLink : MOK m_X5_addLink := MOKi (tbG_at (p := 596) (by decide +kernel)) (tbG_at (p := 23) (by decide +kernel)) (by decide +kernel) rfl rfl (tbG_at (p := 594) (by decide +kernel)) (tbG_at (p := 595) (by decide +kernel))
theorem o_X1_readLink : MOK m_X1_readLink := MOKi (tbG_at (p := 592) (by decide +kernel)) (tbG_at (p := 27) (by decide +kernel)) (by decide +kernel) rfl rfl (tbG_at (p := 591) (by decide +kernel)) (tbG_atS (p := 10) (by decide +kernel))
theorem o_X5_addWave : MOK m_X5_addWave := MOKi (tbG_at (p := 604) (by decide +kernel)) (tbG_at (p := 23) (by decide +kernel)) (by decide +kernel) rfl rfl (tbG_at (p := 602) (by decide +kernel)) (tbG_at (p := 603) (by decide +kernel))
theorem o_X5_addToWave : MOK m_X5_addToWave := MOKi (tbG_at (p := 612) (by decide +kernel)) (tbG_at (p := 23) (by decide +kernel)) (by decide +kernel) rfl rfl (tbG_at (p := 610) (by decide +kernel)) (tbG_at (p := 611) (by decide +kernel))
theorem o_X1_readPlaceOfWave : MOK m_X1_readPlaceOfWave := MOKi (tbG_at (p := 608) (by decide +kernel)) (tbG_at (p := 27) (by decide +kernel)) (by decide +kernel) rfl rfl (tbG_at (p := 607) (by decide +kernel)) (tbG_atS (p := 12) (by decide +kernel))
theorem o_X1_readWave : MOK m_X1_readWave := MOKi (tbG_at (p := 600) (by decide +kernel)) (tbG_at (p := 27) (by decide +kernel)) (by decide +kernel) rfl rfl (tbG_at (p := 599) (by decide +kernel)) (tbG_atS (p := 11) (by decide +kernel))
theorem o_X1_readSetting : MOK m_X1_readSetting := MOKi (tbG_at (p := 616) (by decide +kernel)) (tbG_at (p := 27) (by decide +kernel)) (by decide +kernel) rfl rfl (tbG_at (p := 615) (by decide +kernel)) (tbG_atS (p := 13) (by decide +kernel))
theorem o_X1_readRest : MOK m_X1_readRest := MOKi (tbG_at (p := 505) (by decide +kernel)) (tbG_at (p := 27) (by decide +kernel)) (by decide +kernel) rfl rfl (tbG_at (p := 504) (by decide +kernel)) (tbG_atS (p := 4) (by decide +kernel))
theorem o_X10_takeSign : MOK m_X10_takeSign := MOKi (tbG_at (p := 620) (by decide +kernel)) (tbG_at (p := 21) (by decide +kernel)) (by decide +kernel) rfl rfl (tbG_at (p := 618) (by decide +kernel)) (tbG_at (p := 619) (by decide +kernel))
theorem o_X1_readStatement : MOK m_X1_readStatement := MOKi (tbG_at (p := 423) (by decide +kernel)) (tbG_at (p := 27) (by decide +kernel)) (by decide +kernel) rfl rfl (tbG_at (p := 422) (by decide +kernel)) (tbG_atS (p := 2) (by decide +kernel))
theorem o_X1_readAll : MOK m_X1_readAll := MOKi (tbG_at (p := 401) (by decide +kernel)) (tbG_at (p := 27) (by decide +kernel)) (by decide +kernel) rfl rfl (tbG_at (p := 399) (by decide +kernel)) (tbG_at (p := 400) (by decide +kernel))
theorem o_X6_copyFrom : MOK m_X6_copyFrom := MOKi (tbG_at (p := 695) (by decide +kernel)) (tbG_at (p := 24) (by decide +kernel)) (by decide +kernel) rfl rfl (tbG_at (p := 693) (by decide +kernel)) (tbG_at (p := 694) (by decide +kernel))
theorem o_X11_copyRow : MOK m_X11_copyRow := MOKs (tbG_at (p := 704) (by decide +kernel)) (tbG_at (p := 20) (by decide +kernel)) (by decide +kernel) rfl rfl (tbG_at (p := 703) (by decide +kernel))
theorem o_X5_copyFrom : MOK m_X5_copyFrom := MOKi (tbG_at (p := 691) (by decide +kernel)) (tbG_at (p := 23) (by decide +kernel)) (by decide +kernel) rfl rfl (tbG_at (p := 689) (by decide +kernel)) (tbG_at (p := 690) (by decide +kernel))
theorem o_X3_copyFrom : MOK m_X3_copyFrom := MOKi (tbG_at (p := 715) (by decide +kernel)) (tbG_at (p := 25) (by decide +kernel)) (by decide +kernel) rfl rfl (tbG_at (p := 713) (by decide +kernel)) (tbG_at (p := 714) (by decide +kernel))
theorem o_X8_copyFrom : MOK m_X8_copyFrom := MOKi (tbG_at (p := 710) (by decide +kernel)) (tbG_at (p := 22) (by decide +kernel)) (by decide +kernel) rfl rfl (tbG_at (p := 708) (by decide +kernel)) (tbG_at (p := 709) (by decide +kernel))
theorem o_X8_replaceBy : MOK m_X8_replaceBy := MOKi (tbG_at (p := 687) (by decide +kernel)) (tbG_at (p := 22) (by decide +kernel)) (by decide +kernel) rfl rfl (tbG_at (p := 685) (by decide +kernel)) (tbG_at (p := 686) (by decide +kernel))
theorem o_X4_forget : MOK m_X4_forget := MOKi (tbG_at (p := 720) (by decide +kernel)) (tbG_at (p := 26) (by decide +kernel)) (by decide +kernel) rfl rfl (tbG_at (p := 718) (by decide +kernel)) (tbG_at (p := 719) (by decide +kernel))
theorem o_X11_readText : MOK m_X11_readText := MOKi (tbG_at (p := 397) (by decide +kernel)) (tbG_at (p := 20) (by decide +kernel)) (by decide +kernel) rfl rfl (tbG_at (p := 395) (by decide +kernel)) (tbG_at (p := 396) (by decide +kernel))
theorem o_X5_numberOf : MOK m_X5_numberOf := MOKi (tbG_at (p := 1358) (by decide +kernel)) (tbG_at (p := 23) (by decide +kernel)) (by decide +kernel) rfl rfl (tbG_at (p := 1356) (by decide +kernel)) (tbG_at (p := 1357) (by decide +kernel))
theorem o_X11_setting : MOK m_X11_setting := MOKi (tbG_at (p := 1354) (by decide +kernel)) (tbG_at (p := 20) (by decide +kernel)) (by decide +kernel) rfl rfl (tbG_at (p := 1352) (by decide +kernel)) (tbG_at (p := 1353) (by decide +kernel))
theorem o_X11_needVersion : MOK m_X11_needVersion := MOKi (tbG_at (p := 1439) (by decide +kernel)) (tbG_at (p := 20) (by decide +kernel)) (by decide +kernel) rfl rfl (tbG_at (p := 1438) (by decide +kernel)) (tbG_atS (p := 24) (by decide +kernel))
theorem o_X11_mayTalk : MOK m_X11_mayTalk := MOKi (tbG_at (p := 1730) (by decide +kernel)) (tbG_at (p := 20) (by decide +kernel)) (by decide +kernel) rfl rfl (tbG_at (p := 1728) (by decide +kernel)) (tbG_at (p := 1729) (by decide +kernel))
theorem o_X11_needFormat : MOK m_X11_needFormat := MOKs (tbG_at (p := 1607) (by decide +kernel)) (tbG_at (p := 20) (by decide +kernel)) (by decide +kernel) rfl rfl (tbG_at (p := 1606) (by decide +kernel))
theorem o_X5_readersOf : MOK m_X5_readersOf := MOKi (tbG_at (p := 1619) (by decide +kernel)) (tbG_at (p := 23) (by decide +kernel)) (by decide +kernel) rfl rfl (tbG_at (p := 1617) (by decide +kernel)) (tbG_at (p := 1618) (by decide +kernel))
theorem o_X11_readers : MOK m_X11_readers := MOKi (tbG_at (p := 1721) (by decide +kernel)) (tbG_at (p := 20) (by decide +kernel)) (by decide +kernel) rfl rfl (tbG_at (p := 1719) (by decide +kernel)) (tbG_at (p := 1720) (by decide +kernel))
def c_X1_readTalks : Cd := [
  [(0, .aload_n 0, 1, [], []), (1, .getfield 15, 3, [0, 0, 3, 308], []), (4, .aload_n 0, 1, [], []), (5, .getfield 29, 3, [0, 2, 3, 310], []), (8, .getfield 82, 3, [3, 0, 3, 114], []), (11, .invokevirtual 142, 3, [0, 1, 1, 7, 0, 535], [m_X10_findName]), (14, .istore_n 1, 1, [], []), (15, .iload_n 1, 1, [], [])],
  [(16, .iconst (-1), 1, [], []), (17, .if_icmp .ne 5, 3, [22], []), (20, .iconst 0, 1, [], []), (21, .ireturn, 1, [6], []), (22, .aload_n 0, 1, [], []), (23, .getfield 15, 3, [0, 0, 3, 308], []), (26, .invokevirtual 62, 3, [0, 0, 0, 7, 0, 501], [m_X10_advance]), (29, .aload_n 0, 1, [], []), (30, .getfield 15, 3, [0, 0, 3, 308], [])],
  [(33, .aload_n 0, 1, [], []), (34, .getfield 29, 3, [0, 2, 3, 310], []), (37, .getfield 82, 3, [3, 0, 3, 114], []), (40, .invokevirtual 142, 3, [0, 1, 1, 7, 0, 535], [m_X10_findName]), (43, .istore_n 2, 1, [], []), (44, .iload_n 2, 1, [], []), (45, .iconst (-1), 1, [], []), (46, .if_icmp .ne 5, 3, [51], [])],
  [(49, .iconst 0, 1, [], []), (50, .ireturn, 1, [6], []), (51, .iload_n 2, 1, [], []), (52, .iload_n 1, 1, [], []), (53, .if_icmp .ne 12, 3, [65], []), (56, .aload_n 0, 1, [], []), (57, .getfield 15, 3, [0, 0, 3, 308], []), (60, .iconst 3, 1, [], []), (61, .invokevirtual 54, 3, [0, 1, 1, 7, 0, 481], [m_X10_fail])],
  [(64, .ireturn, 1, [6], []), (65, .aload_n 0, 1, [], []), (66, .getfield 29, 3, [0, 2, 3, 310], []), (69, .iload_n 1, 1, [], []), (70, .invokevirtual 146, 3, [0, 1, 1, 3, 0, 539], [m_X5_talkersOf]), (73, .iload_n 2, 1, [], []), (74, .invokestatic 150, 3, [2, 2, 1, 0, 0, 4], [m_X11_isIn]), (77, .ifCond .eq 12, 3, [89], [])],
  [(80, .aload_n 0, 1, [], []), (81, .getfield 15, 3, [0, 0, 3, 308], []), (84, .iconst 4, 1, [], []), (85, .invokevirtual 54, 3, [0, 1, 1, 7, 0, 481], [m_X10_fail]), (88, .ireturn, 1, [6], []), (89, .aload_n 0, 1, [], []), (90, .getfield 15, 3, [0, 0, 3, 308], []), (93, .invokevirtual 62, 3, [0, 0, 0, 7, 0, 501], [m_X10_advance])],
  [(96, .aload_n 0, 1, [], []), (97, .getfield 29, 3, [0, 2, 3, 310], []), (100, .iload_n 1, 1, [], []), (101, .iload_n 2, 1, [], []), (102, .invokevirtual 154, 3, [0, 2, 0, 3, 0, 546], [m_X5_addTalk]), (105, .iconst 1, 1, [], []), (106, .ireturn, 1, [6], [])]]
theorem k_X1_readTalks : CdOk m_X1_readTalks c_X1_readTalks := ⟨by decide +kernel, allM_of ⟨o_X10_findName, ⟨o_X10_advance, ⟨o_X10_findName, ⟨o_X10_fail, ⟨o_X5_talkersOf, ⟨o_X11_isIn, ⟨o_X10_fail, ⟨o_X10_advance, ⟨o_X5_addTalk, trivial⟩⟩⟩⟩⟩⟩⟩⟩⟩⟩
def c_X5_addPlace : Cd := [
  [(0, .aload_n 0, 1, [], []), (1, .getfield 30, 3, [3, 4, 3, 119], []), (4, .getfield 54, 3, [4, 1, 0, 99], []), (7, .istore_n 3, 1, [], []), (8, .iload_n 3, 1, [], []), (9, .iconst 5, 1, [], []), (10, .if_icmp .ge 25, 3, [35], []), (13, .aload_n 0, 1, [], []), (14, .getfield 30, 3, [3, 4, 3, 119], [])],
  [(17, .lload_n 1, 1, [], []), (18, .invokevirtual 87, 3, [0, 1, 0, 4, 0, 527], [m_X6_add]), (21, .aload_n 0, 1, [], []), (22, .getfield 33, 3, [3, 5, 3, 122], []), (25, .iload_n 3, 1, [], []), (26, .iconst (-1), 1, [], []), (27, .iastore, 1, [], []), (28, .aload_n 0, 1, [], []), (29, .getfield 36, 3, [3, 6, 3, 124], [])],
  [(32, .iload_n 3, 1, [], []), (33, .iconst 0, 1, [], []), (34, .iastore, 1, [], []), (35, .return_, 1, [], [])]]
theorem k_X5_addPlace : CdOk m_X5_addPlace c_X5_addPlace := ⟨by decide +kernel, allM_of ⟨o_X6_add, trivial⟩⟩
def c_X1_readPlace : Cd := [
  [(0, .aload_n 0, 1, [], []), (1, .getfield 15, 3, [0, 0, 3, 308], []), (4, .aload_n 0, 1, [], []), (5, .getfield 29, 3, [0, 2, 3, 310], []), (8, .getfield 91, 3, [3, 4, 3, 120], []), (11, .invokevirtual 130, 3, [0, 1, 2, 7, 0, 510], [m_X10_takeNewName]), (14, .lstore_n 1, 1, [], []), (15, .lload_n 1, 1, [], [])],
  [(16, .lconst 0, 1, [], []), (17, .lcmp, 1, [], []), (18, .ifCond .ne 5, 3, [23], []), (21, .iconst 0, 1, [], []), (22, .ireturn, 1, [6], []), (23, .aload_n 0, 1, [], []), (24, .getfield 29, 3, [0, 2, 3, 310], []), (27, .lload_n 1, 1, [], []), (28, .invokevirtual 158, 3, [0, 1, 0, 3, 0, 554], [m_X5_addPlace]), (31, .iconst 1, 1, [], [])],
  [(32, .ireturn, 1, [6], [])]]
theorem k_X1_readPlace : CdOk m_X1_readPlace c_X1_readPlace := ⟨by decide +kernel, allM_of ⟨o_X10_takeNewName, ⟨o_X5_addPlace, trivial⟩⟩⟩
def c_X5_isReader : Cd := [
  [(0, .iload_n 1, 1, [], []), (1, .ifCond .lt 38, 3, [39], []), (4, .iload_n 1, 1, [], []), (5, .aload_n 0, 1, [], []), (6, .getfield 14, 3, [3, 0, 3, 113], []), (9, .getfield 54, 3, [4, 1, 0, 99], []), (12, .if_icmp .ge 27, 3, [39], []), (15, .aload_n 0, 1, [], [])],
  [(16, .getfield 20, 3, [3, 1, 3, 116], []), (19, .iload_n 1, 1, [], []), (20, .iaload, 1, [], []), (21, .iload_n 2, 1, [], []), (22, .if_icmp .gt 17, 3, [39], []), (25, .iload_n 2, 1, [], []), (26, .aload_n 0, 1, [], []), (27, .getfield 24, 3, [3, 2, 3, 117], []), (30, .iload_n 1, 1, [], []), (31, .iaload, 1, [], [])],
  [(32, .if_icmp .gt 7, 3, [39], []), (35, .iconst 1, 1, [], []), (36, .goto 4, 3, [40], []), (39, .iconst 0, 1, [], []), (40, .ireturn, 1, [6], [])]]
theorem k_X5_isReader : CdOk m_X5_isReader c_X5_isReader := ⟨by decide +kernel, allM_of trivial⟩
def c_X8_canJoin : Cd := [
  [(0, .aload_n 0, 1, [], []), (1, .getfield 31, 3, [6, 0, 3, 225], []), (4, .iload_n 2, 1, [], []), (5, .invokevirtual 100, 3, [0, 1, 1, 3, 0, 566], [m_X5_talkersOf]), (8, .istore_n 3, 1, [], []), (9, .aload_n 0, 1, [], []), (10, .getfield 31, 3, [6, 0, 3, 225], []), (13, .iload_n 2, 1, [], []), (14, .aload_n 0, 1, [], []), (15, .getfield 42, 3, [6, 2, 0, 228], [])],
  [(18, .invokevirtual 104, 3, [0, 2, 1, 3, 0, 567], [m_X5_isReader]), (21, .istore 4, 2, [], []), (23, .iconst 0, 1, [], []), (24, .istore 5, 2, [], []), (26, .iload 5, 2, [], []), (28, .aload_n 0, 1, [], []), (29, .getfield 31, 3, [6, 0, 3, 225], [])],
  [(32, .getfield 89, 3, [3, 8, 3, 131], []), (35, .getfield 93, 3, [4, 1, 0, 102], []), (38, .if_icmp .ge 69, 3, [107], []), (41, .iload 4, 2, [], []), (43, .aload_n 0, 1, [], []), (44, .getfield 9, 3, [6, 3, 3, 231], []), (47, .iload 5, 2, [], [])],
  [(49, .iaload, 1, [], []), (50, .iload_n 2, 1, [], []), (51, .isub, 1, [], []), (52, .invokestatic 108, 3, [12, 571], []), (55, .aload_n 0, 1, [], []), (56, .getfield 31, 3, [6, 0, 3, 225], []), (59, .getfield 113, 3, [3, 13, 0, 145], []), (62, .if_icmp .gt 35, 3, [97], [])],
  [(65, .aload_n 0, 1, [], []), (66, .getfield 31, 3, [6, 0, 3, 225], []), (69, .getfield 116, 3, [3, 9, 3, 133], []), (72, .iload 5, 2, [], []), (74, .iaload, 1, [], []), (75, .iload_n 1, 1, [], []), (76, .if_icmp .ne 17, 3, [93], []), (79, .iload_n 3, 1, [], [])],
  [(80, .aload_n 0, 1, [], []), (81, .getfield 9, 3, [6, 3, 3, 231], []), (84, .iload 5, 2, [], []), (86, .iaload, 1, [], []), (87, .invokestatic 119, 3, [2, 2, 1, 0, 0, 0], [m_X11_isIn]), (90, .ifCond .eq 7, 3, [97], []), (93, .iconst 1, 1, [], []), (94, .goto 4, 3, [98], [])],
  [(97, .iconst 0, 1, [], []), (98, .iand, 1, [], []), (99, .istore 4, 2, [], []), (101, .iinc 5 1, 3, [], []), (104, .goto (-78), 3, [26], []), (107, .iload 4, 2, [], []), (109, .ireturn, 1, [6], [])]]
theorem k_X8_canJoin : CdOk m_X8_canJoin c_X8_canJoin := ⟨by decide +kernel, allM_of ⟨o_X5_talkersOf, ⟨o_X5_isReader, ⟨o_X11_isIn, trivial⟩⟩⟩⟩
def c_X5_join : Cd := [
  [(0, .aload_n 0, 1, [], []), (1, .getfield 48, 3, [3, 10, 3, 135], []), (4, .iload_n 1, 1, [], []), (5, .dup2, 1, [], []), (6, .iaload, 1, [], []), (7, .iconst 1, 1, [], []), (8, .iload_n 2, 1, [], []), (9, .ishl, 1, [], []), (10, .ior, 1, [], []), (11, .iastore, 1, [], []), (12, .aload_n 0, 1, [], []), (13, .getfield 48, 3, [3, 10, 3, 135], [])],
  [(16, .iload_n 2, 1, [], []), (17, .dup2, 1, [], []), (18, .iaload, 1, [], []), (19, .iconst 1, 1, [], []), (20, .iload_n 1, 1, [], []), (21, .ishl, 1, [], []), (22, .ior, 1, [], []), (23, .iastore, 1, [], []), (24, .return_, 1, [], [])]]
theorem k_X5_join : CdOk m_X5_join c_X5_join := ⟨by decide +kernel, allM_of trivial⟩
def c_X5_addMember : Cd := [
  [(0, .aload_n 0, 1, [], []), (1, .getfield 42, 3, [3, 8, 3, 128], []), (4, .getfield 54, 3, [4, 1, 0, 99], []), (7, .istore 4, 2, [], []), (9, .iload 4, 2, [], []), (11, .bipush 12, 2, [], []), (13, .if_icmp .lt 4, 3, [17], [])],
  [(16, .return_, 1, [], []), (17, .aload_n 0, 1, [], []), (18, .getfield 42, 3, [3, 8, 3, 128], []), (21, .lload_n 1, 1, [], []), (22, .invokevirtual 87, 3, [0, 1, 0, 4, 0, 527], [m_X6_add]), (25, .aload_n 0, 1, [], []), (26, .getfield 45, 3, [3, 9, 3, 132], []), (29, .iload 4, 2, [], []), (31, .iload_n 3, 1, [], [])],
  [(32, .iastore, 1, [], []), (33, .aload_n 0, 1, [], []), (34, .getfield 48, 3, [3, 10, 3, 135], []), (37, .iload 4, 2, [], []), (39, .iconst 0, 1, [], []), (40, .iastore, 1, [], []), (41, .iconst 0, 1, [], []), (42, .istore 5, 2, [], []), (44, .iload 5, 2, [], []), (46, .iload 4, 2, [], [])],
  [(48, .if_icmp .ge 28, 3, [76], []), (51, .aload_n 0, 1, [], []), (52, .getfield 45, 3, [3, 9, 3, 132], []), (55, .iload 5, 2, [], []), (57, .iaload, 1, [], []), (58, .iload_n 3, 1, [], []), (59, .if_icmp .ne 11, 3, [70], []), (62, .aload_n 0, 1, [], []), (63, .iload 4, 2, [], [])],
  [(65, .iload 5, 2, [], []), (67, .invokevirtual 91, 3, [0, 2, 0, 3, 0, 585], [m_X5_join]), (70, .iinc 5 1, 3, [], []), (73, .goto (-29), 3, [44], []), (76, .aload_n 0, 1, [], []), (77, .getfield 36, 3, [3, 6, 3, 124], [])],
  [(80, .iload_n 3, 1, [], []), (81, .dup2, 1, [], []), (82, .iaload, 1, [], []), (83, .iconst 1, 1, [], []), (84, .iload 4, 2, [], []), (86, .ishl, 1, [], []), (87, .ior, 1, [], []), (88, .iastore, 1, [], []), (89, .aload_n 0, 1, [], []), (90, .getfield 33, 3, [3, 5, 3, 122], []), (93, .iload_n 3, 1, [], []), (94, .iaload, 1, [], []), (95, .istore 5, 2, [], [])],
  [(97, .iload 5, 2, [], []), (99, .ifCond .lt 26, 3, [125], []), (102, .iload 5, 2, [], []), (104, .aload_n 0, 1, [], []), (105, .getfield 61, 3, [3, 12, 0, 141], []), (108, .if_icmp .ge 17, 3, [125], []), (111, .aload_n 0, 1, [], [])],
  [(112, .getfield 39, 3, [3, 7, 3, 126], []), (115, .iload 5, 2, [], []), (117, .dup2, 1, [], []), (118, .iaload, 1, [], []), (119, .iconst 1, 1, [], []), (120, .iload 4, 2, [], []), (122, .ishl, 1, [], []), (123, .ior, 1, [], []), (124, .iastore, 1, [], []), (125, .return_, 1, [], [])]]
theorem k_X5_addMember : CdOk m_X5_addMember c_X5_addMember := ⟨by decide +kernel, allM_of ⟨o_X6_add, ⟨o_X5_join, trivial⟩⟩⟩
def c_X8_addMember : Cd := [
  [(0, .aload_n 0, 1, [], []), (1, .getfield 31, 3, [6, 0, 3, 225], []), (4, .getfield 89, 3, [3, 8, 3, 131], []), (7, .getfield 93, 3, [4, 1, 0, 102], []), (10, .istore 6, 2, [], []), (12, .iload 6, 2, [], []), (14, .bipush 12, 2, [], [])],
  [(16, .if_icmp .ge 68, 3, [84], []), (19, .aload_n 0, 1, [], []), (20, .getfield 31, 3, [6, 0, 3, 225], []), (23, .lload_n 1, 1, [], []), (24, .iload_n 3, 1, [], []), (25, .invokevirtual 96, 3, [0, 2, 0, 3, 0, 581], [m_X5_addMember]), (28, .aload_n 0, 1, [], []), (29, .getfield 9, 3, [6, 3, 3, 231], [])],
  [(32, .iload 6, 2, [], []), (34, .iload 4, 2, [], []), (36, .iastore, 1, [], []), (37, .aload_n 0, 1, [], []), (38, .getfield 15, 3, [6, 4, 3, 233], []), (41, .iload 6, 2, [], []), (43, .iload 4, 2, [], []), (45, .iastore, 1, [], []), (46, .aload_n 0, 1, [], []), (47, .getfield 18, 3, [6, 5, 3, 234], [])],
  [(50, .iload 6, 2, [], []), (52, .iconst (-1), 1, [], []), (53, .iastore, 1, [], []), (54, .aload_n 0, 1, [], []), (55, .getfield 21, 3, [6, 6, 3, 235], []), (58, .iload 6, 2, [], []), (60, .iconst 0, 1, [], []), (61, .iastore, 1, [], []), (62, .aload_n 0, 1, [], []), (63, .dup, 1, [], [])],
  [(64, .getfield 48, 3, [6, 8, 0, 238], []), (67, .iload 5, 2, [], []), (69, .ifCond .eq 10, 3, [79], []), (72, .iconst 1, 1, [], []), (73, .iload 6, 2, [], []), (75, .ishl, 1, [], []), (76, .goto 4, 3, [80], []), (79, .iconst 0, 1, [], [])],
  [(80, .ior, 1, [], []), (81, .putfield 48, 3, [6, 8, 0, 238], []), (84, .return_, 1, [], [])]]
theorem k_X8_addMember : CdOk m_X8_addMember c_X8_addMember := ⟨by decide +kernel, allM_of ⟨o_X5_addMember, trivial⟩⟩
def c_X1_readMember : Cd := [
  [(0, .aload_n 0, 1, [], []), (1, .getfield 15, 3, [0, 0, 3, 308], []), (4, .aload_n 0, 1, [], []), (5, .getfield 29, 3, [0, 2, 3, 310], []), (8, .getfield 94, 3, [3, 8, 3, 130], []), (11, .invokevirtual 130, 3, [0, 1, 2, 7, 0, 510], [m_X10_takeNewName]), (14, .lstore_n 1, 1, [], []), (15, .lload_n 1, 1, [], [])],
  [(16, .lconst 0, 1, [], []), (17, .lcmp, 1, [], []), (18, .ifCond .ne 5, 3, [23], []), (21, .iconst 0, 1, [], []), (22, .ireturn, 1, [6], []), (23, .aload_n 0, 1, [], []), (24, .getfield 15, 3, [0, 0, 3, 308], []), (27, .aload_n 0, 1, [], []), (28, .getfield 29, 3, [0, 2, 3, 310], []), (31, .getfield 91, 3, [3, 4, 3, 120], [])],
  [(34, .invokevirtual 142, 3, [0, 1, 1, 7, 0, 535], [m_X10_findName]), (37, .istore_n 3, 1, [], []), (38, .iload_n 3, 1, [], []), (39, .iconst (-1), 1, [], []), (40, .if_icmp .ne 5, 3, [45], []), (43, .iconst 0, 1, [], []), (44, .ireturn, 1, [6], []), (45, .aload_n 0, 1, [], []), (46, .getfield 15, 3, [0, 0, 3, 308], [])],
  [(49, .invokevirtual 62, 3, [0, 0, 0, 7, 0, 501], [m_X10_advance]), (52, .aload_n 0, 1, [], []), (53, .getfield 15, 3, [0, 0, 3, 308], []), (56, .aload_n 0, 1, [], []), (57, .getfield 29, 3, [0, 2, 3, 310], []), (60, .getfield 82, 3, [3, 0, 3, 114], []), (63, .invokevirtual 142, 3, [0, 1, 1, 7, 0, 535], [m_X10_findName])],
  [(66, .istore 4, 2, [], []), (68, .iload 4, 2, [], []), (70, .iconst (-1), 1, [], []), (71, .if_icmp .ne 5, 3, [76], []), (74, .iconst 0, 1, [], []), (75, .ireturn, 1, [6], []), (76, .aload_n 0, 1, [], []), (77, .getfield 19, 3, [0, 1, 3, 309], [])],
  [(80, .iload_n 3, 1, [], []), (81, .iload 4, 2, [], []), (83, .invokevirtual 162, 3, [0, 2, 1, 6, 0, 562], [m_X8_canJoin]), (86, .ifCond .ne 12, 3, [98], []), (89, .aload_n 0, 1, [], []), (90, .getfield 15, 3, [0, 0, 3, 308], []), (93, .iconst 5, 1, [], []), (94, .invokevirtual 54, 3, [0, 1, 1, 7, 0, 481], [m_X10_fail])],
  [(97, .ireturn, 1, [6], []), (98, .aload_n 0, 1, [], []), (99, .getfield 15, 3, [0, 0, 3, 308], []), (102, .invokevirtual 62, 3, [0, 0, 0, 7, 0, 501], [m_X10_advance]), (105, .aload_n 0, 1, [], []), (106, .getfield 15, 3, [0, 0, 3, 308], []), (109, .ldc 165, 2, [1084], []), (111, .invokevirtual 167, 3, [0, 1, 1, 7, 0, 576], [m_X10_isWord])],
  [(114, .istore 5, 2, [], []), (116, .iload 5, 2, [], []), (118, .ifCond .eq 10, 3, [128], []), (121, .aload_n 0, 1, [], []), (122, .getfield 15, 3, [0, 0, 3, 308], []), (125, .invokevirtual 62, 3, [0, 0, 0, 7, 0, 501], [m_X10_advance])],
  [(128, .aload_n 0, 1, [], []), (129, .getfield 19, 3, [0, 1, 3, 309], []), (132, .lload_n 1, 1, [], []), (133, .iload_n 3, 1, [], []), (134, .iload 4, 2, [], []), (136, .iload 5, 2, [], []), (138, .invokevirtual 171, 3, [0, 4, 0, 6, 0, 577], [m_X8_addMember]), (141, .iconst 1, 1, [], []), (142, .ireturn, 1, [6], [])]]
theorem k_X1_readMember : CdOk m_X1_readMember c_X1_readMember := ⟨by decide +kernel, allM_of ⟨o_X10_takeNewName, ⟨o_X10_findName, ⟨o_X10_advance, ⟨o_X10_findName, ⟨o_X8_canJoin, ⟨o_X10_fail, ⟨o_X10_advance, ⟨o_X10_isWord, ⟨o_X10_advance, ⟨o_X8_addMember, trivial⟩⟩⟩⟩⟩⟩⟩⟩⟩⟩⟩
def c_X5_addLink : Cd := [
  [(0, .aload_n 0, 1, [], []), (1, .iload_n 1, 1, [], []), (2, .iload_n 2, 1, [], []), (3, .invokevirtual 91, 3, [0, 2, 0, 3, 0, 585], [m_X5_join]), (6, .aload_n 0, 1, [], []), (7, .dup, 1, [], []), (8, .getfield 58, 3, [3, 11, 0, 139], []), (11, .iconst 1, 1, [], []), (12, .iadd, 1, [], []), (13, .putfield 58, 3, [3, 11, 0, 139], [])],
  [(16, .return_, 1, [], [])]]
theorem k_X5_addLink : CdOk m_X5_addLink c_X5_addLink := ⟨by decide +kernel, allM_of ⟨o_X5_join, trivial⟩⟩
def c_X1_readLink : Cd := [
  [(0, .aload_n 0, 1, [], []), (1, .getfield 15, 3, [0, 0, 3, 308], []), (4, .aload_n 0, 1, [], []), (5, .getfield 29, 3, [0, 2, 3, 310], []), (8, .getfield 94, 3, [3, 8, 3, 130], []), (11, .invokevirtual 142, 3, [0, 1, 1, 7, 0, 535], [m_X10_findName]), (14, .istore_n 1, 1, [], []), (15, .iload_n 1, 1, [], [])],
  [(16, .iconst (-1), 1, [], []), (17, .if_icmp .ne 5, 3, [22], []), (20, .iconst 0, 1, [], []), (21, .ireturn, 1, [6], []), (22, .aload_n 0, 1, [], []), (23, .getfield 15, 3, [0, 0, 3, 308], []), (26, .invokevirtual 62, 3, [0, 0, 0, 7, 0, 501], [m_X10_advance]), (29, .aload_n 0, 1, [], []), (30, .getfield 15, 3, [0, 0, 3, 308], [])],
  [(33, .aload_n 0, 1, [], []), (34, .getfield 29, 3, [0, 2, 3, 310], []), (37, .getfield 94, 3, [3, 8, 3, 130], []), (40, .invokevirtual 142, 3, [0, 1, 1, 7, 0, 535], [m_X10_findName]), (43, .istore_n 2, 1, [], []), (44, .iload_n 2, 1, [], []), (45, .iconst (-1), 1, [], []), (46, .if_icmp .ne 5, 3, [51], [])],
  [(49, .iconst 0, 1, [], []), (50, .ireturn, 1, [6], []), (51, .aload_n 0, 1, [], []), (52, .getfield 29, 3, [0, 2, 3, 310], []), (55, .getfield 175, 3, [3, 9, 3, 134], []), (58, .iload_n 1, 1, [], []), (59, .iaload, 1, [], []), (60, .aload_n 0, 1, [], []), (61, .getfield 29, 3, [0, 2, 3, 310], [])],
  [(64, .getfield 175, 3, [3, 9, 3, 134], []), (67, .iload_n 2, 1, [], []), (68, .iaload, 1, [], []), (69, .if_icmp .ne 12, 3, [81], []), (72, .aload_n 0, 1, [], []), (73, .getfield 15, 3, [0, 0, 3, 308], []), (76, .iconst 3, 1, [], []), (77, .invokevirtual 54, 3, [0, 1, 1, 7, 0, 481], [m_X10_fail])],
  [(80, .ireturn, 1, [6], []), (81, .aload_n 0, 1, [], []), (82, .getfield 29, 3, [0, 2, 3, 310], []), (85, .getfield 178, 3, [3, 10, 3, 136], []), (88, .iload_n 1, 1, [], []), (89, .iaload, 1, [], []), (90, .iload_n 2, 1, [], []), (91, .invokestatic 150, 3, [2, 2, 1, 0, 0, 4], [m_X11_isIn]), (94, .ifCond .eq 12, 3, [106], [])],
  [(97, .aload_n 0, 1, [], []), (98, .getfield 15, 3, [0, 0, 3, 308], []), (101, .iconst 4, 1, [], []), (102, .invokevirtual 54, 3, [0, 1, 1, 7, 0, 481], [m_X10_fail]), (105, .ireturn, 1, [6], []), (106, .aload_n 0, 1, [], []), (107, .getfield 29, 3, [0, 2, 3, 310], []), (110, .aload_n 0, 1, [], []), (111, .getfield 19, 3, [0, 1, 3, 309], [])],
  [(114, .getfield 181, 3, [6, 3, 3, 232], []), (117, .iload_n 1, 1, [], []), (118, .iaload, 1, [], []), (119, .invokevirtual 146, 3, [0, 1, 1, 3, 0, 539], [m_X5_talkersOf]), (122, .aload_n 0, 1, [], []), (123, .getfield 19, 3, [0, 1, 3, 309], []), (126, .getfield 181, 3, [6, 3, 3, 232], [])],
  [(129, .iload_n 2, 1, [], []), (130, .iaload, 1, [], []), (131, .invokestatic 150, 3, [2, 2, 1, 0, 0, 4], [m_X11_isIn]), (134, .ifCond .ne 12, 3, [146], []), (137, .aload_n 0, 1, [], []), (138, .getfield 15, 3, [0, 0, 3, 308], []), (141, .iconst 5, 1, [], []), (142, .invokevirtual 54, 3, [0, 1, 1, 7, 0, 481], [m_X10_fail])],
  [(145, .ireturn, 1, [6], []), (146, .aload_n 0, 1, [], []), (147, .getfield 15, 3, [0, 0, 3, 308], []), (150, .invokevirtual 62, 3, [0, 0, 0, 7, 0, 501], [m_X10_advance]), (153, .aload_n 0, 1, [], []), (154, .getfield 29, 3, [0, 2, 3, 310], []), (157, .iload_n 1, 1, [], []), (158, .iload_n 2, 1, [], []), (159, .invokevirtual 184, 3, [0, 2, 0, 3, 0, 593], [m_X5_addLink])],
  [(162, .iconst 1, 1, [], []), (163, .ireturn, 1, [6], [])]]
theorem k_X1_readLink : CdOk m_X1_readLink c_X1_readLink := ⟨by decide +kernel, allM_of ⟨o_X10_findName, ⟨o_X10_advance, ⟨o_X10_findName, ⟨o_X10_fail, ⟨o_X11_isIn, ⟨o_X10_fail, ⟨o_X5_talkersOf, ⟨o_X11_isIn, ⟨o_X10_fail, ⟨o_X10_advance, ⟨o_X5_addLink, trivial⟩⟩⟩⟩⟩⟩⟩⟩⟩⟩⟩⟩
def c_X5_addWave : Cd := [
  [(0, .aload_n 0, 1, [], []), (1, .getfield 61, 3, [3, 12, 0, 141], []), (4, .iconst 5, 1, [], []), (5, .if_icmp .ge 23, 3, [28], []), (8, .aload_n 0, 1, [], []), (9, .getfield 39, 3, [3, 7, 3, 126], []), (12, .aload_n 0, 1, [], []), (13, .getfield 61, 3, [3, 12, 0, 141], [])],
  [(16, .iconst 0, 1, [], []), (17, .iastore, 1, [], []), (18, .aload_n 0, 1, [], []), (19, .dup, 1, [], []), (20, .getfield 61, 3, [3, 12, 0, 141], []), (23, .iconst 1, 1, [], []), (24, .iadd, 1, [], []), (25, .putfield 61, 3, [3, 12, 0, 141], []), (28, .return_, 1, [], [])]]
theorem k_X5_addWave : CdOk m_X5_addWave c_X5_addWave := ⟨by decide +kernel, allM_of trivial⟩
def c_X5_addToWave : Cd := [
  [(0, .aload_n 0, 1, [], []), (1, .getfield 33, 3, [3, 5, 3, 122], []), (4, .iload_n 1, 1, [], []), (5, .iload_n 2, 1, [], []), (6, .iastore, 1, [], []), (7, .aload_n 0, 1, [], []), (8, .getfield 39, 3, [3, 7, 3, 126], []), (11, .iload_n 2, 1, [], []), (12, .dup2, 1, [], []), (13, .iaload, 1, [], []), (14, .aload_n 0, 1, [], []), (15, .getfield 36, 3, [3, 6, 3, 124], [])],
  [(18, .iload_n 1, 1, [], []), (19, .iaload, 1, [], []), (20, .ior, 1, [], []), (21, .iastore, 1, [], []), (22, .return_, 1, [], [])]]
theorem k_X5_addToWave : CdOk m_X5_addToWave c_X5_addToWave := ⟨by decide +kernel, allM_of trivial⟩
def c_X1_readPlaceOfWave : Cd := [
  [(0, .aload_n 0, 1, [], []), (1, .getfield 15, 3, [0, 0, 3, 308], []), (4, .aload_n 0, 1, [], []), (5, .getfield 29, 3, [0, 2, 3, 310], []), (8, .getfield 91, 3, [3, 4, 3, 120], []), (11, .invokevirtual 142, 3, [0, 1, 1, 7, 0, 535], [m_X10_findName]), (14, .istore_n 2, 1, [], []), (15, .iload_n 2, 1, [], [])],
  [(16, .iconst (-1), 1, [], []), (17, .if_icmp .ne 5, 3, [22], []), (20, .iconst 0, 1, [], []), (21, .ireturn, 1, [6], []), (22, .aload_n 0, 1, [], []), (23, .getfield 29, 3, [0, 2, 3, 310], []), (26, .getfield 193, 3, [3, 5, 3, 123], []), (29, .iload_n 2, 1, [], []), (30, .iaload, 1, [], []), (31, .iconst (-1), 1, [], [])],
  [(32, .if_icmp .eq 12, 3, [44], []), (35, .aload_n 0, 1, [], []), (36, .getfield 15, 3, [0, 0, 3, 308], []), (39, .iconst 4, 1, [], []), (40, .invokevirtual 54, 3, [0, 1, 1, 7, 0, 481], [m_X10_fail]), (43, .ireturn, 1, [6], []), (44, .aload_n 0, 1, [], []), (45, .getfield 15, 3, [0, 0, 3, 308], [])],
  [(48, .invokevirtual 62, 3, [0, 0, 0, 7, 0, 501], [m_X10_advance]), (51, .aload_n 0, 1, [], []), (52, .getfield 29, 3, [0, 2, 3, 310], []), (55, .iload_n 2, 1, [], []), (56, .iload_n 1, 1, [], []), (57, .invokevirtual 196, 3, [0, 2, 0, 3, 0, 609], [m_X5_addToWave]), (60, .iconst 1, 1, [], []), (61, .ireturn, 1, [6], [])]]
theorem k_X1_readPlaceOfWave : CdOk m_X1_readPlaceOfWave c_X1_readPlaceOfWave := ⟨by decide +kernel, allM_of ⟨o_X10_findName, ⟨o_X10_fail, ⟨o_X10_advance, ⟨o_X5_addToWave, trivial⟩⟩⟩⟩⟩
def c_X1_readWave : Cd := [
  [(0, .aload_n 0, 1, [], []), (1, .getfield 29, 3, [0, 2, 3, 310], []), (4, .getfield 97, 3, [3, 12, 0, 142], []), (7, .istore_n 1, 1, [], []), (8, .aload_n 0, 1, [], []), (9, .getfield 29, 3, [0, 2, 3, 310], []), (12, .invokevirtual 187, 3, [0, 0, 0, 3, 0, 601], [m_X5_addWave]), (15, .aload_n 0, 1, [], [])],
  [(16, .iload_n 1, 1, [], []), (17, .invokevirtual 190, 3, [0, 1, 1, 0, 0, 605], [m_X1_readPlaceOfWave]), (20, .istore_n 2, 1, [], []), (21, .iconst 0, 1, [], []), (22, .istore_n 3, 1, [], []), (23, .iload_n 3, 1, [], []), (24, .iconst 5, 1, [], []), (25, .if_icmp .ge 30, 3, [55], []), (28, .iload_n 2, 1, [], []), (29, .ifCond .eq 26, 3, [55], [])],
  [(32, .aload_n 0, 1, [], []), (33, .getfield 15, 3, [0, 0, 3, 308], []), (36, .getfield 41, 3, [7, 4, 0, 58], []), (39, .iconst 1, 1, [], []), (40, .if_icmp .ne 15, 3, [55], []), (43, .aload_n 0, 1, [], []), (44, .iload_n 1, 1, [], []), (45, .invokevirtual 190, 3, [0, 1, 1, 0, 0, 605], [m_X1_readPlaceOfWave])],
  [(48, .istore_n 2, 1, [], []), (49, .iinc 3 1, 3, [], []), (52, .goto (-29), 3, [23], []), (55, .iload_n 2, 1, [], []), (56, .ireturn, 1, [6], [])]]
theorem k_X1_readWave : CdOk m_X1_readWave c_X1_readWave := ⟨by decide +kernel, allM_of ⟨o_X5_addWave, ⟨o_X1_readPlaceOfWave, ⟨o_X1_readPlaceOfWave, trivial⟩⟩⟩⟩
def c_X1_readSetting : Cd := [
  [(0, .aload_n 0, 1, [], []), (1, .getfield 15, 3, [0, 0, 3, 308], []), (4, .aload_n 1, 1, [], []), (5, .getfield 199, 3, [20, 2, 0, 1847, 0], []), (8, .aload_n 1, 1, [], []), (9, .getfield 202, 3, [20, 3, 0, 1848, 0], []), (12, .invokevirtual 134, 3, [0, 2, 1, 7, 0, 519], [m_X10_takeNumber]), (15, .istore_n 2, 1, [], [])],
  [(16, .iload_n 2, 1, [], []), (17, .iconst (-1), 1, [], []), (18, .if_icmp .ne 5, 3, [23], []), (21, .iconst 0, 1, [], []), (22, .ireturn, 1, [6], []), (23, .aload_n 0, 1, [], []), (24, .dup, 1, [], []), (25, .getfield 9, 3, [0, 3, 0, 311], []), (28, .aload_n 1, 1, [], []), (29, .getfield 103, 3, [20, 1, 0, 1846, 0], [])],
  [(32, .ior, 1, [], []), (33, .putfield 9, 3, [0, 3, 0, 311], []), (36, .getstatic 72, 3, [0, 1082, 489], []), (39, .aload_n 1, 1, [], []), (40, .invokevirtual 78, 3, [20, 491], []), (43, .iaload, 1, [0], []), (44, .tableswitch 95 6 11 #[40, 51, 95, 62, 73, 84], 40, [139, 6, 84, 95, 139, 106, 117, 128], [])],
  [],
  [],
  [(84, .aload_n 0, 1, [], []), (85, .getfield 19, 3, [0, 1, 3, 309], []), (88, .iload_n 2, 1, [], []), (89, .putfield 205, 3, [6, 2, 0, 230], []), (92, .goto 55, 3, [147], []), (95, .aload_n 0, 1, [], [])],
  [(96, .getfield 29, 3, [0, 2, 3, 310], []), (99, .iload_n 2, 1, [], []), (100, .putfield 208, 3, [3, 13, 0, 146], []), (103, .goto 44, 3, [147], []), (106, .aload_n 0, 1, [], []), (107, .getfield 29, 3, [0, 2, 3, 310], []), (110, .iload_n 2, 1, [], []), (111, .putfield 211, 3, [3, 14, 0, 148], [])],
  [(114, .goto 33, 3, [147], []), (117, .aload_n 0, 1, [], []), (118, .getfield 29, 3, [0, 2, 3, 310], []), (121, .iload_n 2, 1, [], []), (122, .putfield 214, 3, [3, 15, 0, 151], []), (125, .goto 22, 3, [147], [])],
  [(128, .aload_n 0, 1, [], []), (129, .getfield 29, 3, [0, 2, 3, 310], []), (132, .iload_n 2, 1, [], []), (133, .putfield 217, 3, [3, 16, 0, 154], []), (136, .goto 11, 3, [147], []), (139, .aload_n 0, 1, [], []), (140, .getfield 29, 3, [0, 2, 3, 310], []), (143, .iload_n 2, 1, [], [])],
  [(144, .putfield 220, 3, [3, 17, 0, 157], []), (147, .iconst 1, 1, [], []), (148, .ireturn, 1, [6], [])]]
theorem k_X1_readSetting : CdOk m_X1_readSetting c_X1_readSetting := ⟨by decide +kernel, allM_of ⟨o_X10_takeNumber, trivial⟩⟩
def c_X1_readRest : Cd := [
  [(0, .getstatic 72, 3, [0, 1082, 489], []), (3, .aload_n 1, 1, [], []), (4, .invokevirtual 78, 3, [20, 491], []), (7, .iaload, 1, [0], []), (8, .tableswitch 78 1 8 #[48, 58, 63, 73, 68, 78, 78, 53], 48, [86, 1, 56, 66, 71, 81, 76, 86, 86, 61], [])],
  [],
  [],
  [(56, .aload_n 0, 1, [], []), (57, .invokevirtual 109, 3, [0, 0, 1, 0, 0, 506], [m_X1_readVersion]), (60, .ireturn, 1, [6], []), (61, .aload_n 0, 1, [], []), (62, .invokevirtual 112, 3, [0, 0, 1, 0, 0, 531], [m_X1_readTalks])],
  [(65, .ireturn, 1, [6], []), (66, .aload_n 0, 1, [], []), (67, .invokevirtual 115, 3, [0, 0, 1, 0, 0, 550], [m_X1_readPlace]), (70, .ireturn, 1, [6], []), (71, .aload_n 0, 1, [], []), (72, .invokevirtual 118, 3, [0, 0, 1, 0, 0, 558], [m_X1_readMember]), (75, .ireturn, 1, [6], []), (76, .aload_n 0, 1, [], []), (77, .invokevirtual 121, 3, [0, 0, 1, 0, 0, 589], [m_X1_readLink])],
  [(80, .ireturn, 1, [6], []), (81, .aload_n 0, 1, [], []), (82, .invokevirtual 124, 3, [0, 0, 1, 0, 0, 597], [m_X1_readWave]), (85, .ireturn, 1, [6], []), (86, .aload_n 0, 1, [], []), (87, .aload_n 1, 1, [], []), (88, .invokevirtual 127, 3, [0, 1, 1, 0, 0, 613], [m_X1_readSetting]), (91, .ireturn, 1, [6], [])]]
theorem k_X1_readRest : CdOk m_X1_readRest c_X1_readRest := ⟨by decide +kernel, allM_of ⟨o_X1_readVersion, ⟨o_X1_readTalks, ⟨o_X1_readPlace, ⟨o_X1_readMember, ⟨o_X1_readLink, ⟨o_X1_readWave, ⟨o_X1_readSetting, trivial⟩⟩⟩⟩⟩⟩⟩⟩
def c_X10_takeSign : Cd := [
  [(0, .aload_n 0, 1, [], []), (1, .getfield 25, 3, [7, 4, 0, 57], []), (4, .iload_n 1, 1, [], []), (5, .if_icmp .eq 9, 3, [14], []), (8, .aload_n 0, 1, [], []), (9, .iconst 1, 1, [], []), (10, .invokevirtual 59, 3, [0, 1, 1, 7, 0, 514], [m_X10_fail]), (13, .ireturn, 1, [6], []), (14, .aload_n 0, 1, [], []), (15, .invokevirtual 41, 3, [0, 0, 0, 7, 0, 408], [m_X10_advance])],
  [(18, .iconst 1, 1, [], []), (19, .ireturn, 1, [6], [])]]
theorem k_X10_takeSign : CdOk m_X10_takeSign c_X10_takeSign := ⟨by decide +kernel, allM_of ⟨o_X10_fail, ⟨o_X10_advance, trivial⟩⟩⟩
def c_X1_readStatement : Cd := [
  [(0, .aload_n 0, 1, [], []), (1, .getfield 15, 3, [0, 0, 3, 308], []), (4, .invokestatic 48, 3, [1, 1, 5, 0, 0, 424], [m_X9_at]), (7, .astore_n 1, 1, [], []), (8, .aload_n 1, 1, [], []), (9, .ifnonnull 12, 3, [21], []), (12, .aload_n 0, 1, [], []), (13, .getfield 15, 3, [0, 0, 3, 308], [])],
  [(16, .iconst 1, 1, [], []), (17, .invokevirtual 54, 3, [0, 1, 1, 7, 0, 481], [m_X10_fail]), (20, .ireturn, 1, [6], []), (21, .aload_n 0, 1, [], []), (22, .aload_n 1, 1, [], []), (23, .invokevirtual 58, 3, [0, 1, 1, 0, 0, 485], [m_X1_errorOfFirstWord]), (26, .istore_n 2, 1, [], []), (27, .iload_n 2, 1, [], []), (28, .ifCond .eq 12, 3, [40], []), (31, .aload_n 0, 1, [], [])],
  [(32, .getfield 15, 3, [0, 0, 3, 308], []), (35, .iload_n 2, 1, [], []), (36, .invokevirtual 54, 3, [0, 1, 1, 7, 0, 481], [m_X10_fail]), (39, .ireturn, 1, [6], []), (40, .aload_n 0, 1, [], []), (41, .getfield 15, 3, [0, 0, 3, 308], []), (44, .invokevirtual 62, 3, [0, 0, 0, 7, 0, 501], [m_X10_advance]), (47, .aload_n 0, 1, [], [])],
  [(48, .aload_n 1, 1, [], []), (49, .invokevirtual 65, 3, [0, 1, 1, 0, 0, 502], [m_X1_readRest]), (52, .ifCond .eq 18, 3, [70], []), (55, .aload_n 0, 1, [], []), (56, .getfield 15, 3, [0, 0, 3, 308], []), (59, .iconst 3, 1, [], []), (60, .invokevirtual 69, 3, [0, 1, 1, 7, 0, 617], [m_X10_takeSign]), (63, .ifCond .eq 7, 3, [70], [])],
  [(66, .iconst 1, 1, [], []), (67, .goto 4, 3, [71], []), (70, .iconst 0, 1, [], []), (71, .ireturn, 1, [6], [])]]
theorem k_X1_readStatement : CdOk m_X1_readStatement c_X1_readStatement := ⟨by decide +kernel, allM_of ⟨o_X9_at, ⟨o_X10_fail, ⟨o_X1_errorOfFirstWord, ⟨o_X10_fail, ⟨o_X10_advance, ⟨o_X1_readRest, ⟨o_X10_takeSign, trivial⟩⟩⟩⟩⟩⟩⟩⟩
def c_X1_readAll : Cd := [
  [(0, .aload_n 0, 1, [], []), (1, .getfield 29, 3, [0, 2, 3, 310], []), (4, .invokevirtual 30, 3, [0, 0, 0, 3, 0, 402], [m_X5_reset]), (7, .aload_n 0, 1, [], []), (8, .getfield 19, 3, [0, 1, 3, 309], []), (11, .invokevirtual 35, 3, [0, 0, 0, 6, 0, 403], [m_X8_reset]), (14, .aload_n 0, 1, [], []), (15, .iconst 0, 1, [], [])],
  [(16, .putfield 9, 3, [0, 3, 0, 311], []), (19, .aload_n 0, 1, [], []), (20, .getfield 15, 3, [0, 0, 3, 308], []), (23, .invokevirtual 36, 3, [0, 0, 0, 7, 0, 404], [m_X10_begin]), (26, .iconst 0, 1, [], []), (27, .istore_n 1, 1, [], []), (28, .iload_n 1, 1, [], []), (29, .sipush 900, 3, [], [])],
  [(32, .if_icmp .ge 28, 3, [60], []), (35, .aload_n 0, 1, [], []), (36, .getfield 15, 3, [0, 0, 3, 308], []), (39, .getfield 41, 3, [7, 4, 0, 58], []), (42, .ifCond .eq 18, 3, [60], []), (45, .aload_n 0, 1, [], []), (46, .invokevirtual 44, 3, [0, 0, 1, 0, 0, 420], [m_X1_readStatement])],
  [(49, .ifCond .ne 5, 3, [54], []), (52, .iconst 0, 1, [], []), (53, .ireturn, 1, [6], []), (54, .iinc 1 1, 3, [], []), (57, .goto (-29), 3, [28], []), (60, .iconst 1, 1, [], []), (61, .ireturn, 1, [6], [])]]
theorem k_X1_readAll : CdOk m_X1_readAll c_X1_readAll := ⟨by decide +kernel, allM_of ⟨o_X5_reset, ⟨o_X8_reset, ⟨o_X10_begin, ⟨o_X1_readStatement, trivial⟩⟩⟩⟩⟩
def c_X6_copyFrom : Cd := [
  [(0, .aload_n 1, 1, [], []), (1, .getfield 15, 3, [4, 0, 3, 97], []), (4, .iconst 0, 1, [], []), (5, .aload_n 0, 1, [], []), (6, .getfield 15, 3, [4, 0, 3, 97], []), (9, .iconst 0, 1, [], []), (10, .aload_n 1, 1, [], []), (11, .getfield 15, 3, [4, 0, 3, 97], []), (14, .arraylength, 1, [], []), (15, .aload_n 0, 1, [], [])],
  [(16, .getfield 15, 3, [4, 0, 3, 97], []), (19, .arraylength, 1, [], []), (20, .invokestatic 19, 3, [10, 696], []), (23, .invokestatic 25, 3, [16, 699], []), (26, .aload_n 0, 1, [], []), (27, .aload_n 1, 1, [], []), (28, .getfield 9, 3, [4, 1, 0, 98], []), (31, .putfield 9, 3, [4, 1, 0, 98], [])],
  [(34, .return_, 1, [], [])]]
theorem k_X6_copyFrom : CdOk m_X6_copyFrom c_X6_copyFrom := ⟨by decide +kernel, allM_of trivial⟩
def c_X11_copyRow : Cd := [
  [(0, .aload_n 0, 1, [], []), (1, .iconst 0, 1, [], []), (2, .aload_n 1, 1, [], []), (3, .iconst 0, 1, [], []), (4, .aload_n 0, 1, [], []), (5, .arraylength, 1, [], []), (6, .aload_n 1, 1, [], []), (7, .arraylength, 1, [], []), (8, .invokestatic 348, 3, [10, 705], []), (11, .invokestatic 353, 3, [15, 706], []), (14, .return_, 1, [], [])]]
theorem k_X11_copyRow : CdOk m_X11_copyRow c_X11_copyRow := ⟨by decide +kernel, allM_of trivial⟩
def c_X5_copyFrom : Cd := [
  [(0, .aload_n 0, 1, [], []), (1, .getfield 14, 3, [3, 0, 3, 113], []), (4, .aload_n 1, 1, [], []), (5, .getfield 14, 3, [3, 0, 3, 113], []), (8, .invokevirtual 79, 3, [0, 1, 0, 4, 0, 692], [m_X6_copyFrom]), (11, .aload_n 1, 1, [], []), (12, .getfield 20, 3, [3, 1, 3, 116], []), (15, .aload_n 0, 1, [], [])],
  [(16, .getfield 20, 3, [3, 1, 3, 116], []), (19, .invokestatic 83, 3, [2, 2, 0, 0, 0, 3], [m_X11_copyRow]), (22, .aload_n 1, 1, [], []), (23, .getfield 24, 3, [3, 2, 3, 117], []), (26, .aload_n 0, 1, [], []), (27, .getfield 24, 3, [3, 2, 3, 117], []), (30, .invokestatic 83, 3, [2, 2, 0, 0, 0, 3], [m_X11_copyRow])],
  [(33, .aload_n 1, 1, [], []), (34, .getfield 27, 3, [3, 3, 3, 118], []), (37, .aload_n 0, 1, [], []), (38, .getfield 27, 3, [3, 3, 3, 118], []), (41, .invokestatic 83, 3, [2, 2, 0, 0, 0, 3], [m_X11_copyRow]), (44, .aload_n 0, 1, [], []), (45, .getfield 30, 3, [3, 4, 3, 119], [])],
  [(48, .aload_n 1, 1, [], []), (49, .getfield 30, 3, [3, 4, 3, 119], []), (52, .invokevirtual 79, 3, [0, 1, 0, 4, 0, 692], [m_X6_copyFrom]), (55, .aload_n 1, 1, [], []), (56, .getfield 33, 3, [3, 5, 3, 122], []), (59, .aload_n 0, 1, [], []), (60, .getfield 33, 3, [3, 5, 3, 122], []), (63, .invokestatic 83, 3, [2, 2, 0, 0, 0, 3], [m_X11_copyRow])],
  [(66, .aload_n 1, 1, [], []), (67, .getfield 36, 3, [3, 6, 3, 124], []), (70, .aload_n 0, 1, [], []), (71, .getfield 36, 3, [3, 6, 3, 124], []), (74, .invokestatic 83, 3, [2, 2, 0, 0, 0, 3], [m_X11_copyRow]), (77, .aload_n 1, 1, [], []), (78, .getfield 39, 3, [3, 7, 3, 126], [])],
  [(81, .aload_n 0, 1, [], []), (82, .getfield 39, 3, [3, 7, 3, 126], []), (85, .invokestatic 83, 3, [2, 2, 0, 0, 0, 3], [m_X11_copyRow]), (88, .aload_n 0, 1, [], []), (89, .getfield 42, 3, [3, 8, 3, 128], []), (92, .aload_n 1, 1, [], []), (93, .getfield 42, 3, [3, 8, 3, 128], [])],
  [(96, .invokevirtual 79, 3, [0, 1, 0, 4, 0, 692], [m_X6_copyFrom]), (99, .aload_n 1, 1, [], []), (100, .getfield 45, 3, [3, 9, 3, 132], []), (103, .aload_n 0, 1, [], []), (104, .getfield 45, 3, [3, 9, 3, 132], []), (107, .invokestatic 83, 3, [2, 2, 0, 0, 0, 3], [m_X11_copyRow]), (110, .aload_n 1, 1, [], []), (111, .getfield 48, 3, [3, 10, 3, 135], [])],
  [(114, .aload_n 0, 1, [], []), (115, .getfield 48, 3, [3, 10, 3, 135], []), (118, .invokestatic 83, 3, [2, 2, 0, 0, 0, 3], [m_X11_copyRow]), (121, .aload_n 0, 1, [], []), (122, .aload_n 1, 1, [], []), (123, .getfield 58, 3, [3, 11, 0, 139], []), (126, .putfield 58, 3, [3, 11, 0, 139], [])],
  [(129, .aload_n 0, 1, [], []), (130, .aload_n 1, 1, [], []), (131, .getfield 61, 3, [3, 12, 0, 141], []), (134, .putfield 61, 3, [3, 12, 0, 141], []), (137, .aload_n 0, 1, [], []), (138, .aload_n 1, 1, [], []), (139, .getfield 64, 3, [3, 13, 0, 144], []), (142, .putfield 64, 3, [3, 13, 0, 144], [])],
  [(145, .aload_n 0, 1, [], []), (146, .aload_n 1, 1, [], []), (147, .getfield 67, 3, [3, 14, 0, 147], []), (150, .putfield 67, 3, [3, 14, 0, 147], []), (153, .aload_n 0, 1, [], []), (154, .aload_n 1, 1, [], []), (155, .getfield 70, 3, [3, 15, 0, 150], []), (158, .putfield 70, 3, [3, 15, 0, 150], [])],
  [(161, .aload_n 0, 1, [], []), (162, .aload_n 1, 1, [], []), (163, .getfield 73, 3, [3, 16, 0, 153], []), (166, .putfield 73, 3, [3, 16, 0, 153], []), (169, .aload_n 0, 1, [], []), (170, .aload_n 1, 1, [], []), (171, .getfield 76, 3, [3, 17, 0, 156], []), (174, .putfield 76, 3, [3, 17, 0, 156], [])],
  [(177, .return_, 1, [], [])]]
theorem k_X5_copyFrom : CdOk m_X5_copyFrom c_X5_copyFrom := ⟨by decide +kernel, allM_of ⟨o_X6_copyFrom, ⟨o_X11_copyRow, ⟨o_X11_copyRow, ⟨o_X11_copyRow, ⟨o_X6_copyFrom, ⟨o_X11_copyRow, ⟨o_X11_copyRow, ⟨o_X11_copyRow, ⟨o_X6_copyFrom, ⟨o_X11_copyRow, ⟨o_X11_copyRow, trivial⟩⟩⟩⟩⟩⟩⟩⟩⟩⟩⟩⟩
def c_X3_copyFrom : Cd := [
  [(0, .aload_n 1, 1, [], []), (1, .getfield 11, 3, [1, 0, 3, 207], []), (4, .aload_n 0, 1, [], []), (5, .getfield 11, 3, [1, 0, 3, 207], []), (8, .invokestatic 22, 3, [2, 2, 0, 0, 0, 2], [m_X11_copyRow]), (11, .aload_n 0, 1, [], []), (12, .aload_n 1, 1, [], []), (13, .getfield 15, 3, [1, 1, 0, 208], [])],
  [(16, .putfield 15, 3, [1, 1, 0, 208], []), (19, .aload_n 0, 1, [], []), (20, .aload_n 1, 1, [], []), (21, .getfield 19, 3, [1, 2, 0, 211], []), (24, .putfield 19, 3, [1, 2, 0, 211], []), (27, .return_, 1, [], [])]]
theorem k_X3_copyFrom : CdOk m_X3_copyFrom c_X3_copyFrom := ⟨by decide +kernel, allM_of ⟨o_X11_copyRow, trivial⟩⟩
def c_X8_copyFrom : Cd := [
  [(0, .aload_n 0, 1, [], []), (1, .aload_n 1, 1, [], []), (2, .getfield 38, 3, [6, 1, 0, 226], []), (5, .putfield 38, 3, [6, 1, 0, 226], []), (8, .aload_n 0, 1, [], []), (9, .aload_n 1, 1, [], []), (10, .getfield 42, 3, [6, 2, 0, 228], []), (13, .putfield 42, 3, [6, 2, 0, 228], [])],
  [(16, .aload_n 1, 1, [], []), (17, .getfield 9, 3, [6, 3, 3, 231], []), (20, .aload_n 0, 1, [], []), (21, .getfield 9, 3, [6, 3, 3, 231], []), (24, .invokestatic 73, 3, [2, 2, 0, 0, 0, 1], [m_X11_copyRow]), (27, .aload_n 1, 1, [], []), (28, .getfield 15, 3, [6, 4, 3, 233], []), (31, .aload_n 0, 1, [], [])],
  [(32, .getfield 15, 3, [6, 4, 3, 233], []), (35, .invokestatic 73, 3, [2, 2, 0, 0, 0, 1], [m_X11_copyRow]), (38, .aload_n 1, 1, [], []), (39, .getfield 18, 3, [6, 5, 3, 234], []), (42, .aload_n 0, 1, [], []), (43, .getfield 18, 3, [6, 5, 3, 234], []), (46, .invokestatic 73, 3, [2, 2, 0, 0, 0, 1], [m_X11_copyRow])],
  [(49, .aload_n 1, 1, [], []), (50, .getfield 21, 3, [6, 6, 3, 235], []), (53, .aload_n 0, 1, [], []), (54, .getfield 21, 3, [6, 6, 3, 235], []), (57, .invokestatic 73, 3, [2, 2, 0, 0, 0, 1], [m_X11_copyRow]), (60, .aload_n 0, 1, [], []), (61, .aload_n 1, 1, [], []), (62, .getfield 45, 3, [6, 7, 0, 236], [])],
  [(65, .putfield 45, 3, [6, 7, 0, 236], []), (68, .aload_n 0, 1, [], []), (69, .aload_n 1, 1, [], []), (70, .getfield 48, 3, [6, 8, 0, 238], []), (73, .putfield 48, 3, [6, 8, 0, 238], []), (76, .aload_n 0, 1, [], []), (77, .aload_n 1, 1, [], []), (78, .getfield 51, 3, [6, 9, 0, 240], [])],
  [(81, .putfield 51, 3, [6, 9, 0, 240], []), (84, .aload_n 0, 1, [], []), (85, .aload_n 1, 1, [], []), (86, .getfield 54, 3, [6, 10, 0, 242], []), (89, .putfield 54, 3, [6, 10, 0, 242], []), (92, .aload_n 0, 1, [], []), (93, .aload_n 1, 1, [], []), (94, .getfield 57, 3, [6, 11, 0, 243], [])],
  [(97, .putfield 57, 3, [6, 11, 0, 243], []), (100, .aload_n 0, 1, [], []), (101, .aload_n 1, 1, [], []), (102, .getfield 60, 3, [6, 12, 1, 244], []), (105, .putfield 60, 3, [6, 12, 1, 244], []), (108, .aload_n 0, 1, [], []), (109, .aload_n 1, 1, [], []), (110, .getfield 64, 3, [6, 13, 0, 245], [])],
  [(113, .putfield 64, 3, [6, 13, 0, 245], []), (116, .aload_n 0, 1, [], []), (117, .aload_n 1, 1, [], []), (118, .getfield 67, 3, [6, 14, 0, 246], []), (121, .putfield 67, 3, [6, 14, 0, 246], []), (124, .aload_n 0, 1, [], []), (125, .getfield 27, 3, [6, 15, 3, 247], [])],
  [(128, .aload_n 1, 1, [], []), (129, .getfield 27, 3, [6, 15, 3, 247], []), (132, .invokevirtual 77, 3, [0, 1, 0, 1, 0, 712], [m_X3_copyFrom]), (135, .return_, 1, [], [])]]
theorem k_X8_copyFrom : CdOk m_X8_copyFrom c_X8_copyFrom := ⟨by decide +kernel, allM_of ⟨o_X11_copyRow, ⟨o_X11_copyRow, ⟨o_X11_copyRow, ⟨o_X11_copyRow, ⟨o_X3_copyFrom, trivial⟩⟩⟩⟩⟩⟩
def c_X8_replaceBy : Cd := [
  [(0, .aload_n 0, 1, [], []), (1, .getfield 31, 3, [6, 0, 3, 225], []), (4, .aload_n 1, 1, [], []), (5, .getfield 31, 3, [6, 0, 3, 225], []), (8, .invokevirtual 81, 3, [0, 1, 0, 3, 0, 688], [m_X5_copyFrom]), (11, .aload_n 0, 1, [], []), (12, .aload_n 1, 1, [], []), (13, .invokevirtual 86, 3, [0, 1, 0, 6, 0, 707], [m_X8_copyFrom])],
  [(16, .return_, 1, [], [])]]
theorem k_X8_replaceBy : CdOk m_X8_replaceBy c_X8_replaceBy := ⟨by decide +kernel, allM_of ⟨o_X5_copyFrom, ⟨o_X8_copyFrom, trivial⟩⟩⟩
def c_X4_forget : Cd := [
  [(0, .aload_n 0, 1, [], []), (1, .iconst 0, 1, [], []), (2, .putfield 17, 3, [2, 1, 0, 292], []), (5, .return_, 1, [], [])]]
theorem k_X4_forget : CdOk m_X4_forget c_X4_forget := ⟨by decide +kernel, allM_of trivial⟩
def c_X11_readText : Cd := [
  [(0, .aload_n 0, 1, [], []), (1, .getfield 57, 3, [8, 7, 3, 367], []), (4, .invokevirtual 89, 3, [0, 0, 1, 0, 0, 398], [m_X1_readAll]), (7, .istore_n 1, 1, [], []), (8, .aload_n 0, 1, [], []), (9, .getfield 10, 3, [8, 0, 3, 360], []), (12, .iconst 0, 1, [], []), (13, .putfield 76, 3, [7, 1, 0, 54], [])],
  [(16, .iload_n 1, 1, [], []), (17, .ifCond .ne 11, 3, [28], []), (20, .new 86, 3, [1, 88, 621, 662], []), (28, .aload_n 0, 1, [], []), (29, .getfield 24, 3, [8, 1, 3, 361], [])],
  [(32, .aload_n 0, 1, [], []), (33, .getfield 35, 3, [8, 3, 3, 363], []), (36, .invokevirtual 93, 3, [0, 1, 0, 6, 0, 684], [m_X8_replaceBy]), (39, .aload_n 0, 1, [], []), (40, .getfield 48, 3, [8, 6, 3, 366], []), (43, .invokevirtual 97, 3, [0, 0, 0, 2, 0, 717], [m_X4_forget]), (46, .aload_n 0, 1, [], []), (47, .getfield 24, 3, [8, 1, 3, 361], [])],
  [(50, .getfield 28, 3, [6, 0, 3, 224], []), (53, .getfield 100, 3, [3, 8, 3, 129], []), (56, .getfield 104, 3, [4, 1, 0, 100], []), (59, .ireturn, 1, [1], [])]]
theorem k_X11_readText : CdOk m_X11_readText c_X11_readText := ⟨by decide +kernel, allM_of ⟨o_X1_readAll, ⟨o_X8_replaceBy, ⟨o_X4_forget, trivial⟩⟩⟩⟩
def c_X5_numberOf : Cd := [
  [(0, .iload_n 1, 1, [], []), (1, .tableswitch 118 0 10 #[59, 67, 75, 83, 88, 118, 93, 98, 103, 108, 113], 59, [119, 0, 60, 68, 76, 84, 89, 119, 94, 99, 104, 109, 114], [])],
  [],
  [],
  [(60, .aload_n 0, 1, [], []), (61, .getfield 14, 3, [3, 0, 3, 113], [])],
  [(64, .getfield 54, 3, [4, 1, 0, 99], []), (67, .ireturn, 1, [1], []), (68, .aload_n 0, 1, [], []), (69, .getfield 30, 3, [3, 4, 3, 119], []), (72, .getfield 54, 3, [4, 1, 0, 99], []), (75, .ireturn, 1, [1], []), (76, .aload_n 0, 1, [], []), (77, .getfield 42, 3, [3, 8, 3, 128], [])],
  [(80, .getfield 54, 3, [4, 1, 0, 99], []), (83, .ireturn, 1, [1], []), (84, .aload_n 0, 1, [], []), (85, .getfield 61, 3, [3, 12, 0, 141], []), (88, .ireturn, 1, [1], []), (89, .aload_n 0, 1, [], []), (90, .getfield 58, 3, [3, 11, 0, 139], []), (93, .ireturn, 1, [1], []), (94, .aload_n 0, 1, [], []), (95, .getfield 64, 3, [3, 13, 0, 144], [])],
  [(98, .ireturn, 1, [1], []), (99, .aload_n 0, 1, [], []), (100, .getfield 67, 3, [3, 14, 0, 147], []), (103, .ireturn, 1, [1], []), (104, .aload_n 0, 1, [], []), (105, .getfield 70, 3, [3, 15, 0, 150], []), (108, .ireturn, 1, [1], []), (109, .aload_n 0, 1, [], []), (110, .getfield 73, 3, [3, 16, 0, 153], [])],
  [(113, .ireturn, 1, [1], []), (114, .aload_n 0, 1, [], []), (115, .getfield 76, 3, [3, 17, 0, 156], []), (118, .ireturn, 1, [1], []), (119, .iconst (-1), 1, [], []), (120, .ireturn, 1, [1], [])]]
theorem k_X5_numberOf : CdOk m_X5_numberOf c_X5_numberOf := ⟨by decide +kernel, allM_of trivial⟩
def c_X11_setting : Cd := [
  [(0, .iload_n 1, 1, [], []), (1, .ifCond .lt 9, 3, [10], []), (4, .iload_n 1, 1, [], []), (5, .bipush 11, 2, [], []), (7, .if_icmp .le 11, 3, [18], []), (10, .new 86, 3, [1, 88, 621, 662], [])],
  [(18, .iload_n 1, 1, [], []), (19, .iconst 5, 1, [], []), (20, .if_icmp .ne 11, 3, [31], []), (23, .aload_n 0, 1, [], []), (24, .getfield 24, 3, [8, 1, 3, 361], []), (27, .getfield 129, 3, [6, 2, 0, 229], []), (30, .ireturn, 1, [1], []), (31, .iload_n 1, 1, [], [])],
  [(32, .bipush 11, 2, [], []), (34, .if_icmp .ne 11, 3, [45], []), (37, .aload_n 0, 1, [], []), (38, .getfield 24, 3, [8, 1, 3, 361], []), (41, .getfield 132, 3, [6, 1, 0, 227], []), (44, .ireturn, 1, [1], []), (45, .aload_n 0, 1, [], []), (46, .getfield 24, 3, [8, 1, 3, 361], [])],
  [(49, .getfield 28, 3, [6, 0, 3, 224], []), (52, .iload_n 1, 1, [], []), (53, .invokevirtual 135, 3, [0, 1, 1, 3, 0, 1355], [m_X5_numberOf]), (56, .ireturn, 1, [1], [])]]
theorem k_X11_setting : CdOk m_X11_setting c_X11_setting := ⟨by decide +kernel, allM_of ⟨o_X5_numberOf, trivial⟩⟩
def c_X11_needVersion : Cd := [
  [(0, .iload_n 1, 1, [], []), (1, .ifCond .lt 20, 3, [21], []), (4, .iload_n 1, 1, [], []), (5, .aload_n 0, 1, [], []), (6, .getfield 24, 3, [8, 1, 3, 361], []), (9, .getfield 28, 3, [6, 0, 3, 224], []), (12, .getfield 199, 3, [3, 0, 3, 115], []), (15, .getfield 104, 3, [4, 1, 0, 100], [])],
  [(18, .if_icmp .lt 11, 3, [29], []), (21, .new 178, 3, [2, 180, 1392, 1401], []), (29, .return_, 1, [], [])]]
theorem k_X11_needVersion : CdOk m_X11_needVersion c_X11_needVersion := ⟨by decide +kernel, allM_of trivial⟩
def c_X11_mayTalk : Cd := [
  [(0, .aload_n 0, 1, [], []), (1, .iload_n 1, 1, [], []), (2, .invokevirtual 139, 3, [0, 1, 0, 8, 1, 1436], [m_X11_needVersion]), (5, .aload_n 0, 1, [], []), (6, .iload_n 2, 1, [], []), (7, .invokevirtual 139, 3, [0, 1, 0, 8, 1, 1436], [m_X11_needVersion]), (10, .aload_n 0, 1, [], []), (11, .getfield 24, 3, [8, 1, 3, 361], []), (14, .getfield 28, 3, [6, 0, 3, 224], [])],
  [(17, .iload_n 1, 1, [], []), (18, .invokevirtual 142, 3, [0, 1, 1, 3, 0, 1731], [m_X5_talkersOf]), (21, .iload_n 2, 1, [], []), (22, .invokestatic 145, 3, [1, 2, 1, 0, 0, 1528], [m_X11_isIn]), (25, .ireturn, 1, [6], [])]]
theorem k_X11_mayTalk : CdOk m_X11_mayTalk c_X11_mayTalk := ⟨by decide +kernel, allM_of ⟨o_X11_needVersion, ⟨o_X11_needVersion, ⟨o_X5_talkersOf, ⟨o_X11_isIn, trivial⟩⟩⟩⟩⟩
def c_X11_needFormat : Cd := [
  [(0, .iload_n 0, 1, [], []), (1, .iconst 1, 1, [], []), (2, .if_icmp .lt 9, 3, [11], []), (5, .iload_n 0, 1, [], []), (6, .bipush 9, 2, [], []), (8, .if_icmp .le 11, 3, [19], []), (11, .new 86, 3, [1, 88, 621, 662], [])],
  [(19, .return_, 1, [], [])]]
theorem k_X11_needFormat : CdOk m_X11_needFormat c_X11_needFormat := ⟨by decide +kernel, allM_of trivial⟩
def c_X5_readersOf : Cd := [
  [(0, .iconst 0, 1, [], []), (1, .istore_n 2, 1, [], []), (2, .iconst 0, 1, [], []), (3, .istore_n 3, 1, [], []), (4, .iload_n 3, 1, [], []), (5, .aload_n 0, 1, [], []), (6, .getfield 14, 3, [3, 0, 3, 113], []), (9, .getfield 54, 3, [4, 1, 0, 99], []), (12, .if_icmp .ge 24, 3, [36], []), (15, .aload_n 0, 1, [], [])],
  [(16, .iload_n 3, 1, [], []), (17, .iload_n 1, 1, [], []), (18, .invokevirtual 95, 3, [0, 2, 1, 3, 0, 1620], [m_X5_isReader]), (21, .ifCond .eq 9, 3, [30], []), (24, .iload_n 2, 1, [], []), (25, .iconst 1, 1, [], []), (26, .iload_n 3, 1, [], []), (27, .ishl, 1, [], []), (28, .ior, 1, [], []), (29, .istore_n 2, 1, [], []), (30, .iinc 3 1, 3, [], [])],
  [(33, .goto (-29), 3, [4], []), (36, .iload_n 2, 1, [], []), (37, .ireturn, 1, [1], [])]]
theorem k_X5_readersOf : CdOk m_X5_readersOf c_X5_readersOf := ⟨by decide +kernel, allM_of ⟨o_X5_isReader, trivial⟩⟩
def c_X11_readers : Cd := [
  [(0, .iload_n 1, 1, [], []), (1, .invokestatic 149, 3, [1, 1, 0, 0, 1, 1605], [m_X11_needFormat]), (4, .aload_n 0, 1, [], []), (5, .getfield 24, 3, [8, 1, 3, 361], []), (8, .getfield 28, 3, [6, 0, 3, 224], []), (11, .iload_n 1, 1, [], []), (12, .invokevirtual 152, 3, [0, 1, 1, 3, 0, 1722], [m_X5_readersOf]), (15, .ireturn, 1, [1], [])]]
theorem k_X11_readers : CdOk m_X11_readers c_X11_readers := ⟨by decide +kernel, allM_of ⟨o_X11_needFormat, ⟨o_X5_readersOf, trivial⟩⟩⟩
end
section
/-! ===== tables of the methods' code, 3 ===== -/
def m_X11_needMember : MI := (yX11_needMember, cX11_needMember, 2, none, 6, 89, 1, [], 0)
def m_X8_isUp : MI := (yX8_isUp, cX8_isUp, 2, some .boolean, 0, 0, 0, [], 0)
def m_X5_waveOf : MI := (yX5_waveOf, cX5_waveOf, 3, some .int, 0, 0, 0, [], 0)
def m_X8_numberOfMember : MI := (yX8_numberOfMember, cX8_numberOfMember, 3, some .int, 1, 22, 0, [], 0)
def m_X11_member : MI := (yX11_member, cX11_member, 3, some .int, 7, 110, 2, [], 0)
def m_X11_partners : MI := (yX11_partners, cX11_partners, 2, some .int, 7, 110, 1, [], 0)
def m_X11_down : MI := (yX11_down, cX11_down, 2, some .int, 6, 89, 1, [], 0)
def m_X5_everyMember : MI := (yX5_everyMember, cX5_everyMember, 1, some .int, 0, 0, 0, [], 0)
def m_X8_highestComing : MI := (yX8_highestComing, cX8_highestComing, 4, some .int, 1, 60, 0, [], 0)
def m_X8_lowestComing : MI := (yX8_lowestComing, cX8_lowestComing, 4, some .int, 1, 60, 0, [], 0)
def m_X11_skewNow : MI := (yX11_skewNow, cX11_skewNow, 2, some .int, 2, 83, 0, [], 0)
def m_X5_neighboursOf : MI := (yX5_neighboursOf, cX5_neighboursOf, 3, some .int, 0, 0, 0, [], 0)
def m_J6_bitCount_0f7a4 : MI := (yJ6_bitCount_0f7a4, cJ6_bitCount_0f7a4, 1, some .int, 0, 0, 0, [], 1)
def m_X8_opponents : MI := (yX8_opponents, cX8_opponents, 6, some .int, 1, 21, 0, [], 0)
def m_X8_whyNotBegin : MI := (yX8_whyNotBegin, cX8_whyNotBegin, 5, some .int, 2, 60, 0, [], 0)
def m_X11_reason : MI := (yX11_reason, cX11_reason, 3, some .int, 7, 110, 2, [], 0)
def m_X11_open : MI := (yX11_open, cX11_open, 4, some .int, 7, 110, 1, [], 0)
def m_X8_isUnderWay : MI := (yX8_isUnderWay, cX8_isUnderWay, 1, some .boolean, 0, 0, 0, [], 0)
def m_X8_numberOfPlan : MI := (yX8_numberOfPlan, cX8_numberOfPlan, 2, some .int, 1, 20, 0, [], 0)
def m_X11_plan : MI := (yX11_plan, cX11_plan, 2, some .int, 6, 89, 1, [], 0)
def m_X8_isReadByAll : MI := (yX8_isReadByAll, cX8_isReadByAll, 4, some .boolean, 2, 45, 0, [], 0)
def m_X8_whyNotFormat : MI := (yX8_whyNotFormat, cX8_whyNotFormat, 2, some .int, 3, 68, 0, [], 0)
def m_X11_whyNotCommit : MI := (yX11_whyNotCommit, cX11_whyNotCommit, 2, some .int, 7, 109, 1, [], 0)
def m_X8_lowestWayBack : MI := (yX8_lowestWayBack, cX8_lowestWayBack, 2, some .int, 2, 83, 0, [], 0)
def m_X11_wayBack : MI := (yX11_wayBack, cX11_wayBack, 1, some .int, 3, 104, 0, [], 0)
def m_X11_needAhead : MI := (yX11_needAhead, cX11_needAhead, 1, none, 6, 89, 1, [], 1)
def m_X8_isActive : MI := (yX8_isActive, cX8_isActive, 1, some .boolean, 0, 0, 0, [], 0)
def m_X3_add : MI := (yX3_add, cX3_add, 6, none, 1, 60, 0, [], 0)
def m_X8_endChanges : MI := (yX8_endChanges, cX8_endChanges, 2, none, 2, 85, 0, [], 0)
def m_X5_plannedMembers : MI := (yX5_plannedMembers, cX5_plannedMembers, 3, some .int, 0, 0, 0, [], 0)
def m_X8_reachedOf : MI := (yX8_reachedOf, cX8_reachedOf, 4, some .int, 0, 0, 0, [], 0)
def m_X8_measuredSet : MI := (yX8_measuredSet, cX8_measuredSet, 1, some .int, 1, 23, 0, [], 0)
def m_X8_sumOfMeasures : MI := (yX8_sumOfMeasures, cX8_sumOfMeasures, 4, some .int, 1, 21, 0, [], 0)
def m_X8_isOverLimit : MI := (yX8_isOverLimit, cX8_isOverLimit, 2, some .boolean, 2, 44, 0, [], 0)
def m_X8_stopPlan : MI := (yX8_stopPlan, cX8_stopPlan, 1, some .int, 2, 85, 0, [], 0)
theorem o_X11_needMember : MOK m_X11_needMember := MOKi (tbG_at (p := 1391) (by decide +kernel)) (tbG_at (p := 20) (by decide +kernel)) (by decide +kernel) rfl rfl (tbG_at (p := 1390) (by decide +kernel)) (tbG_atS (p := 23) (by decide +kernel))
theorem o_X8_isUp : MOK m_X8_isUp := MOKi (tbG_at (p := 1414) (by decide +kernel)) (tbG_at (p := 22) (by decide +kernel)) (by decide +kernel) rfl rfl (tbG_at (p := 1412) (by decide +kernel)) (tbG_at (p := 1413) (by decide +kernel))
theorem o_X5_waveOf : MOK m_X5_waveOf := MOKi (tbG_at (p := 1418) (by decide +kernel)) (tbG_at (p := 23) (by decide +kernel)) (by decide +kernel) rfl rfl (tbG_at (p := 1416) (by decide +kernel)) (tbG_at (p := 1417) (by decide +kernel))
theorem o_X8_numberOfMember : MOK m_X8_numberOfMember := MOKi (tbG_at (p := 1410) (by decide +kernel)) (tbG_at (p := 22) (by decide +kernel)) (by decide +kernel) rfl rfl (tbG_at (p := 1408) (by decide +kernel)) (tbG_at (p := 1409) (by decide +kernel))
theorem o_X11_member : MOK m_X11_member := MOKi (tbG_at (p := 1387) (by decide +kernel)) (tbG_at (p := 20) (by decide +kernel)) (by decide +kernel) rfl rfl (tbG_at (p := 1385) (by decide +kernel)) (tbG_at (p := 1386) (by decide +kernel))
theorem o_X11_partners : MOK m_X11_partners := MOKi (tbG_at (p := 1726) (by decide +kernel)) (tbG_at (p := 20) (by decide +kernel)) (by decide +kernel) rfl rfl (tbG_at (p := 1724) (by decide +kernel)) (tbG_at (p := 1725) (by decide +kernel))
theorem o_X11_down : MOK m_X11_down := MOKi (tbG_at (p := 1735) (by decide +kernel)) (tbG_at (p := 20) (by decide +kernel)) (by decide +kernel) rfl rfl (tbG_at (p := 1733) (by decide +kernel)) (tbG_at (p := 1734) (by decide +kernel))
theorem o_X5_everyMember : MOK m_X5_everyMember := MOKi (tbG_at (p := 1715) (by decide +kernel)) (tbG_at (p := 23) (by decide +kernel)) (by decide +kernel) rfl rfl (tbG_at (p := 1713) (by decide +kernel)) (tbG_at (p := 1714) (by decide +kernel))
theorem o_X8_highestComing : MOK m_X8_highestComing := MOKi (tbG_at (p := 1470) (by decide +kernel)) (tbG_at (p := 22) (by decide +kernel)) (by decide +kernel) rfl rfl (tbG_at (p := 1468) (by decide +kernel)) (tbG_at (p := 1469) (by decide +kernel))
theorem o_X8_lowestComing : MOK m_X8_lowestComing := MOKi (tbG_at (p := 1465) (by decide +kernel)) (tbG_at (p := 22) (by decide +kernel)) (by decide +kernel) rfl rfl (tbG_at (p := 1463) (by decide +kernel)) (tbG_at (p := 1464) (by decide +kernel))
theorem o_X11_skewNow : MOK m_X11_skewNow := MOKi (tbG_at (p := 1711) (by decide +kernel)) (tbG_at (p := 20) (by decide +kernel)) (by decide +kernel) rfl rfl (tbG_at (p := 1709) (by decide +kernel)) (tbG_at (p := 1710) (by decide +kernel))
theorem o_X5_neighboursOf : MOK m_X5_neighboursOf := MOKi (tbG_at (p := 1580) (by decide +kernel)) (tbG_at (p := 23) (by decide +kernel)) (by decide +kernel) rfl rfl (tbG_at (p := 1578) (by decide +kernel)) (tbG_at (p := 1579) (by decide +kernel))
theorem o_J6_bitCount_0f7a4 : MOK m_J6_bitCount_0f7a4 := MOKs (tbG_at (p := 1535) (by decide +kernel)) (tbG_at (p := 16) (by decide +kernel)) (by decide +kernel) rfl rfl (tbG_at (p := 1534) (by decide +kernel))
theorem o_X8_opponents : MOK m_X8_opponents := MOKi (tbG_at (p := 1584) (by decide +kernel)) (tbG_at (p := 22) (by decide +kernel)) (by decide +kernel) rfl rfl (tbG_at (p := 1582) (by decide +kernel)) (tbG_at (p := 1583) (by decide +kernel))
theorem o_X8_whyNotBegin : MOK m_X8_whyNotBegin := MOKi (tbG_at (p := 1576) (by decide +kernel)) (tbG_at (p := 22) (by decide +kernel)) (by decide +kernel) rfl rfl (tbG_at (p := 1574) (by decide +kernel)) (tbG_at (p := 1575) (by decide +kernel))
theorem o_X11_reason : MOK m_X11_reason := MOKi (tbG_at (p := 1572) (by decide +kernel)) (tbG_at (p := 20) (by decide +kernel)) (by decide +kernel) rfl rfl (tbG_at (p := 1570) (by decide +kernel)) (tbG_at (p := 1571) (by decide +kernel))
theorem o_X11_open : MOK m_X11_open := MOKi (tbG_at (p := 1752) (by decide +kernel)) (tbG_at (p := 20) (by decide +kernel)) (by decide +kernel) rfl rfl (tbG_at (p := 1750) (by decide +kernel)) (tbG_at (p := 1751) (by decide +kernel))
theorem o_X8_isUnderWay : MOK m_X8_isUnderWay := MOKi (tbG_at (p := 1370) (by decide +kernel)) (tbG_at (p := 22) (by decide +kernel)) (by decide +kernel) rfl rfl (tbG_at (p := 1368) (by decide +kernel)) (tbG_at (p := 1369) (by decide +kernel))
theorem o_X8_numberOfPlan : MOK m_X8_numberOfPlan := MOKi (tbG_at (p := 1366) (by decide +kernel)) (tbG_at (p := 22) (by decide +kernel)) (by decide +kernel) rfl rfl (tbG_at (p := 1364) (by decide +kernel)) (tbG_at (p := 1365) (by decide +kernel))
theorem o_X11_plan : MOK m_X11_plan := MOKi (tbG_at (p := 1362) (by decide +kernel)) (tbG_at (p := 20) (by decide +kernel)) (by decide +kernel) rfl rfl (tbG_at (p := 1360) (by decide +kernel)) (tbG_at (p := 1361) (by decide +kernel))
theorem o_X8_isReadByAll : MOK m_X8_isReadByAll := MOKi (tbG_at (p := 1615) (by decide +kernel)) (tbG_at (p := 22) (by decide +kernel)) (by decide +kernel) rfl rfl (tbG_at (p := 1613) (by decide +kernel)) (tbG_at (p := 1614) (by decide +kernel))
theorem o_X8_whyNotFormat : MOK m_X8_whyNotFormat := MOKi (tbG_at (p := 1611) (by decide +kernel)) (tbG_at (p := 22) (by decide +kernel)) (by decide +kernel) rfl rfl (tbG_at (p := 1609) (by decide +kernel)) (tbG_at (p := 1610) (by decide +kernel))
theorem o_X11_whyNotCommit : MOK m_X11_whyNotCommit := MOKi (tbG_at (p := 1604) (by decide +kernel)) (tbG_at (p := 20) (by decide +kernel)) (by decide +kernel) rfl rfl (tbG_at (p := 1602) (by decide +kernel)) (tbG_at (p := 1603) (by decide +kernel))
theorem o_X8_lowestWayBack : MOK m_X8_lowestWayBack := MOKi (tbG_at (p := 1744) (by decide +kernel)) (tbG_at (p := 22) (by decide +kernel)) (by decide +kernel) rfl rfl (tbG_at (p := 1742) (by decide +kernel)) (tbG_at (p := 1743) (by decide +kernel))
theorem o_X11_wayBack : MOK m_X11_wayBack := MOKi (tbG_at (p := 1740) (by decide +kernel)) (tbG_at (p := 20) (by decide +kernel)) (by decide +kernel) rfl rfl (tbG_at (p := 1738) (by decide +kernel)) (tbG_at (p := 1739) (by decide +kernel))
theorem o_X11_needAhead : MOK m_X11_needAhead := MOKs (tbG_at (p := 1782) (by decide +kernel)) (tbG_at (p := 20) (by decide +kernel)) (by decide +kernel) rfl rfl (tbG_at (p := 1781) (by decide +kernel))
theorem o_X8_isActive : MOK m_X8_isActive := MOKi (tbG_at (p := 1447) (by decide +kernel)) (tbG_at (p := 22) (by decide +kernel)) (by decide +kernel) rfl rfl (tbG_at (p := 1445) (by decide +kernel)) (tbG_at (p := 1446) (by decide +kernel))
theorem o_X3_add : MOK m_X3_add := MOKi (tbG_at (p := 1475) (by decide +kernel)) (tbG_at (p := 25) (by decide +kernel)) (by decide +kernel) rfl rfl (tbG_at (p := 1473) (by decide +kernel)) (tbG_at (p := 1474) (by decide +kernel))
theorem o_X8_endChanges : MOK m_X8_endChanges := MOKi (tbG_at (p := 1669) (by decide +kernel)) (tbG_at (p := 22) (by decide +kernel)) (by decide +kernel) rfl rfl (tbG_at (p := 1668) (by decide +kernel)) (tbG_atS (p := 27) (by decide +kernel))
theorem o_X5_plannedMembers : MOK m_X5_plannedMembers := MOKi (tbG_at (p := 1461) (by decide +kernel)) (tbG_at (p := 23) (by decide +kernel)) (by decide +kernel) rfl rfl (tbG_at (p := 1459) (by decide +kernel)) (tbG_at (p := 1460) (by decide +kernel))
theorem o_X8_reachedOf : MOK m_X8_reachedOf := MOKi (tbG_at (p := 1681) (by decide +kernel)) (tbG_at (p := 22) (by decide +kernel)) (by decide +kernel) rfl rfl (tbG_at (p := 1680) (by decide +kernel)) (tbG_atS (p := 29) (by decide +kernel))
theorem o_X8_measuredSet : MOK m_X8_measuredSet := MOKi (tbG_at (p := 1677) (by decide +kernel)) (tbG_at (p := 22) (by decide +kernel)) (by decide +kernel) rfl rfl (tbG_at (p := 1675) (by decide +kernel)) (tbG_at (p := 1676) (by decide +kernel))
theorem o_X8_sumOfMeasures : MOK m_X8_sumOfMeasures := MOKi (tbG_at (p := 1685) (by decide +kernel)) (tbG_at (p := 22) (by decide +kernel)) (by decide +kernel) rfl rfl (tbG_at (p := 1683) (by decide +kernel)) (tbG_at (p := 1684) (by decide +kernel))
theorem o_X8_isOverLimit : MOK m_X8_isOverLimit := MOKi (tbG_at (p := 1673) (by decide +kernel)) (tbG_at (p := 22) (by decide +kernel)) (by decide +kernel) rfl rfl (tbG_at (p := 1672) (by decide +kernel)) (tbG_atS (p := 28) (by decide +kernel))
theorem o_X8_stopPlan : MOK m_X8_stopPlan := MOKi (tbG_at (p := 1511) (by decide +kernel)) (tbG_at (p := 22) (by decide +kernel)) (by decide +kernel) rfl rfl (tbG_at (p := 1509) (by decide +kernel)) (tbG_at (p := 1510) (by decide +kernel))
def c_X11_needMember : Cd := [
  [(0, .iload_n 1, 1, [], []), (1, .ifCond .lt 20, 3, [21], []), (4, .iload_n 1, 1, [], []), (5, .aload_n 0, 1, [], []), (6, .getfield 24, 3, [8, 1, 3, 361], []), (9, .getfield 28, 3, [6, 0, 3, 224], []), (12, .getfield 100, 3, [3, 8, 3, 129], []), (15, .getfield 104, 3, [4, 1, 0, 100], [])],
  [(18, .if_icmp .lt 11, 3, [29], []), (21, .new 178, 3, [2, 180, 1392, 1401], []), (29, .return_, 1, [], [])]]
theorem k_X11_needMember : CdOk m_X11_needMember c_X11_needMember := ⟨by decide +kernel, allM_of trivial⟩
def c_X8_isUp : Cd := [
  [(0, .aload_n 0, 1, [], []), (1, .getfield 18, 3, [6, 5, 3, 234], []), (4, .iload_n 1, 1, [], []), (5, .iaload, 1, [], []), (6, .iconst (-1), 1, [], []), (7, .if_icmp .ne 7, 3, [14], []), (10, .iconst 1, 1, [], []), (11, .goto 4, 3, [15], []), (14, .iconst 0, 1, [], []), (15, .ireturn, 1, [6], [])]]
theorem k_X8_isUp : CdOk m_X8_isUp c_X8_isUp := ⟨by decide +kernel, allM_of trivial⟩
def c_X5_waveOf : Cd := [
  [(0, .aload_n 0, 1, [], []), (1, .getfield 45, 3, [3, 9, 3, 132], []), (4, .iload_n 1, 1, [], []), (5, .iaload, 1, [], []), (6, .istore_n 2, 1, [], []), (7, .iload_n 2, 1, [], []), (8, .ifCond .lt 23, 3, [31], []), (11, .iload_n 2, 1, [], []), (12, .aload_n 0, 1, [], []), (13, .getfield 30, 3, [3, 4, 3, 119], [])],
  [(16, .getfield 54, 3, [4, 1, 0, 99], []), (19, .if_icmp .ge 12, 3, [31], []), (22, .aload_n 0, 1, [], []), (23, .getfield 33, 3, [3, 5, 3, 122], []), (26, .iload_n 2, 1, [], []), (27, .iaload, 1, [], []), (28, .goto 4, 3, [32], []), (31, .iconst (-1), 1, [], [])],
  [(32, .ireturn, 1, [1], [])]]
theorem k_X5_waveOf : CdOk m_X5_waveOf c_X5_waveOf := ⟨by decide +kernel, allM_of trivial⟩
def c_X8_numberOfMember : Cd := [
  [(0, .iload_n 2, 1, [], []), (1, .tableswitch 119 0 6 #[43, 53, 60, 79, 86, 93, 110], 43, [120, 0, 44, 54, 61, 80, 87, 94, 111], [])],
  [],
  [(44, .aload_n 0, 1, [], []), (45, .getfield 31, 3, [6, 0, 3, 225], [])],
  [(48, .getfield 116, 3, [3, 9, 3, 133], []), (51, .iload_n 1, 1, [], []), (52, .iaload, 1, [], []), (53, .ireturn, 1, [1], []), (54, .aload_n 0, 1, [], []), (55, .getfield 9, 3, [6, 3, 3, 231], []), (58, .iload_n 1, 1, [], []), (59, .iaload, 1, [], []), (60, .ireturn, 1, [1], []), (61, .aload_n 0, 1, [], []), (62, .iload_n 1, 1, [], []), (63, .invokevirtual 135, 3, [0, 1, 1, 6, 0, 1411], [m_X8_isUp])],
  [(66, .ifCond .eq 7, 3, [73], []), (69, .iconst (-1), 1, [], []), (70, .goto 9, 3, [79], []), (73, .aload_n 0, 1, [], []), (74, .getfield 15, 3, [6, 4, 3, 233], []), (77, .iload_n 1, 1, [], []), (78, .iaload, 1, [], []), (79, .ireturn, 1, [1], [])],
  [(80, .aload_n 0, 1, [], []), (81, .getfield 18, 3, [6, 5, 3, 234], []), (84, .iload_n 1, 1, [], []), (85, .iaload, 1, [], []), (86, .ireturn, 1, [1], []), (87, .aload_n 0, 1, [], []), (88, .getfield 21, 3, [6, 6, 3, 235], []), (91, .iload_n 1, 1, [], []), (92, .iaload, 1, [], []), (93, .ireturn, 1, [1], []), (94, .aload_n 0, 1, [], []), (95, .getfield 48, 3, [6, 8, 0, 238], [])],
  [(98, .iload_n 1, 1, [], []), (99, .invokestatic 119, 3, [2, 2, 1, 0, 0, 0], [m_X11_isIn]), (102, .ifCond .eq 7, 3, [109], []), (105, .iconst 1, 1, [], []), (106, .goto 4, 3, [110], []), (109, .iconst 0, 1, [], []), (110, .ireturn, 1, [1], []), (111, .aload_n 0, 1, [], [])],
  [(112, .getfield 31, 3, [6, 0, 3, 225], []), (115, .iload_n 1, 1, [], []), (116, .invokevirtual 139, 3, [0, 1, 1, 3, 0, 1415], [m_X5_waveOf]), (119, .ireturn, 1, [1], []), (120, .iconst (-1), 1, [], []), (121, .ireturn, 1, [1], [])]]
theorem k_X8_numberOfMember : CdOk m_X8_numberOfMember c_X8_numberOfMember := ⟨by decide +kernel, allM_of ⟨o_X8_isUp, ⟨o_X11_isIn, ⟨o_X5_waveOf, trivial⟩⟩⟩⟩
def c_X11_member : Cd := [
  [(0, .aload_n 0, 1, [], []), (1, .iload_n 1, 1, [], []), (2, .invokevirtual 162, 3, [0, 1, 0, 8, 1, 1388], [m_X11_needMember]), (5, .iload_n 2, 1, [], []), (6, .ifCond .lt 9, 3, [15], []), (9, .iload_n 2, 1, [], []), (10, .bipush 6, 2, [], []), (12, .if_icmp .le 11, 3, [23], []), (15, .new 86, 3, [1, 88, 621, 662], [])],
  [(23, .aload_n 0, 1, [], []), (24, .getfield 24, 3, [8, 1, 3, 361], []), (27, .iload_n 1, 1, [], []), (28, .iload_n 2, 1, [], []), (29, .invokevirtual 165, 3, [0, 2, 1, 6, 0, 1407], [m_X8_numberOfMember])],
  [(32, .ireturn, 1, [1], [])]]
theorem k_X11_member : CdOk m_X11_member c_X11_member := ⟨by decide +kernel, allM_of ⟨o_X11_needMember, ⟨o_X8_numberOfMember, trivial⟩⟩⟩
def c_X11_partners : Cd := [
  [(0, .aload_n 0, 1, [], []), (1, .iload_n 1, 1, [], []), (2, .invokevirtual 162, 3, [0, 1, 0, 8, 1, 1388], [m_X11_needMember]), (5, .aload_n 0, 1, [], []), (6, .getfield 24, 3, [8, 1, 3, 361], []), (9, .getfield 28, 3, [6, 0, 3, 224], []), (12, .getfield 168, 3, [3, 10, 3, 137], []), (15, .iload_n 1, 1, [], [])],
  [(16, .iaload, 1, [], []), (17, .ireturn, 1, [1], [])]]
theorem k_X11_partners : CdOk m_X11_partners c_X11_partners := ⟨by decide +kernel, allM_of ⟨o_X11_needMember, trivial⟩⟩
def c_X11_down : Cd := [
  [(0, .iload_n 1, 1, [], []), (1, .ifCond .lt 20, 3, [21], []), (4, .iload_n 1, 1, [], []), (5, .aload_n 0, 1, [], []), (6, .getfield 24, 3, [8, 1, 3, 361], []), (9, .getfield 28, 3, [6, 0, 3, 224], []), (12, .getfield 175, 3, [3, 4, 3, 121], []), (15, .getfield 104, 3, [4, 1, 0, 100], [])],
  [(18, .if_icmp .lt 11, 3, [29], []), (21, .new 178, 3, [2, 180, 1392, 1401], []), (29, .aload_n 0, 1, [], []), (30, .getfield 24, 3, [8, 1, 3, 361], [])],
  [(33, .getfield 28, 3, [6, 0, 3, 224], []), (36, .getfield 181, 3, [3, 6, 3, 125], []), (39, .iload_n 1, 1, [], []), (40, .iaload, 1, [], []), (41, .aload_n 0, 1, [], []), (42, .getfield 24, 3, [8, 1, 3, 361], []), (45, .getfield 184, 3, [6, 7, 0, 237], [])],
  [(48, .iand, 1, [], []), (49, .ireturn, 1, [1], [])]]
theorem k_X11_down : CdOk m_X11_down c_X11_down := ⟨by decide +kernel, allM_of trivial⟩
def c_X5_everyMember : Cd := [
  [(0, .iconst 1, 1, [], []), (1, .aload_n 0, 1, [], []), (2, .getfield 42, 3, [3, 8, 3, 128], []), (5, .getfield 54, 3, [4, 1, 0, 99], []), (8, .ishl, 1, [], []), (9, .iconst 1, 1, [], []), (10, .isub, 1, [], []), (11, .ireturn, 1, [1], [])]]
theorem k_X5_everyMember : CdOk m_X5_everyMember c_X5_everyMember := ⟨by decide +kernel, allM_of trivial⟩
def c_X8_highestComing : Cd := [
  [(0, .iconst (-1), 1, [], []), (1, .istore_n 2, 1, [], []), (2, .iconst 0, 1, [], []), (3, .istore_n 3, 1, [], []), (4, .iload_n 3, 1, [], []), (5, .aload_n 0, 1, [], []), (6, .getfield 31, 3, [6, 0, 3, 225], []), (9, .getfield 89, 3, [3, 8, 3, 131], []), (12, .getfield 93, 3, [4, 1, 0, 102], []), (15, .if_icmp .ge 28, 3, [43], [])],
  [(18, .iload_n 1, 1, [], []), (19, .iload_n 3, 1, [], []), (20, .invokestatic 119, 3, [2, 2, 1, 0, 0, 0], [m_X11_isIn]), (23, .ifCond .eq 14, 3, [37], []), (26, .iload_n 2, 1, [], []), (27, .aload_n 0, 1, [], []), (28, .getfield 15, 3, [6, 4, 3, 233], []), (31, .iload_n 3, 1, [], [])],
  [(32, .iaload, 1, [], []), (33, .invokestatic 145, 3, [11, 1471], []), (36, .istore_n 2, 1, [], []), (37, .iinc 3 1, 3, [], []), (40, .goto (-36), 3, [4], []), (43, .iload_n 2, 1, [], []), (44, .ireturn, 1, [1], [])]]
theorem k_X8_highestComing : CdOk m_X8_highestComing c_X8_highestComing := ⟨by decide +kernel, allM_of ⟨o_X11_isIn, trivial⟩⟩
def c_X8_lowestComing : Cd := [
  [(0, .bipush 8, 2, [], []), (2, .istore_n 2, 1, [], []), (3, .iconst 0, 1, [], []), (4, .istore_n 3, 1, [], []), (5, .iload_n 3, 1, [], []), (6, .aload_n 0, 1, [], []), (7, .getfield 31, 3, [6, 0, 3, 225], []), (10, .getfield 89, 3, [3, 8, 3, 131], []), (13, .getfield 93, 3, [4, 1, 0, 102], [])],
  [(16, .if_icmp .ge 28, 3, [44], []), (19, .iload_n 1, 1, [], []), (20, .iload_n 3, 1, [], []), (21, .invokestatic 119, 3, [2, 2, 1, 0, 0, 0], [m_X11_isIn]), (24, .ifCond .eq 14, 3, [38], []), (27, .iload_n 2, 1, [], []), (28, .aload_n 0, 1, [], []), (29, .getfield 15, 3, [6, 4, 3, 233], [])],
  [(32, .iload_n 3, 1, [], []), (33, .iaload, 1, [], []), (34, .invokestatic 142, 3, [10, 1466], []), (37, .istore_n 2, 1, [], []), (38, .iinc 3 1, 3, [], []), (41, .goto (-36), 3, [5], []), (44, .iload_n 2, 1, [], []), (45, .ireturn, 1, [1], [])]]
theorem k_X8_lowestComing : CdOk m_X8_lowestComing c_X8_lowestComing := ⟨by decide +kernel, allM_of ⟨o_X11_isIn, trivial⟩⟩
def c_X11_skewNow : Cd := [
  [(0, .aload_n 0, 1, [], []), (1, .getfield 24, 3, [8, 1, 3, 361], []), (4, .getfield 28, 3, [6, 0, 3, 224], []), (7, .invokevirtual 187, 3, [0, 0, 1, 3, 0, 1712], [m_X5_everyMember]), (10, .istore_n 1, 1, [], []), (11, .iload_n 1, 1, [], []), (12, .ifCond .ne 7, 3, [19], []), (15, .iconst 0, 1, [], [])],
  [(16, .goto 20, 3, [36], []), (19, .aload_n 0, 1, [], []), (20, .getfield 24, 3, [8, 1, 3, 361], []), (23, .iload_n 1, 1, [], []), (24, .invokevirtual 190, 3, [0, 1, 1, 6, 0, 1716], [m_X8_highestComing]), (27, .aload_n 0, 1, [], []), (28, .getfield 24, 3, [8, 1, 3, 361], []), (31, .iload_n 1, 1, [], [])],
  [(32, .invokevirtual 193, 3, [0, 1, 1, 6, 0, 1717], [m_X8_lowestComing]), (35, .isub, 1, [], []), (36, .ireturn, 1, [1], [])]]
theorem k_X11_skewNow : CdOk m_X11_skewNow c_X11_skewNow := ⟨by decide +kernel, allM_of ⟨o_X5_everyMember, ⟨o_X8_highestComing, ⟨o_X8_lowestComing, trivial⟩⟩⟩⟩
def c_X5_neighboursOf : Cd := [
  [(0, .aload_n 0, 1, [], []), (1, .getfield 45, 3, [3, 9, 3, 132], []), (4, .iload_n 1, 1, [], []), (5, .iaload, 1, [], []), (6, .istore_n 2, 1, [], []), (7, .iload_n 2, 1, [], []), (8, .ifCond .lt 23, 3, [31], []), (11, .iload_n 2, 1, [], []), (12, .aload_n 0, 1, [], []), (13, .getfield 30, 3, [3, 4, 3, 119], [])],
  [(16, .getfield 54, 3, [4, 1, 0, 99], []), (19, .if_icmp .ge 12, 3, [31], []), (22, .aload_n 0, 1, [], []), (23, .getfield 36, 3, [3, 6, 3, 124], []), (26, .iload_n 2, 1, [], []), (27, .iaload, 1, [], []), (28, .goto 4, 3, [32], []), (31, .iconst 0, 1, [], [])],
  [(32, .ireturn, 1, [1], [])]]
theorem k_X5_neighboursOf : CdOk m_X5_neighboursOf c_X5_neighboursOf := ⟨by decide +kernel, allM_of trivial⟩
def c_J6_bitCount_0f7a4 : Cd := [
  [(0, .iload_n 0, 1, [], []), (1, .iload_n 0, 1, [], []), (2, .iconst 1, 1, [], []), (3, .iushr, 1, [], []), (4, .ldc_w 265, 3, [1431655765, 1536], []), (7, .iand, 1, [], []), (8, .isub, 1, [], []), (9, .istore_n 0, 1, [], []), (10, .iload_n 0, 1, [], []), (11, .ldc_w 266, 3, [858993459, 1537], []), (14, .iand, 1, [], []), (15, .iload_n 0, 1, [], [])],
  [(16, .iconst 2, 1, [], []), (17, .iushr, 1, [], []), (18, .ldc_w 266, 3, [858993459, 1537], []), (21, .iand, 1, [], []), (22, .iadd, 1, [], []), (23, .istore_n 0, 1, [], []), (24, .iload_n 0, 1, [], []), (25, .iload_n 0, 1, [], []), (26, .iconst 4, 1, [], []), (27, .iushr, 1, [], []), (28, .iadd, 1, [], []), (29, .ldc_w 267, 3, [252645135, 1538], [])],
  [(32, .iand, 1, [], []), (33, .istore_n 0, 1, [], []), (34, .iload_n 0, 1, [], []), (35, .iload_n 0, 1, [], []), (36, .bipush 8, 2, [], []), (38, .iushr, 1, [], []), (39, .iadd, 1, [], []), (40, .istore_n 0, 1, [], []), (41, .iload_n 0, 1, [], []), (42, .iload_n 0, 1, [], []), (43, .bipush 16, 2, [], []), (45, .iushr, 1, [], []), (46, .iadd, 1, [], []), (47, .istore_n 0, 1, [], [])],
  [(48, .iload_n 0, 1, [], []), (49, .bipush 63, 2, [], []), (51, .iand, 1, [], []), (52, .ireturn, 1, [1], [])]]
theorem k_J6_bitCount_0f7a4 : CdOk m_J6_bitCount_0f7a4 c_J6_bitCount_0f7a4 := ⟨by decide +kernel, allM_of trivial⟩
def c_X8_opponents : Cd := [
  [(0, .aload_n 0, 1, [], []), (1, .getfield 31, 3, [6, 0, 3, 225], []), (4, .iload_n 2, 1, [], []), (5, .invokevirtual 100, 3, [0, 1, 1, 3, 0, 566], [m_X5_talkersOf]), (8, .istore_n 3, 1, [], []), (9, .aload_n 0, 1, [], []), (10, .getfield 31, 3, [6, 0, 3, 225], []), (13, .getfield 162, 3, [3, 10, 3, 138], [])],
  [(16, .iload_n 1, 1, [], []), (17, .iaload, 1, [], []), (18, .istore 4, 2, [], []), (20, .iconst 0, 1, [], []), (21, .istore 5, 2, [], []), (23, .iload 5, 2, [], []), (25, .aload_n 0, 1, [], []), (26, .getfield 31, 3, [6, 0, 3, 225], []), (29, .getfield 89, 3, [3, 8, 3, 131], [])],
  [(32, .getfield 93, 3, [4, 1, 0, 102], []), (35, .if_icmp .ge 34, 3, [69], []), (38, .iload_n 3, 1, [], []), (39, .aload_n 0, 1, [], []), (40, .getfield 15, 3, [6, 4, 3, 233], []), (43, .iload 5, 2, [], []), (45, .iaload, 1, [], []), (46, .invokestatic 119, 3, [2, 2, 1, 0, 0, 0], [m_X11_isIn])],
  [(49, .ifCond .eq 14, 3, [63], []), (52, .iload 4, 2, [], []), (54, .iconst 1, 1, [], []), (55, .iload 5, 2, [], []), (57, .ishl, 1, [], []), (58, .iconst (-1), 1, [], []), (59, .ixor, 1, [], []), (60, .iand, 1, [], []), (61, .istore 4, 2, [], []), (63, .iinc 5 1, 3, [], [])],
  [(66, .goto (-43), 3, [23], []), (69, .iload 4, 2, [], []), (71, .ireturn, 1, [1], [])]]
theorem k_X8_opponents : CdOk m_X8_opponents c_X8_opponents := ⟨by decide +kernel, allM_of ⟨o_X5_talkersOf, ⟨o_X11_isIn, trivial⟩⟩⟩
def c_X8_whyNotBegin : Cd := [
  [(0, .aload_n 0, 1, [], []), (1, .getfield 48, 3, [6, 8, 0, 238], []), (4, .iload_n 1, 1, [], []), (5, .invokestatic 119, 3, [2, 2, 1, 0, 0, 0], [m_X11_isIn]), (8, .ifCond .eq 5, 3, [13], []), (11, .iconst 1, 1, [], []), (12, .ireturn, 1, [1], []), (13, .aload_n 0, 1, [], []), (14, .iload_n 1, 1, [], []), (15, .invokevirtual 135, 3, [0, 1, 1, 6, 0, 1411], [m_X8_isUp])],
  [(18, .ifCond .ne 5, 3, [23], []), (21, .iconst 2, 1, [], []), (22, .ireturn, 1, [1], []), (23, .aload_n 0, 1, [], []), (24, .getfield 9, 3, [6, 3, 3, 231], []), (27, .iload_n 1, 1, [], []), (28, .iaload, 1, [], []), (29, .iload_n 2, 1, [], []), (30, .if_icmp .ne 5, 3, [35], [])],
  [(33, .iconst 3, 1, [], []), (34, .ireturn, 1, [1], []), (35, .aload_n 0, 1, [], []), (36, .getfield 31, 3, [6, 0, 3, 225], []), (39, .iload_n 2, 1, [], []), (40, .aload_n 0, 1, [], []), (41, .getfield 42, 3, [6, 2, 0, 228], []), (44, .invokevirtual 104, 3, [0, 2, 1, 3, 0, 567], [m_X5_isReader]), (47, .ifCond .ne 5, 3, [52], [])],
  [(50, .iconst 4, 1, [], []), (51, .ireturn, 1, [1], []), (52, .aload_n 0, 1, [], []), (53, .getfield 31, 3, [6, 0, 3, 225], []), (56, .iload_n 1, 1, [], []), (57, .invokevirtual 148, 3, [0, 1, 1, 3, 0, 1577], [m_X5_neighboursOf]), (60, .aload_n 0, 1, [], []), (61, .getfield 45, 3, [6, 7, 0, 236], [])],
  [(64, .iand, 1, [], []), (65, .istore_n 3, 1, [], []), (66, .iload_n 3, 1, [], []), (67, .invokestatic 151, 3, [1, 1, 1, 0, 0, 1533], [m_J6_bitCount_0f7a4]), (70, .aload_n 0, 1, [], []), (71, .getfield 31, 3, [6, 0, 3, 225], []), (74, .getfield 156, 3, [3, 14, 0, 149], []), (77, .if_icmp .lt 5, 3, [82], [])],
  [(80, .iconst 5, 1, [], []), (81, .ireturn, 1, [1], []), (82, .iconst 0, 1, [], []), (83, .istore 4, 2, [], []), (85, .iload 4, 2, [], []), (87, .aload_n 0, 1, [], []), (88, .getfield 31, 3, [6, 0, 3, 225], []), (91, .getfield 89, 3, [3, 8, 3, 131], []), (94, .getfield 93, 3, [4, 1, 0, 102], [])],
  [(97, .if_icmp .ge 40, 3, [137], []), (100, .iload 4, 2, [], []), (102, .iload_n 1, 1, [], []), (103, .if_icmp .eq 28, 3, [131], []), (106, .aload_n 0, 1, [], []), (107, .getfield 15, 3, [6, 4, 3, 233], []), (110, .iload 4, 2, [], [])],
  [(112, .iaload, 1, [], []), (113, .iload_n 2, 1, [], []), (114, .isub, 1, [], []), (115, .invokestatic 108, 3, [12, 571], []), (118, .aload_n 0, 1, [], []), (119, .getfield 31, 3, [6, 0, 3, 225], []), (122, .getfield 113, 3, [3, 13, 0, 145], []), (125, .if_icmp .le 6, 3, [131], [])],
  [(128, .bipush 6, 2, [], []), (130, .ireturn, 1, [1], []), (131, .iinc 4 1, 3, [], []), (134, .goto (-49), 3, [85], []), (137, .aload_n 0, 1, [], []), (138, .iload_n 1, 1, [], []), (139, .iload_n 2, 1, [], []), (140, .invokevirtual 159, 3, [0, 2, 1, 6, 0, 1581], [m_X8_opponents]), (143, .ifCond .ne 7, 3, [150], [])],
  [(146, .iconst 0, 1, [], []), (147, .goto 5, 3, [152], []), (150, .bipush 7, 2, [], []), (152, .ireturn, 1, [1], [])]]
theorem k_X8_whyNotBegin : CdOk m_X8_whyNotBegin c_X8_whyNotBegin := ⟨by decide +kernel, allM_of ⟨o_X11_isIn, ⟨o_X8_isUp, ⟨o_X5_isReader, ⟨o_X5_neighboursOf, ⟨o_J6_bitCount_0f7a4, ⟨o_X8_opponents, trivial⟩⟩⟩⟩⟩⟩⟩
def c_X11_reason : Cd := [
  [(0, .aload_n 0, 1, [], []), (1, .iload_n 1, 1, [], []), (2, .invokevirtual 162, 3, [0, 1, 0, 8, 1, 1388], [m_X11_needMember]), (5, .aload_n 0, 1, [], []), (6, .iload_n 2, 1, [], []), (7, .invokevirtual 139, 3, [0, 1, 0, 8, 1, 1436], [m_X11_needVersion]), (10, .aload_n 0, 1, [], []), (11, .getfield 24, 3, [8, 1, 3, 361], []), (14, .iload_n 1, 1, [], []), (15, .iload_n 2, 1, [], [])],
  [(16, .invokevirtual 196, 3, [0, 2, 1, 6, 0, 1573], [m_X8_whyNotBegin]), (19, .ireturn, 1, [1], [])]]
theorem k_X11_reason : CdOk m_X11_reason c_X11_reason := ⟨by decide +kernel, allM_of ⟨o_X11_needMember, ⟨o_X11_needVersion, ⟨o_X8_whyNotBegin, trivial⟩⟩⟩⟩
def c_X11_open : Cd := [
  [(0, .aload_n 0, 1, [], []), (1, .iload_n 1, 1, [], []), (2, .invokevirtual 162, 3, [0, 1, 0, 8, 1, 1388], [m_X11_needMember]), (5, .iconst 0, 1, [], []), (6, .istore_n 2, 1, [], []), (7, .iconst 0, 1, [], []), (8, .istore_n 3, 1, [], []), (9, .iload_n 3, 1, [], []), (10, .aload_n 0, 1, [], []), (11, .getfield 24, 3, [8, 1, 3, 361], []), (14, .getfield 28, 3, [6, 0, 3, 224], [])],
  [(17, .getfield 199, 3, [3, 0, 3, 115], []), (20, .getfield 104, 3, [4, 1, 0, 100], []), (23, .if_icmp .ge 27, 3, [50], []), (26, .aload_n 0, 1, [], []), (27, .getfield 24, 3, [8, 1, 3, 361], []), (30, .iload_n 1, 1, [], []), (31, .iload_n 3, 1, [], [])],
  [(32, .invokevirtual 196, 3, [0, 2, 1, 6, 0, 1573], [m_X8_whyNotBegin]), (35, .ifCond .ne 9, 3, [44], []), (38, .iload_n 2, 1, [], []), (39, .iconst 1, 1, [], []), (40, .iload_n 3, 1, [], []), (41, .ishl, 1, [], []), (42, .ior, 1, [], []), (43, .istore_n 2, 1, [], []), (44, .iinc 3 1, 3, [], []), (47, .goto (-38), 3, [9], [])],
  [(50, .iload_n 2, 1, [], []), (51, .ireturn, 1, [1], [])]]
theorem k_X11_open : CdOk m_X11_open c_X11_open := ⟨by decide +kernel, allM_of ⟨o_X11_needMember, ⟨o_X8_whyNotBegin, trivial⟩⟩⟩
def c_X8_isUnderWay : Cd := [
  [(0, .aload_n 0, 1, [], []), (1, .getfield 51, 3, [6, 9, 0, 240], []), (4, .ifCond .eq 15, 3, [19], []), (7, .aload_n 0, 1, [], []), (8, .getfield 51, 3, [6, 9, 0, 240], []), (11, .iconst 4, 1, [], []), (12, .if_icmp .eq 7, 3, [19], []), (15, .iconst 1, 1, [], [])],
  [(16, .goto 4, 3, [20], []), (19, .iconst 0, 1, [], []), (20, .ireturn, 1, [6], [])]]
theorem k_X8_isUnderWay : CdOk m_X8_isUnderWay c_X8_isUnderWay := ⟨by decide +kernel, allM_of trivial⟩
def c_X8_numberOfPlan : Cd := [
  [(0, .iload_n 1, 1, [], []), (1, .ifCond .ne 8, 3, [9], []), (4, .aload_n 0, 1, [], []), (5, .getfield 51, 3, [6, 9, 0, 240], []), (8, .ireturn, 1, [1], []), (9, .aload_n 0, 1, [], []), (10, .invokevirtual 185, 3, [0, 0, 1, 6, 0, 1367], [m_X8_isUnderWay]), (13, .ifCond .ne 5, 3, [18], [])],
  [(16, .iconst (-1), 1, [], []), (17, .ireturn, 1, [1], []), (18, .iload_n 1, 1, [], []), (19, .tableswitch 49 1 4 #[29, 34, 39, 44], 29, [68, 1, 48, 53, 58, 63], [])],
  [],
  [(48, .aload_n 0, 1, [], []), (49, .getfield 54, 3, [6, 10, 0, 242], []), (52, .ireturn, 1, [1], []), (53, .aload_n 0, 1, [], []), (54, .getfield 57, 3, [6, 11, 0, 243], []), (57, .ireturn, 1, [1], []), (58, .aload_n 0, 1, [], []), (59, .getfield 64, 3, [6, 13, 0, 245], []), (62, .ireturn, 1, [1], []), (63, .aload_n 0, 1, [], [])],
  [(64, .getfield 67, 3, [6, 14, 0, 246], []), (67, .ireturn, 1, [1], []), (68, .iconst (-1), 1, [], []), (69, .ireturn, 1, [1], [])]]
theorem k_X8_numberOfPlan : CdOk m_X8_numberOfPlan c_X8_numberOfPlan := ⟨by decide +kernel, allM_of ⟨o_X8_isUnderWay, trivial⟩⟩
def c_X11_plan : Cd := [
  [(0, .iload_n 1, 1, [], []), (1, .ifCond .lt 8, 3, [9], []), (4, .iload_n 1, 1, [], []), (5, .iconst 4, 1, [], []), (6, .if_icmp .le 11, 3, [17], []), (9, .new 86, 3, [1, 88, 621, 662], [])],
  [(17, .aload_n 0, 1, [], []), (18, .getfield 24, 3, [8, 1, 3, 361], []), (21, .iload_n 1, 1, [], []), (22, .invokevirtual 208, 3, [0, 1, 1, 6, 0, 1363], [m_X8_numberOfPlan]), (25, .ireturn, 1, [1], [])]]
theorem k_X11_plan : CdOk m_X11_plan c_X11_plan := ⟨by decide +kernel, allM_of ⟨o_X8_numberOfPlan, trivial⟩⟩
def c_X8_isReadByAll : Cd := [
  [(0, .aload_n 0, 1, [], []), (1, .getfield 31, 3, [6, 0, 3, 225], []), (4, .iload_n 1, 1, [], []), (5, .invokevirtual 122, 3, [0, 1, 1, 3, 0, 1616], [m_X5_readersOf]), (8, .istore_n 2, 1, [], []), (9, .iconst 0, 1, [], []), (10, .istore_n 3, 1, [], []), (11, .iload_n 3, 1, [], []), (12, .aload_n 0, 1, [], []), (13, .getfield 31, 3, [6, 0, 3, 225], [])],
  [(16, .getfield 89, 3, [3, 8, 3, 131], []), (19, .getfield 93, 3, [4, 1, 0, 102], []), (22, .if_icmp .ge 24, 3, [46], []), (25, .iload_n 2, 1, [], []), (26, .aload_n 0, 1, [], []), (27, .getfield 15, 3, [6, 4, 3, 233], []), (30, .iload_n 3, 1, [], []), (31, .iaload, 1, [], [])],
  [(32, .invokestatic 119, 3, [2, 2, 1, 0, 0, 0], [m_X11_isIn]), (35, .ifCond .ne 5, 3, [40], []), (38, .iconst 0, 1, [], []), (39, .ireturn, 1, [6], []), (40, .iinc 3 1, 3, [], []), (43, .goto (-32), 3, [11], []), (46, .iconst 1, 1, [], []), (47, .ireturn, 1, [6], [])]]
theorem k_X8_isReadByAll : CdOk m_X8_isReadByAll c_X8_isReadByAll := ⟨by decide +kernel, allM_of ⟨o_X5_readersOf, ⟨o_X11_isIn, trivial⟩⟩⟩
def c_X8_whyNotFormat : Cd := [
  [(0, .iload_n 1, 1, [], []), (1, .aload_n 0, 1, [], []), (2, .getfield 42, 3, [6, 2, 0, 228], []), (5, .if_icmp .gt 5, 3, [10], []), (8, .iconst 1, 1, [], []), (9, .ireturn, 1, [1], []), (10, .aload_n 0, 1, [], []), (11, .iload_n 1, 1, [], []), (12, .invokevirtual 175, 3, [0, 1, 1, 6, 0, 1612], [m_X8_isReadByAll]), (15, .ifCond .eq 7, 3, [22], [])],
  [(18, .iconst 0, 1, [], []), (19, .goto 4, 3, [23], []), (22, .iconst 2, 1, [], []), (23, .ireturn, 1, [1], [])]]
theorem k_X8_whyNotFormat : CdOk m_X8_whyNotFormat c_X8_whyNotFormat := ⟨by decide +kernel, allM_of ⟨o_X8_isReadByAll, trivial⟩⟩
def c_X11_whyNotCommit : Cd := [
  [(0, .iload_n 1, 1, [], []), (1, .invokestatic 149, 3, [1, 1, 0, 0, 1, 1605], [m_X11_needFormat]), (4, .aload_n 0, 1, [], []), (5, .getfield 24, 3, [8, 1, 3, 361], []), (8, .iload_n 1, 1, [], []), (9, .invokevirtual 240, 3, [0, 1, 1, 6, 0, 1608], [m_X8_whyNotFormat]), (12, .ireturn, 1, [1], [])]]
theorem k_X11_whyNotCommit : CdOk m_X11_whyNotCommit c_X11_whyNotCommit := ⟨by decide +kernel, allM_of ⟨o_X11_needFormat, ⟨o_X8_whyNotFormat, trivial⟩⟩⟩
def c_X8_lowestWayBack : Cd := [
  [(0, .aload_n 0, 1, [], []), (1, .getfield 31, 3, [6, 0, 3, 225], []), (4, .getfield 89, 3, [3, 8, 3, 131], []), (7, .getfield 93, 3, [4, 1, 0, 102], []), (10, .ifCond .ne 5, 3, [15], []), (13, .iconst (-1), 1, [], []), (14, .ireturn, 1, [1], []), (15, .aload_n 0, 1, [], [])],
  [(16, .aload_n 0, 1, [], []), (17, .getfield 31, 3, [6, 0, 3, 225], []), (20, .invokevirtual 178, 3, [0, 0, 1, 3, 0, 1745], [m_X5_everyMember]), (23, .invokevirtual 182, 3, [0, 1, 1, 6, 0, 1462], [m_X8_lowestComing]), (26, .istore_n 1, 1, [], []), (27, .iload_n 1, 1, [], []), (28, .ifCond .le 43, 3, [71], []), (31, .aload_n 0, 1, [], [])],
  [(32, .getfield 31, 3, [6, 0, 3, 225], []), (35, .iload_n 1, 1, [], []), (36, .iconst 1, 1, [], []), (37, .isub, 1, [], []), (38, .aload_n 0, 1, [], []), (39, .getfield 42, 3, [6, 2, 0, 228], []), (42, .invokevirtual 104, 3, [0, 2, 1, 3, 0, 567], [m_X5_isReader]), (45, .ifCond .eq 26, 3, [71], [])],
  [(48, .aload_n 0, 1, [], []), (49, .getfield 31, 3, [6, 0, 3, 225], []), (52, .iload_n 1, 1, [], []), (53, .invokevirtual 100, 3, [0, 1, 1, 3, 0, 566], [m_X5_talkersOf]), (56, .iload_n 1, 1, [], []), (57, .iconst 1, 1, [], []), (58, .isub, 1, [], []), (59, .invokestatic 119, 3, [2, 2, 1, 0, 0, 0], [m_X11_isIn]), (62, .ifCond .eq 9, 3, [71], [])],
  [(65, .iinc 1 (-1), 3, [], []), (68, .goto (-41), 3, [27], []), (71, .iload_n 1, 1, [], []), (72, .ireturn, 1, [1], [])]]
theorem k_X8_lowestWayBack : CdOk m_X8_lowestWayBack c_X8_lowestWayBack := ⟨by decide +kernel, allM_of ⟨o_X5_everyMember, ⟨o_X8_lowestComing, ⟨o_X5_isReader, ⟨o_X5_talkersOf, ⟨o_X11_isIn, trivial⟩⟩⟩⟩⟩⟩
def c_X11_wayBack : Cd := [
  [(0, .aload_n 0, 1, [], []), (1, .getfield 24, 3, [8, 1, 3, 361], []), (4, .invokevirtual 247, 3, [0, 0, 1, 6, 0, 1741], [m_X8_lowestWayBack]), (7, .ireturn, 1, [1], [])]]
theorem k_X11_wayBack : CdOk m_X11_wayBack c_X11_wayBack := ⟨by decide +kernel, allM_of ⟨o_X8_lowestWayBack, trivial⟩⟩
def c_X11_needAhead : Cd := [
  [(0, .iload_n 0, 1, [], []), (1, .ifCond .lt 10, 3, [11], []), (4, .iload_n 0, 1, [], []), (5, .sipush 2000, 3, [], []), (8, .if_icmp .le 11, 3, [19], []), (11, .new 86, 3, [1, 88, 621, 662], [])],
  [(19, .return_, 1, [], [])]]
theorem k_X11_needAhead : CdOk m_X11_needAhead c_X11_needAhead := ⟨by decide +kernel, allM_of trivial⟩
def c_X8_isActive : Cd := [
  [(0, .aload_n 0, 1, [], []), (1, .getfield 51, 3, [6, 9, 0, 240], []), (4, .iconst 1, 1, [], []), (5, .if_icmp .eq 11, 3, [16], []), (8, .aload_n 0, 1, [], []), (9, .getfield 51, 3, [6, 9, 0, 240], []), (12, .iconst 2, 1, [], []), (13, .if_icmp .ne 7, 3, [20], [])],
  [(16, .iconst 1, 1, [], []), (17, .goto 4, 3, [21], []), (20, .iconst 0, 1, [], []), (21, .ireturn, 1, [6], [])]]
theorem k_X8_isActive : CdOk m_X8_isActive c_X8_isActive := ⟨by decide +kernel, allM_of trivial⟩
def c_X3_add : Cd := [
  [(0, .aload_n 0, 1, [], []), (1, .aload_n 0, 1, [], []), (2, .getfield 19, 3, [1, 2, 0, 211], []), (5, .iconst 1, 1, [], []), (6, .iadd, 1, [], []), (7, .bipush 30, 2, [], []), (9, .irem, 1, [], []), (10, .putfield 19, 3, [1, 2, 0, 211], []), (13, .aload_n 0, 1, [], []), (14, .getfield 19, 3, [1, 2, 0, 211], [])],
  [(17, .iconst 4, 1, [], []), (18, .imul, 1, [], []), (19, .istore 5, 2, [], []), (21, .aload_n 0, 1, [], []), (22, .getfield 11, 3, [1, 0, 3, 207], []), (25, .iload 5, 2, [], []), (27, .iload_n 1, 1, [], []), (28, .iastore, 1, [], []), (29, .aload_n 0, 1, [], []), (30, .getfield 11, 3, [1, 0, 3, 207], [])],
  [(33, .iload 5, 2, [], []), (35, .iconst 1, 1, [], []), (36, .iadd, 1, [], []), (37, .iload_n 2, 1, [], []), (38, .iastore, 1, [], []), (39, .aload_n 0, 1, [], []), (40, .getfield 11, 3, [1, 0, 3, 207], []), (43, .iload 5, 2, [], []), (45, .iconst 2, 1, [], []), (46, .iadd, 1, [], []), (47, .iload_n 3, 1, [], [])],
  [(48, .iastore, 1, [], []), (49, .aload_n 0, 1, [], []), (50, .getfield 11, 3, [1, 0, 3, 207], []), (53, .iload 5, 2, [], []), (55, .iconst 3, 1, [], []), (56, .iadd, 1, [], []), (57, .iload 4, 2, [], []), (59, .iastore, 1, [], []), (60, .aload_n 0, 1, [], []), (61, .aload_n 0, 1, [], []), (62, .getfield 15, 3, [1, 1, 0, 208], [])],
  [(65, .iconst 1, 1, [], []), (66, .iadd, 1, [], []), (67, .bipush 30, 2, [], []), (69, .invokestatic 26, 3, [10, 1476], []), (72, .putfield 15, 3, [1, 1, 0, 208], []), (75, .return_, 1, [], [])]]
theorem k_X3_add : CdOk m_X3_add c_X3_add := ⟨by decide +kernel, allM_of trivial⟩
def c_X8_endChanges : Cd := [
  [(0, .iconst 0, 1, [], []), (1, .istore_n 1, 1, [], []), (2, .iload_n 1, 1, [], []), (3, .aload_n 0, 1, [], []), (4, .getfield 31, 3, [6, 0, 3, 225], []), (7, .getfield 89, 3, [3, 8, 3, 131], []), (10, .getfield 93, 3, [4, 1, 0, 102], []), (13, .if_icmp .ge 81, 3, [94], [])],
  [(16, .aload_n 0, 1, [], []), (17, .getfield 18, 3, [6, 5, 3, 234], []), (20, .iload_n 1, 1, [], []), (21, .iaload, 1, [], []), (22, .aload_n 0, 1, [], []), (23, .getfield 38, 3, [6, 1, 0, 226], []), (26, .if_icmp .ne 62, 3, [88], []), (29, .aload_n 0, 1, [], []), (30, .getfield 18, 3, [6, 5, 3, 234], [])],
  [(33, .iload_n 1, 1, [], []), (34, .iconst (-1), 1, [], []), (35, .iastore, 1, [], []), (36, .aload_n 0, 1, [], []), (37, .dup, 1, [], []), (38, .getfield 45, 3, [6, 7, 0, 236], []), (41, .iconst 1, 1, [], []), (42, .iload_n 1, 1, [], []), (43, .ishl, 1, [], []), (44, .iconst (-1), 1, [], []), (45, .ixor, 1, [], []), (46, .iand, 1, [], []), (47, .putfield 45, 3, [6, 7, 0, 236], [])],
  [(50, .aload_n 0, 1, [], []), (51, .getfield 9, 3, [6, 3, 3, 231], []), (54, .iload_n 1, 1, [], []), (55, .aload_n 0, 1, [], []), (56, .getfield 15, 3, [6, 4, 3, 233], []), (59, .iload_n 1, 1, [], []), (60, .iaload, 1, [], []), (61, .iastore, 1, [], []), (62, .aload_n 0, 1, [], []), (63, .getfield 21, 3, [6, 6, 3, 235], [])],
  [(66, .iload_n 1, 1, [], []), (67, .iconst 0, 1, [], []), (68, .iastore, 1, [], []), (69, .aload_n 0, 1, [], []), (70, .getfield 27, 3, [6, 15, 3, 247], []), (73, .aload_n 0, 1, [], []), (74, .getfield 38, 3, [6, 1, 0, 226], []), (77, .iconst 1, 1, [], []), (78, .iload_n 1, 1, [], []), (79, .aload_n 0, 1, [], [])],
  [(80, .getfield 9, 3, [6, 3, 3, 231], []), (83, .iload_n 1, 1, [], []), (84, .iaload, 1, [], []), (85, .invokevirtual 171, 3, [0, 4, 0, 1, 0, 1472], [m_X3_add]), (88, .iinc 1 1, 3, [], []), (91, .goto (-89), 3, [2], []), (94, .return_, 1, [], [])]]
theorem k_X8_endChanges : CdOk m_X8_endChanges c_X8_endChanges := ⟨by decide +kernel, allM_of ⟨o_X3_add, trivial⟩⟩
def c_X5_plannedMembers : Cd := [
  [(0, .iconst 0, 1, [], []), (1, .istore_n 1, 1, [], []), (2, .iconst 0, 1, [], []), (3, .istore_n 2, 1, [], []), (4, .iload_n 2, 1, [], []), (5, .aload_n 0, 1, [], []), (6, .getfield 61, 3, [3, 12, 0, 141], []), (9, .if_icmp .ge 18, 3, [27], []), (12, .iload_n 1, 1, [], []), (13, .aload_n 0, 1, [], []), (14, .getfield 39, 3, [3, 7, 3, 126], [])],
  [(17, .iload_n 2, 1, [], []), (18, .iaload, 1, [], []), (19, .ior, 1, [], []), (20, .istore_n 1, 1, [], []), (21, .iinc 2 1, 3, [], []), (24, .goto (-20), 3, [4], []), (27, .iload_n 1, 1, [], []), (28, .ireturn, 1, [1], [])]]
theorem k_X5_plannedMembers : CdOk m_X5_plannedMembers c_X5_plannedMembers := ⟨by decide +kernel, allM_of trivial⟩
def c_X8_reachedOf : Cd := [
  [(0, .iload_n 1, 1, [], []), (1, .aload_n 0, 1, [], []), (2, .getfield 45, 3, [6, 7, 0, 236], []), (5, .iconst (-1), 1, [], []), (6, .ixor, 1, [], []), (7, .iand, 1, [], []), (8, .istore_n 2, 1, [], []), (9, .iconst 0, 1, [], []), (10, .istore_n 3, 1, [], []), (11, .iload_n 3, 1, [], []), (12, .aload_n 0, 1, [], []), (13, .getfield 31, 3, [6, 0, 3, 225], [])],
  [(16, .getfield 89, 3, [3, 8, 3, 131], []), (19, .getfield 93, 3, [4, 1, 0, 102], []), (22, .if_icmp .ge 53, 3, [75], []), (25, .aload_n 0, 1, [], []), (26, .getfield 60, 3, [6, 12, 1, 244], []), (29, .ifCond .eq 19, 3, [48], [])],
  [(32, .aload_n 0, 1, [], []), (33, .getfield 9, 3, [6, 3, 3, 231], []), (36, .iload_n 3, 1, [], []), (37, .iaload, 1, [], []), (38, .aload_n 0, 1, [], []), (39, .getfield 57, 3, [6, 11, 0, 243], []), (42, .if_icmp .ge 27, 3, [69], []), (45, .goto 16, 3, [61], [])],
  [(48, .aload_n 0, 1, [], []), (49, .getfield 9, 3, [6, 3, 3, 231], []), (52, .iload_n 3, 1, [], []), (53, .iaload, 1, [], []), (54, .aload_n 0, 1, [], []), (55, .getfield 57, 3, [6, 11, 0, 243], []), (58, .if_icmp .le 11, 3, [69], []), (61, .iload_n 2, 1, [], []), (62, .iconst 1, 1, [], []), (63, .iload_n 3, 1, [], [])],
  [(64, .ishl, 1, [], []), (65, .iconst (-1), 1, [], []), (66, .ixor, 1, [], []), (67, .iand, 1, [], []), (68, .istore_n 2, 1, [], []), (69, .iinc 3 1, 3, [], []), (72, .goto (-61), 3, [11], []), (75, .iload_n 2, 1, [], []), (76, .ireturn, 1, [1], [])]]
theorem k_X8_reachedOf : CdOk m_X8_reachedOf c_X8_reachedOf := ⟨by decide +kernel, allM_of trivial⟩
def c_X8_measuredSet : Cd := [
  [(0, .aload_n 0, 1, [], []), (1, .aload_n 0, 1, [], []), (2, .getfield 31, 3, [6, 0, 3, 225], []), (5, .invokevirtual 195, 3, [0, 0, 1, 3, 0, 1458], [m_X5_plannedMembers]), (8, .invokevirtual 204, 3, [0, 1, 1, 6, 0, 1678], [m_X8_reachedOf]), (11, .ireturn, 1, [1], [])]]
theorem k_X8_measuredSet : CdOk m_X8_measuredSet c_X8_measuredSet := ⟨by decide +kernel, allM_of ⟨o_X5_plannedMembers, ⟨o_X8_reachedOf, trivial⟩⟩⟩
def c_X8_sumOfMeasures : Cd := [
  [(0, .iconst 0, 1, [], []), (1, .istore_n 2, 1, [], []), (2, .iconst 0, 1, [], []), (3, .istore_n 3, 1, [], []), (4, .iload_n 3, 1, [], []), (5, .aload_n 0, 1, [], []), (6, .getfield 31, 3, [6, 0, 3, 225], []), (9, .getfield 89, 3, [3, 8, 3, 131], []), (12, .getfield 93, 3, [4, 1, 0, 102], []), (15, .if_icmp .ge 30, 3, [45], [])],
  [(18, .iload_n 2, 1, [], []), (19, .iload_n 1, 1, [], []), (20, .iload_n 3, 1, [], []), (21, .invokestatic 119, 3, [2, 2, 1, 0, 0, 0], [m_X11_isIn]), (24, .ifCond .eq 12, 3, [36], []), (27, .aload_n 0, 1, [], []), (28, .getfield 21, 3, [6, 6, 3, 235], []), (31, .iload_n 3, 1, [], [])],
  [(32, .iaload, 1, [], []), (33, .goto 4, 3, [37], []), (36, .iconst 0, 1, [], []), (37, .iadd, 1, [], []), (38, .istore_n 2, 1, [], []), (39, .iinc 3 1, 3, [], []), (42, .goto (-38), 3, [4], []), (45, .iload_n 2, 1, [], []), (46, .ireturn, 1, [1], [])]]
theorem k_X8_sumOfMeasures : CdOk m_X8_sumOfMeasures c_X8_sumOfMeasures := ⟨by decide +kernel, allM_of ⟨o_X11_isIn, trivial⟩⟩
def c_X8_isOverLimit : Cd := [
  [(0, .aload_n 0, 1, [], []), (1, .invokevirtual 231, 3, [0, 0, 1, 6, 0, 1674], [m_X8_measuredSet]), (4, .istore_n 1, 1, [], []), (5, .aload_n 0, 1, [], []), (6, .iload_n 1, 1, [], []), (7, .invokevirtual 234, 3, [0, 1, 1, 6, 0, 1682], [m_X8_sumOfMeasures]), (10, .aload_n 0, 1, [], []), (11, .getfield 31, 3, [6, 0, 3, 225], []), (14, .getfield 237, 3, [3, 17, 0, 158], [])],
  [(17, .iload_n 1, 1, [], []), (18, .invokestatic 151, 3, [1, 1, 1, 0, 0, 1533], [m_J6_bitCount_0f7a4]), (21, .imul, 1, [], []), (22, .if_icmp .le 7, 3, [29], []), (25, .iconst 1, 1, [], []), (26, .goto 4, 3, [30], []), (29, .iconst 0, 1, [], []), (30, .ireturn, 1, [6], [])]]
theorem k_X8_isOverLimit : CdOk m_X8_isOverLimit c_X8_isOverLimit := ⟨by decide +kernel, allM_of ⟨o_X8_measuredSet, ⟨o_X8_sumOfMeasures, ⟨o_J6_bitCount_0f7a4, trivial⟩⟩⟩⟩
def c_X8_stopPlan : Cd := [
  [(0, .aload_n 0, 1, [], []), (1, .iconst 3, 1, [], []), (2, .putfield 51, 3, [6, 9, 0, 240], []), (5, .aload_n 0, 1, [], []), (6, .getfield 27, 3, [6, 15, 3, 247], []), (9, .aload_n 0, 1, [], []), (10, .getfield 38, 3, [6, 1, 0, 226], []), (13, .iconst 4, 1, [], []), (14, .iconst (-1), 1, [], []), (15, .aload_n 0, 1, [], [])],
  [(16, .getfield 64, 3, [6, 13, 0, 245], []), (19, .invokevirtual 171, 3, [0, 4, 0, 1, 0, 1472], [m_X3_add]), (22, .aload_n 0, 1, [], []), (23, .getfield 64, 3, [6, 13, 0, 245], []), (26, .ireturn, 1, [1], [])]]
theorem k_X8_stopPlan : CdOk m_X8_stopPlan c_X8_stopPlan := ⟨by decide +kernel, allM_of ⟨o_X3_add, trivial⟩⟩
end
section
/-! ===== tables of the methods' code, 4 ===== -/
def m_X8_finishPlan : MI := (yX8_finishPlan, cX8_finishPlan, 1, none, 2, 85, 0, [], 0)
def m_X8_leaveWave : MI := (yX8_leaveWave, cX8_leaveWave, 2, none, 3, 105, 0, [], 0)
def m_X8_laggards : MI := (yX8_laggards, cX8_laggards, 2, some .int, 1, 23, 0, [], 0)
def m_X8_beginChange : MI := (yX8_beginChange, cX8_beginChange, 3, some .int, 2, 85, 0, [], 0)
def m_X8_beginChanges : MI := (yX8_beginChanges, cX8_beginChanges, 4, some .int, 3, 107, 0, [], 0)
def m_X8_soakIfComplete : MI := (yX8_soakIfComplete, cX8_soakIfComplete, 1, none, 2, 85, 0, [], 0)
def m_X8_passMinute : MI := (yX8_passMinute, cX8_passMinute, 2, some .int, 4, 130, 0, [], 0)
def m_X8_isStuck : MI := (yX8_isStuck, cX8_isStuck, 2, some .boolean, 0, 0, 0, [], 0)
def m_X8_minutesToDone : MI := (yX8_minutesToDone, cX8_minutesToDone, 4, some .int, 5, 151, 0, [], 0)
def m_X11_minutesToEnd : MI := (yX11_minutesToEnd, cX11_minutesToEnd, 2, some .int, 7, 174, 1, [], 0)
def m_X11_events : MI := (yX11_events, cX11_events, 1, some .int, 0, 0, 0, [], 0)
def m_X3_cellOf : MI := (yX3_cellOf, cX3_cellOf, 4, some .int, 1, 60, 0, [], 0)
def m_X11_event : MI := (yX11_event, cX11_event, 3, some .int, 6, 89, 1, [], 0)
def m_X8_canPass : MI := (yX8_canPass, cX8_canPass, 2, some .boolean, 0, 0, 0, [], 0)
def m_X4_keep : MI := (yX4_keep, cX4_keep, 3, none, 4, 123, 0, [], 0)
def m_X8_passMinutes : MI := (yX8_passMinutes, cX8_passMinutes, 3, some .int, 5, 151, 0, [], 0)
def m_X11_pass : MI := (yX11_pass, cX11_pass, 2, some .int, 6, 173, 1, [], 0)
def m_X8_canStart : MI := (yX8_canStart, cX8_canStart, 1, some .boolean, 1, 20, 0, [], 0)
def m_X8_startPlan : MI := (yX8_startPlan, cX8_startPlan, 5, some .int, 3, 105, 0, [], 0)
def m_X11_start : MI := (yX11_start, cX11_start, 2, some .int, 7, 145, 2, [], 0)
def m_X11_stop : MI := (yX11_stop, cX11_stop, 1, some .int, 6, 145, 1, [], 0)
def m_X8_resumePlan : MI := (yX8_resumePlan, cX8_resumePlan, 1, some .int, 2, 85, 0, [], 0)
def m_X11_go : MI := (yX11_go, cX11_go, 1, some .int, 6, 145, 1, [], 0)
def m_X8_setHeld : MI := (yX8_setHeld, cX8_setHeld, 3, some .int, 2, 85, 0, [], 0)
def m_X11_hold : MI := (yX11_hold, cX11_hold, 3, some .int, 7, 145, 2, [], 0)
def m_X11_needMeasure : MI := (yX11_needMeasure, cX11_needMeasure, 1, none, 6, 89, 1, [], 1)
def m_X8_setMeasure : MI := (yX8_setMeasure, cX8_setMeasure, 4, some .int, 0, 0, 0, [], 0)
def m_X11_report : MI := (yX11_report, cX11_report, 3, some .int, 7, 145, 3, [], 0)
def m_X11_change : MI := (yX11_change, cX11_change, 3, some .int, 7, 145, 3, [], 0)
def m_X8_setFormat : MI := (yX8_setFormat, cX8_setFormat, 3, some .int, 2, 85, 0, [], 0)
def m_X11_commit : MI := (yX11_commit, cX11_commit, 2, some .int, 7, 145, 2, [], 0)
def m_X4_takeBack : MI := (yX4_takeBack, cX4_takeBack, 3, none, 4, 123, 0, [], 0)
def m_X11_undo : MI := (yX11_undo, cX11_undo, 1, some .int, 5, 145, 0, [], 0)
theorem o_X8_finishPlan : MOK m_X8_finishPlan := MOKi (tbG_at (p := 1480) (by decide +kernel)) (tbG_at (p := 22) (by decide +kernel)) (by decide +kernel) rfl rfl (tbG_at (p := 1479) (by decide +kernel)) (tbG_atS (p := 25) (by decide +kernel))
theorem o_X8_leaveWave : MOK m_X8_leaveWave := MOKi (tbG_at (p := 1690) (by decide +kernel)) (tbG_at (p := 22) (by decide +kernel)) (by decide +kernel) rfl rfl (tbG_at (p := 1689) (by decide +kernel)) (tbG_atS (p := 30) (by decide +kernel))
theorem o_X8_laggards : MOK m_X8_laggards := MOKi (tbG_at (p := 1698) (by decide +kernel)) (tbG_at (p := 22) (by decide +kernel)) (by decide +kernel) rfl rfl (tbG_at (p := 1696) (by decide +kernel)) (tbG_at (p := 1697) (by decide +kernel))
theorem o_X8_beginChange : MOK m_X8_beginChange := MOKi (tbG_at (p := 1596) (by decide +kernel)) (tbG_at (p := 22) (by decide +kernel)) (by decide +kernel) rfl rfl (tbG_at (p := 1594) (by decide +kernel)) (tbG_at (p := 1595) (by decide +kernel))
theorem o_X8_beginChanges : MOK m_X8_beginChanges := MOKi (tbG_at (p := 1694) (by decide +kernel)) (tbG_at (p := 22) (by decide +kernel)) (by decide +kernel) rfl rfl (tbG_at (p := 1693) (by decide +kernel)) (tbG_atS (p := 31) (by decide +kernel))
theorem o_X8_soakIfComplete : MOK m_X8_soakIfComplete := MOKi (tbG_at (p := 1704) (by decide +kernel)) (tbG_at (p := 22) (by decide +kernel)) (by decide +kernel) rfl rfl (tbG_at (p := 1703) (by decide +kernel)) (tbG_atS (p := 32) (by decide +kernel))
theorem o_X8_passMinute : MOK m_X8_passMinute := MOKi (tbG_at (p := 1665) (by decide +kernel)) (tbG_at (p := 22) (by decide +kernel)) (by decide +kernel) rfl rfl (tbG_at (p := 1663) (by decide +kernel)) (tbG_at (p := 1664) (by decide +kernel))
theorem o_X8_isStuck : MOK m_X8_isStuck := MOKi (tbG_at (p := 1791) (by decide +kernel)) (tbG_at (p := 22) (by decide +kernel)) (by decide +kernel) rfl rfl (tbG_at (p := 1790) (by decide +kernel)) (tbG_atS (p := 33) (by decide +kernel))
theorem o_X8_minutesToDone : MOK m_X8_minutesToDone := MOKi (tbG_at (p := 1787) (by decide +kernel)) (tbG_at (p := 22) (by decide +kernel)) (by decide +kernel) rfl rfl (tbG_at (p := 1785) (by decide +kernel)) (tbG_at (p := 1786) (by decide +kernel))
theorem o_X11_minutesToEnd : MOK m_X11_minutesToEnd := MOKi (tbG_at (p := 1779) (by decide +kernel)) (tbG_at (p := 20) (by decide +kernel)) (by decide +kernel) rfl rfl (tbG_at (p := 1777) (by decide +kernel)) (tbG_at (p := 1778) (by decide +kernel))
theorem o_X11_events : MOK m_X11_events := MOKi (tbG_at (p := 1422) (by decide +kernel)) (tbG_at (p := 20) (by decide +kernel)) (by decide +kernel) rfl rfl (tbG_at (p := 1420) (by decide +kernel)) (tbG_at (p := 1421) (by decide +kernel))
theorem o_X3_cellOf : MOK m_X3_cellOf := MOKi (tbG_at (p := 1760) (by decide +kernel)) (tbG_at (p := 25) (by decide +kernel)) (by decide +kernel) rfl rfl (tbG_at (p := 1758) (by decide +kernel)) (tbG_at (p := 1759) (by decide +kernel))
theorem o_X11_event : MOK m_X11_event := MOKi (tbG_at (p := 1756) (by decide +kernel)) (tbG_at (p := 20) (by decide +kernel)) (by decide +kernel) rfl rfl (tbG_at (p := 1754) (by decide +kernel)) (tbG_at (p := 1755) (by decide +kernel))
theorem o_X8_canPass : MOK m_X8_canPass := MOKi (tbG_at (p := 1657) (by decide +kernel)) (tbG_at (p := 22) (by decide +kernel)) (by decide +kernel) rfl rfl (tbG_at (p := 1655) (by decide +kernel)) (tbG_at (p := 1656) (by decide +kernel))
theorem o_X4_keep : MOK m_X4_keep := MOKi (tbG_at (p := 1451) (by decide +kernel)) (tbG_at (p := 26) (by decide +kernel)) (by decide +kernel) rfl rfl (tbG_at (p := 1449) (by decide +kernel)) (tbG_at (p := 1450) (by decide +kernel))
theorem o_X8_passMinutes : MOK m_X8_passMinutes := MOKi (tbG_at (p := 1661) (by decide +kernel)) (tbG_at (p := 22) (by decide +kernel)) (by decide +kernel) rfl rfl (tbG_at (p := 1659) (by decide +kernel)) (tbG_at (p := 1660) (by decide +kernel))
theorem o_X11_pass : MOK m_X11_pass := MOKi (tbG_at (p := 1653) (by decide +kernel)) (tbG_at (p := 20) (by decide +kernel)) (by decide +kernel) rfl rfl (tbG_at (p := 1651) (by decide +kernel)) (tbG_at (p := 1652) (by decide +kernel))
theorem o_X8_canStart : MOK m_X8_canStart := MOKi (tbG_at (p := 1443) (by decide +kernel)) (tbG_at (p := 22) (by decide +kernel)) (by decide +kernel) rfl rfl (tbG_at (p := 1441) (by decide +kernel)) (tbG_at (p := 1442) (by decide +kernel))
theorem o_X8_startPlan : MOK m_X8_startPlan := MOKi (tbG_at (p := 1457) (by decide +kernel)) (tbG_at (p := 22) (by decide +kernel)) (by decide +kernel) rfl rfl (tbG_at (p := 1455) (by decide +kernel)) (tbG_at (p := 1456) (by decide +kernel))
theorem o_X11_start : MOK m_X11_start := MOKi (tbG_at (p := 1435) (by decide +kernel)) (tbG_at (p := 20) (by decide +kernel)) (by decide +kernel) rfl rfl (tbG_at (p := 1433) (by decide +kernel)) (tbG_at (p := 1434) (by decide +kernel))
theorem o_X11_stop : MOK m_X11_stop := MOKi (tbG_at (p := 1506) (by decide +kernel)) (tbG_at (p := 20) (by decide +kernel)) (by decide +kernel) rfl rfl (tbG_at (p := 1504) (by decide +kernel)) (tbG_at (p := 1505) (by decide +kernel))
theorem o_X8_resumePlan : MOK m_X8_resumePlan := MOKi (tbG_at (p := 1519) (by decide +kernel)) (tbG_at (p := 22) (by decide +kernel)) (by decide +kernel) rfl rfl (tbG_at (p := 1517) (by decide +kernel)) (tbG_at (p := 1518) (by decide +kernel))
theorem o_X11_go : MOK m_X11_go := MOKi (tbG_at (p := 1515) (by decide +kernel)) (tbG_at (p := 20) (by decide +kernel)) (by decide +kernel) rfl rfl (tbG_at (p := 1513) (by decide +kernel)) (tbG_at (p := 1514) (by decide +kernel))
theorem o_X8_setHeld : MOK m_X8_setHeld := MOKi (tbG_at (p := 1532) (by decide +kernel)) (tbG_at (p := 22) (by decide +kernel)) (by decide +kernel) rfl rfl (tbG_at (p := 1530) (by decide +kernel)) (tbG_at (p := 1531) (by decide +kernel))
theorem o_X11_hold : MOK m_X11_hold := MOKi (tbG_at (p := 1527) (by decide +kernel)) (tbG_at (p := 20) (by decide +kernel)) (by decide +kernel) rfl rfl (tbG_at (p := 1525) (by decide +kernel)) (tbG_at (p := 1526) (by decide +kernel))
theorem o_X11_needMeasure : MOK m_X11_needMeasure := MOKs (tbG_at (p := 1550) (by decide +kernel)) (tbG_at (p := 20) (by decide +kernel)) (by decide +kernel) rfl rfl (tbG_at (p := 1549) (by decide +kernel))
theorem o_X8_setMeasure : MOK m_X8_setMeasure := MOKi (tbG_at (p := 1555) (by decide +kernel)) (tbG_at (p := 22) (by decide +kernel)) (by decide +kernel) rfl rfl (tbG_at (p := 1553) (by decide +kernel)) (tbG_at (p := 1554) (by decide +kernel))
theorem o_X11_report : MOK m_X11_report := MOKi (tbG_at (p := 1547) (by decide +kernel)) (tbG_at (p := 20) (by decide +kernel)) (by decide +kernel) rfl rfl (tbG_at (p := 1545) (by decide +kernel)) (tbG_at (p := 1546) (by decide +kernel))
theorem o_X11_change : MOK m_X11_change := MOKi (tbG_at (p := 1592) (by decide +kernel)) (tbG_at (p := 20) (by decide +kernel)) (by decide +kernel) rfl rfl (tbG_at (p := 1590) (by decide +kernel)) (tbG_at (p := 1591) (by decide +kernel))
theorem o_X8_setFormat : MOK m_X8_setFormat := MOKi (tbG_at (p := 1628) (by decide +kernel)) (tbG_at (p := 22) (by decide +kernel)) (by decide +kernel) rfl rfl (tbG_at (p := 1626) (by decide +kernel)) (tbG_at (p := 1627) (by decide +kernel))
theorem o_X11_commit : MOK m_X11_commit := MOKi (tbG_at (p := 1624) (by decide +kernel)) (tbG_at (p := 20) (by decide +kernel)) (by decide +kernel) rfl rfl (tbG_at (p := 1622) (by decide +kernel)) (tbG_at (p := 1623) (by decide +kernel))
theorem o_X4_takeBack : MOK m_X4_takeBack := MOKi (tbG_at (p := 1771) (by decide +kernel)) (tbG_at (p := 26) (by decide +kernel)) (by decide +kernel) rfl rfl (tbG_at (p := 1769) (by decide +kernel)) (tbG_at (p := 1770) (by decide +kernel))
theorem o_X11_undo : MOK m_X11_undo := MOKi (tbG_at (p := 1767) (by decide +kernel)) (tbG_at (p := 20) (by decide +kernel)) (by decide +kernel) rfl rfl (tbG_at (p := 1765) (by decide +kernel)) (tbG_at (p := 1766) (by decide +kernel))
def c_X8_finishPlan : Cd := [
  [(0, .aload_n 0, 1, [], []), (1, .iconst 4, 1, [], []), (2, .putfield 51, 3, [6, 9, 0, 240], []), (5, .aload_n 0, 1, [], []), (6, .iconst (-1), 1, [], []), (7, .putfield 67, 3, [6, 14, 0, 246], []), (10, .aload_n 0, 1, [], []), (11, .getfield 27, 3, [6, 15, 3, 247], []), (14, .aload_n 0, 1, [], []), (15, .getfield 38, 3, [6, 1, 0, 226], [])],
  [(18, .bipush 6, 2, [], []), (20, .iconst (-1), 1, [], []), (21, .aload_n 0, 1, [], []), (22, .getfield 54, 3, [6, 10, 0, 242], []), (25, .invokevirtual 171, 3, [0, 4, 0, 1, 0, 1472], [m_X3_add]), (28, .return_, 1, [], [])]]
theorem k_X8_finishPlan : CdOk m_X8_finishPlan c_X8_finishPlan := ⟨by decide +kernel, allM_of ⟨o_X3_add, trivial⟩⟩
def c_X8_leaveWave : Cd := [
  [(0, .aload_n 0, 1, [], []), (1, .getfield 64, 3, [6, 13, 0, 245], []), (4, .iconst 1, 1, [], []), (5, .iadd, 1, [], []), (6, .aload_n 0, 1, [], []), (7, .getfield 31, 3, [6, 0, 3, 225], []), (10, .getfield 189, 3, [3, 12, 0, 143], []), (13, .if_icmp .lt 7, 3, [20], [])],
  [(16, .iconst 1, 1, [], []), (17, .goto 4, 3, [21], []), (20, .iconst 0, 1, [], []), (21, .istore_n 1, 1, [], []), (22, .iload_n 1, 1, [], []), (23, .ifCond .eq 19, 3, [42], []), (26, .aload_n 0, 1, [], []), (27, .getfield 57, 3, [6, 11, 0, 243], []), (30, .aload_n 0, 1, [], []), (31, .getfield 54, 3, [6, 10, 0, 242], [])],
  [(34, .if_icmp .ne 8, 3, [42], []), (37, .aload_n 0, 1, [], []), (38, .invokevirtual 201, 3, [0, 0, 0, 6, 0, 1477], [m_X8_finishPlan]), (41, .return_, 1, [], []), (42, .iload_n 1, 1, [], []), (43, .ifCond .eq 24, 3, [67], []), (46, .aload_n 0, 1, [], []), (47, .dup, 1, [], [])],
  [(48, .getfield 57, 3, [6, 11, 0, 243], []), (51, .aload_n 0, 1, [], []), (52, .getfield 60, 3, [6, 12, 1, 244], []), (55, .ifCond .eq 7, 3, [62], []), (58, .iconst 1, 1, [], []), (59, .goto 4, 3, [63], []), (62, .iconst (-1), 1, [], []), (63, .iadd, 1, [], [])],
  [(64, .putfield 57, 3, [6, 11, 0, 243], []), (67, .aload_n 0, 1, [], []), (68, .iload_n 1, 1, [], []), (69, .ifCond .eq 7, 3, [76], []), (72, .iconst 0, 1, [], []), (73, .goto 9, 3, [82], []), (76, .aload_n 0, 1, [], []), (77, .getfield 64, 3, [6, 13, 0, 245], [])],
  [(80, .iconst 1, 1, [], []), (81, .iadd, 1, [], []), (82, .putfield 64, 3, [6, 13, 0, 245], []), (85, .aload_n 0, 1, [], []), (86, .iconst (-1), 1, [], []), (87, .putfield 67, 3, [6, 14, 0, 246], []), (90, .aload_n 0, 1, [], []), (91, .iconst 1, 1, [], []), (92, .putfield 51, 3, [6, 9, 0, 240], []), (95, .return_, 1, [], [])]]
theorem k_X8_leaveWave : CdOk m_X8_leaveWave c_X8_leaveWave := ⟨by decide +kernel, allM_of ⟨o_X8_finishPlan, trivial⟩⟩
def c_X8_laggards : Cd := [
  [(0, .aload_n 0, 1, [], []), (1, .invokevirtual 185, 3, [0, 0, 1, 6, 0, 1367], [m_X8_isUnderWay]), (4, .ifCond .eq 24, 3, [28], []), (7, .aload_n 0, 1, [], []), (8, .getfield 64, 3, [6, 13, 0, 245], []), (11, .ifCond .lt 17, 3, [28], []), (14, .aload_n 0, 1, [], []), (15, .getfield 64, 3, [6, 13, 0, 245], [])],
  [(18, .aload_n 0, 1, [], []), (19, .getfield 31, 3, [6, 0, 3, 225], []), (22, .getfield 189, 3, [3, 12, 0, 143], []), (25, .if_icmp .lt 5, 3, [30], []), (28, .iconst 0, 1, [], []), (29, .ireturn, 1, [1], []), (30, .aload_n 0, 1, [], []), (31, .getfield 31, 3, [6, 0, 3, 225], [])],
  [(34, .getfield 207, 3, [3, 7, 3, 127], []), (37, .aload_n 0, 1, [], []), (38, .getfield 64, 3, [6, 13, 0, 245], []), (41, .iaload, 1, [], []), (42, .istore_n 1, 1, [], []), (43, .iload_n 1, 1, [], []), (44, .aload_n 0, 1, [], []), (45, .iload_n 1, 1, [], []), (46, .invokevirtual 204, 3, [0, 1, 1, 6, 0, 1678], [m_X8_reachedOf])],
  [(49, .iconst (-1), 1, [], []), (50, .ixor, 1, [], []), (51, .iand, 1, [], []), (52, .ireturn, 1, [1], [])]]
theorem k_X8_laggards : CdOk m_X8_laggards c_X8_laggards := ⟨by decide +kernel, allM_of ⟨o_X8_isUnderWay, ⟨o_X8_reachedOf, trivial⟩⟩⟩
def c_X8_beginChange : Cd := [
  [(0, .aload_n 0, 1, [], []), (1, .getfield 15, 3, [6, 4, 3, 233], []), (4, .iload_n 1, 1, [], []), (5, .iload_n 2, 1, [], []), (6, .iastore, 1, [], []), (7, .aload_n 0, 1, [], []), (8, .getfield 18, 3, [6, 5, 3, 234], []), (11, .iload_n 1, 1, [], []), (12, .aload_n 0, 1, [], []), (13, .getfield 38, 3, [6, 1, 0, 226], [])],
  [(16, .aload_n 0, 1, [], []), (17, .getfield 31, 3, [6, 0, 3, 225], []), (20, .getfield 168, 3, [3, 15, 0, 152], []), (23, .iadd, 1, [], []), (24, .iastore, 1, [], []), (25, .aload_n 0, 1, [], []), (26, .dup, 1, [], []), (27, .getfield 45, 3, [6, 7, 0, 236], []), (30, .iconst 1, 1, [], []), (31, .iload_n 1, 1, [], [])],
  [(32, .ishl, 1, [], []), (33, .ior, 1, [], []), (34, .putfield 45, 3, [6, 7, 0, 236], []), (37, .aload_n 0, 1, [], []), (38, .getfield 27, 3, [6, 15, 3, 247], []), (41, .aload_n 0, 1, [], []), (42, .getfield 38, 3, [6, 1, 0, 226], []), (45, .iconst 0, 1, [], []), (46, .iload_n 1, 1, [], []), (47, .iload_n 2, 1, [], [])],
  [(48, .invokevirtual 171, 3, [0, 4, 0, 1, 0, 1472], [m_X3_add]), (51, .aload_n 0, 1, [], []), (52, .getfield 18, 3, [6, 5, 3, 234], []), (55, .iload_n 1, 1, [], []), (56, .iaload, 1, [], []), (57, .ireturn, 1, [1], [])]]
theorem k_X8_beginChange : CdOk m_X8_beginChange c_X8_beginChange := ⟨by decide +kernel, allM_of ⟨o_X3_add, trivial⟩⟩
def c_X8_beginChanges : Cd := [
  [(0, .iconst 0, 1, [], []), (1, .istore_n 1, 1, [], []), (2, .aload_n 0, 1, [], []), (3, .invokevirtual 240, 3, [0, 0, 1, 6, 0, 1695], [m_X8_laggards]), (6, .aload_n 0, 1, [], []), (7, .getfield 45, 3, [6, 7, 0, 236], []), (10, .iconst (-1), 1, [], []), (11, .ixor, 1, [], []), (12, .iand, 1, [], []), (13, .aload_n 0, 1, [], []), (14, .getfield 48, 3, [6, 8, 0, 238], [])],
  [(17, .iconst (-1), 1, [], []), (18, .ixor, 1, [], []), (19, .iand, 1, [], []), (20, .istore_n 2, 1, [], []), (21, .iconst 0, 1, [], []), (22, .istore_n 3, 1, [], []), (23, .iload_n 3, 1, [], []), (24, .aload_n 0, 1, [], []), (25, .getfield 31, 3, [6, 0, 3, 225], []), (28, .getfield 89, 3, [3, 8, 3, 131], []), (31, .getfield 93, 3, [4, 1, 0, 102], [])],
  [(34, .if_icmp .ge 42, 3, [76], []), (37, .iload_n 2, 1, [], []), (38, .iload_n 3, 1, [], []), (39, .invokestatic 119, 3, [2, 2, 1, 0, 0, 0], [m_X11_isIn]), (42, .ifCond .eq 28, 3, [70], []), (45, .aload_n 0, 1, [], []), (46, .iload_n 3, 1, [], []), (47, .aload_n 0, 1, [], [])],
  [(48, .getfield 57, 3, [6, 11, 0, 243], []), (51, .invokevirtual 243, 3, [0, 2, 1, 6, 0, 1699], [m_X8_whyNotBegin]), (54, .ifCond .ne 16, 3, [70], []), (57, .aload_n 0, 1, [], []), (58, .iload_n 3, 1, [], []), (59, .aload_n 0, 1, [], []), (60, .getfield 57, 3, [6, 11, 0, 243], []), (63, .invokevirtual 246, 3, [0, 2, 1, 6, 0, 1700], [m_X8_beginChange])],
  [(66, .pop, 1, [], []), (67, .iinc 1 1, 3, [], []), (70, .iinc 3 1, 3, [], []), (73, .goto (-50), 3, [23], []), (76, .iload_n 1, 1, [], []), (77, .ireturn, 1, [1], [])]]
theorem k_X8_beginChanges : CdOk m_X8_beginChanges c_X8_beginChanges := ⟨by decide +kernel, allM_of ⟨o_X8_laggards, ⟨o_X11_isIn, ⟨o_X8_whyNotBegin, ⟨o_X8_beginChange, trivial⟩⟩⟩⟩⟩
def c_X8_soakIfComplete : Cd := [
  [(0, .aload_n 0, 1, [], []), (1, .invokevirtual 240, 3, [0, 0, 1, 6, 0, 1695], [m_X8_laggards]), (4, .aload_n 0, 1, [], []), (5, .getfield 48, 3, [6, 8, 0, 238], []), (8, .iconst (-1), 1, [], []), (9, .ixor, 1, [], []), (10, .iand, 1, [], []), (11, .ifCond .ne 41, 3, [52], []), (14, .aload_n 0, 1, [], []), (15, .iconst 2, 1, [], [])],
  [(16, .putfield 51, 3, [6, 9, 0, 240], []), (19, .aload_n 0, 1, [], []), (20, .aload_n 0, 1, [], []), (21, .getfield 38, 3, [6, 1, 0, 226], []), (24, .aload_n 0, 1, [], []), (25, .getfield 31, 3, [6, 0, 3, 225], []), (28, .getfield 249, 3, [3, 16, 0, 155], []), (31, .iadd, 1, [], [])],
  [(32, .putfield 67, 3, [6, 14, 0, 246], []), (35, .aload_n 0, 1, [], []), (36, .getfield 27, 3, [6, 15, 3, 247], []), (39, .aload_n 0, 1, [], []), (40, .getfield 38, 3, [6, 1, 0, 226], []), (43, .iconst 3, 1, [], []), (44, .iconst (-1), 1, [], []), (45, .aload_n 0, 1, [], []), (46, .getfield 64, 3, [6, 13, 0, 245], [])],
  [(49, .invokevirtual 171, 3, [0, 4, 0, 1, 0, 1472], [m_X3_add]), (52, .return_, 1, [], [])]]
theorem k_X8_soakIfComplete : CdOk m_X8_soakIfComplete c_X8_soakIfComplete := ⟨by decide +kernel, allM_of ⟨o_X8_laggards, ⟨o_X3_add, trivial⟩⟩⟩
def c_X8_passMinute : Cd := [
  [(0, .iconst 0, 1, [], []), (1, .istore_n 1, 1, [], []), (2, .aload_n 0, 1, [], []), (3, .dup, 1, [], []), (4, .getfield 38, 3, [6, 1, 0, 226], []), (7, .iconst 1, 1, [], []), (8, .iadd, 1, [], []), (9, .putfield 38, 3, [6, 1, 0, 226], []), (12, .aload_n 0, 1, [], []), (13, .invokevirtual 213, 3, [0, 0, 0, 6, 0, 1666], [m_X8_endChanges])],
  [(16, .aload_n 0, 1, [], []), (17, .invokevirtual 192, 3, [0, 0, 1, 6, 0, 1444], [m_X8_isActive]), (20, .ifCond .eq 15, 3, [35], []), (23, .aload_n 0, 1, [], []), (24, .invokevirtual 216, 3, [0, 0, 1, 6, 0, 1670], [m_X8_isOverLimit]), (27, .ifCond .eq 8, 3, [35], []), (30, .aload_n 0, 1, [], []), (31, .invokevirtual 219, 3, [0, 0, 1, 6, 0, 1686], [m_X8_stopPlan])],
  [(34, .pop, 1, [], []), (35, .aload_n 0, 1, [], []), (36, .getfield 51, 3, [6, 9, 0, 240], []), (39, .iconst 2, 1, [], []), (40, .if_icmp .ne 18, 3, [58], []), (43, .aload_n 0, 1, [], []), (44, .getfield 38, 3, [6, 1, 0, 226], []), (47, .aload_n 0, 1, [], [])],
  [(48, .getfield 67, 3, [6, 14, 0, 246], []), (51, .if_icmp .lt 7, 3, [58], []), (54, .aload_n 0, 1, [], []), (55, .invokevirtual 222, 3, [0, 0, 0, 6, 0, 1687], [m_X8_leaveWave]), (58, .aload_n 0, 1, [], []), (59, .getfield 51, 3, [6, 9, 0, 240], []), (62, .iconst 1, 1, [], []), (63, .if_icmp .ne 12, 3, [75], [])],
  [(66, .aload_n 0, 1, [], []), (67, .invokevirtual 225, 3, [0, 0, 1, 6, 0, 1691], [m_X8_beginChanges]), (70, .istore_n 1, 1, [], []), (71, .aload_n 0, 1, [], []), (72, .invokevirtual 228, 3, [0, 0, 0, 6, 0, 1701], [m_X8_soakIfComplete]), (75, .iload_n 1, 1, [], []), (76, .ireturn, 1, [1], [])]]
theorem k_X8_passMinute : CdOk m_X8_passMinute c_X8_passMinute := ⟨by decide +kernel, allM_of ⟨o_X8_endChanges, ⟨o_X8_isActive, ⟨o_X8_isOverLimit, ⟨o_X8_stopPlan, ⟨o_X8_leaveWave, ⟨o_X8_beginChanges, ⟨o_X8_soakIfComplete, trivial⟩⟩⟩⟩⟩⟩⟩⟩
def c_X8_isStuck : Cd := [
  [(0, .aload_n 0, 1, [], []), (1, .getfield 51, 3, [6, 9, 0, 240], []), (4, .iconst 1, 1, [], []), (5, .if_icmp .ne 18, 3, [23], []), (8, .iload_n 1, 1, [], []), (9, .ifCond .ne 14, 3, [23], []), (12, .aload_n 0, 1, [], []), (13, .getfield 45, 3, [6, 7, 0, 236], [])],
  [(16, .ifCond .ne 7, 3, [23], []), (19, .iconst 1, 1, [], []), (20, .goto 4, 3, [24], []), (23, .iconst 0, 1, [], []), (24, .ireturn, 1, [6], [])]]
theorem k_X8_isStuck : CdOk m_X8_isStuck c_X8_isStuck := ⟨by decide +kernel, allM_of trivial⟩
def c_X8_minutesToDone : Cd := [
  [(0, .iconst 0, 1, [], []), (1, .istore_n 2, 1, [], []), (2, .iconst 0, 1, [], []), (3, .istore_n 3, 1, [], []), (4, .iload_n 3, 1, [], []), (5, .iload_n 1, 1, [], []), (6, .if_icmp .gt 43, 3, [49], []), (9, .aload_n 0, 1, [], []), (10, .getfield 51, 3, [6, 9, 0, 240], []), (13, .iconst 4, 1, [], []), (14, .if_icmp .ne 5, 3, [19], [])],
  [(17, .iload_n 3, 1, [], []), (18, .ireturn, 1, [1], []), (19, .aload_n 0, 1, [], []), (20, .invokevirtual 192, 3, [0, 0, 1, 6, 0, 1444], [m_X8_isActive]), (23, .ifCond .ne 5, 3, [28], []), (26, .iconst (-1), 1, [], []), (27, .ireturn, 1, [1], []), (28, .aload_n 0, 1, [], []), (29, .invokevirtual 210, 3, [0, 0, 1, 6, 0, 1662], [m_X8_passMinute])],
  [(32, .istore_n 2, 1, [], []), (33, .aload_n 0, 1, [], []), (34, .iload_n 2, 1, [], []), (35, .invokevirtual 307, 3, [0, 1, 1, 6, 0, 1788], [m_X8_isStuck]), (38, .ifCond .eq 5, 3, [43], []), (41, .iconst (-1), 1, [], []), (42, .ireturn, 1, [1], []), (43, .iinc 3 1, 3, [], []), (46, .goto (-42), 3, [4], [])],
  [(49, .iconst (-1), 1, [], []), (50, .ireturn, 1, [1], [])]]
theorem k_X8_minutesToDone : CdOk m_X8_minutesToDone c_X8_minutesToDone := ⟨by decide +kernel, allM_of ⟨o_X8_isActive, ⟨o_X8_passMinute, ⟨o_X8_isStuck, trivial⟩⟩⟩⟩
def c_X11_minutesToEnd : Cd := [
  [(0, .iload_n 1, 1, [], []), (1, .invokestatic 250, 3, [1, 1, 0, 0, 1, 1780], [m_X11_needAhead]), (4, .aload_n 0, 1, [], []), (5, .getfield 32, 3, [8, 2, 3, 362], []), (8, .aload_n 0, 1, [], []), (9, .getfield 24, 3, [8, 1, 3, 361], []), (12, .invokevirtual 253, 3, [0, 1, 0, 6, 0, 1783], [m_X8_copyFrom]), (15, .aload_n 0, 1, [], [])],
  [(16, .getfield 32, 3, [8, 2, 3, 362], []), (19, .iload_n 1, 1, [], []), (20, .invokevirtual 256, 3, [0, 1, 1, 6, 0, 1784], [m_X8_minutesToDone]), (23, .ireturn, 1, [1], [])]]
theorem k_X11_minutesToEnd : CdOk m_X11_minutesToEnd c_X11_minutesToEnd := ⟨by decide +kernel, allM_of ⟨o_X11_needAhead, ⟨o_X8_copyFrom, ⟨o_X8_minutesToDone, trivial⟩⟩⟩⟩
def c_X11_events : Cd := [
  [(0, .aload_n 0, 1, [], []), (1, .getfield 24, 3, [8, 1, 3, 361], []), (4, .getfield 283, 3, [6, 15, 3, 248], []), (7, .getfield 287, 3, [1, 1, 0, 210], []), (10, .ireturn, 1, [1], [])]]
theorem k_X11_events : CdOk m_X11_events c_X11_events := ⟨by decide +kernel, allM_of trivial⟩
def c_X3_cellOf : Cd := [
  [(0, .aload_n 0, 1, [], []), (1, .getfield 19, 3, [1, 2, 0, 211], []), (4, .iload_n 1, 1, [], []), (5, .isub, 1, [], []), (6, .bipush 30, 2, [], []), (8, .invokestatic 32, 3, [13, 1761], []), (11, .istore_n 3, 1, [], []), (12, .aload_n 0, 1, [], []), (13, .getfield 11, 3, [1, 0, 3, 207], [])],
  [(16, .iload_n 3, 1, [], []), (17, .iconst 4, 1, [], []), (18, .imul, 1, [], []), (19, .iload_n 2, 1, [], []), (20, .iadd, 1, [], []), (21, .iaload, 1, [], []), (22, .ireturn, 1, [1], [])]]
theorem k_X3_cellOf : CdOk m_X3_cellOf c_X3_cellOf := ⟨by decide +kernel, allM_of trivial⟩
def c_X11_event : Cd := [
  [(0, .iload_n 1, 1, [], []), (1, .ifCond .lt 17, 3, [18], []), (4, .iload_n 1, 1, [], []), (5, .aload_n 0, 1, [], []), (6, .getfield 24, 3, [8, 1, 3, 361], []), (9, .getfield 283, 3, [6, 15, 3, 248], []), (12, .getfield 287, 3, [1, 1, 0, 210], []), (15, .if_icmp .lt 11, 3, [26], [])],
  [(18, .new 178, 3, [2, 180, 1392, 1401], []), (26, .iload_n 2, 1, [], []), (27, .ifCond .lt 8, 3, [35], []), (30, .iload_n 2, 1, [], []), (31, .iconst 4, 1, [], [])],
  [(32, .if_icmp .lt 11, 3, [43], []), (35, .new 86, 3, [1, 88, 621, 662], []), (43, .aload_n 0, 1, [], []), (44, .getfield 24, 3, [8, 1, 3, 361], []), (47, .getfield 283, 3, [6, 15, 3, 248], [])],
  [(50, .iload_n 1, 1, [], []), (51, .iload_n 2, 1, [], []), (52, .invokevirtual 290, 3, [0, 2, 1, 1, 0, 1757], [m_X3_cellOf]), (55, .ireturn, 1, [1], [])]]
theorem k_X11_event : CdOk m_X11_event c_X11_event := ⟨by decide +kernel, allM_of ⟨o_X3_cellOf, trivial⟩⟩
def c_X8_canPass : Cd := [
  [(0, .iload_n 1, 1, [], []), (1, .ifCond .lt 26, 3, [27], []), (4, .iload_n 1, 1, [], []), (5, .sipush 999, 3, [], []), (8, .if_icmp .gt 19, 3, [27], []), (11, .aload_n 0, 1, [], []), (12, .getfield 38, 3, [6, 1, 0, 226], []), (15, .iload_n 1, 1, [], [])],
  [(16, .iadd, 1, [], []), (17, .sipush 20000, 3, [], []), (20, .if_icmp .gt 7, 3, [27], []), (23, .iconst 1, 1, [], []), (24, .goto 4, 3, [28], []), (27, .iconst 0, 1, [], []), (28, .ireturn, 1, [6], [])]]
theorem k_X8_canPass : CdOk m_X8_canPass c_X8_canPass := ⟨by decide +kernel, allM_of trivial⟩
def c_X4_keep : Cd := [
  [(0, .aload_n 0, 1, [], []), (1, .aload_n 0, 1, [], []), (2, .getfield 21, 3, [2, 2, 0, 294], []), (5, .iconst 1, 1, [], []), (6, .iadd, 1, [], []), (7, .bipush 6, 2, [], []), (9, .irem, 1, [], []), (10, .putfield 21, 3, [2, 2, 0, 294], []), (13, .aload_n 0, 1, [], []), (14, .getfield 11, 3, [2, 0, 3, 291], [])],
  [(17, .aload_n 0, 1, [], []), (18, .getfield 21, 3, [2, 2, 0, 294], []), (21, .aaload, 1, [4], []), (22, .astore_n 2, 1, [], []), (23, .aload_n 2, 1, [], []), (24, .ifnull 23, 3, [47], []), (27, .aload_n 2, 1, [], []), (28, .aload_n 1, 1, [], []), (29, .invokevirtual 27, 3, [0, 1, 0, 6, 0, 1452], [m_X8_copyFrom])],
  [(32, .aload_n 0, 1, [], []), (33, .aload_n 0, 1, [], []), (34, .getfield 17, 3, [2, 1, 0, 292], []), (37, .iconst 1, 1, [], []), (38, .iadd, 1, [], []), (39, .bipush 6, 2, [], []), (41, .invokestatic 31, 3, [10, 1453], []), (44, .putfield 17, 3, [2, 1, 0, 292], []), (47, .return_, 1, [], [])]]
theorem k_X4_keep : CdOk m_X4_keep c_X4_keep := ⟨by decide +kernel, allM_of ⟨o_X8_copyFrom, trivial⟩⟩
def c_X8_passMinutes : Cd := [
  [(0, .iconst 0, 1, [], []), (1, .istore_n 2, 1, [], []), (2, .iload_n 2, 1, [], []), (3, .iload_n 1, 1, [], []), (4, .if_icmp .ge 14, 3, [18], []), (7, .aload_n 0, 1, [], []), (8, .invokevirtual 210, 3, [0, 0, 1, 6, 0, 1662], [m_X8_passMinute]), (11, .pop, 1, [], []), (12, .iinc 2 1, 3, [], []), (15, .goto (-13), 3, [2], [])],
  [(18, .aload_n 0, 1, [], []), (19, .getfield 38, 3, [6, 1, 0, 226], []), (22, .ireturn, 1, [1], [])]]
theorem k_X8_passMinutes : CdOk m_X8_passMinutes c_X8_passMinutes := ⟨by decide +kernel, allM_of ⟨o_X8_passMinute, trivial⟩⟩
def c_X11_pass : Cd := [
  [(0, .aload_n 0, 1, [], []), (1, .getfield 24, 3, [8, 1, 3, 361], []), (4, .iload_n 1, 1, [], []), (5, .invokevirtual 293, 3, [0, 1, 1, 6, 0, 1654], [m_X8_canPass]), (8, .ifCond .ne 11, 3, [19], []), (11, .new 86, 3, [1, 88, 621, 662], [])],
  [(19, .aload_n 0, 1, [], []), (20, .getfield 48, 3, [8, 6, 3, 366], []), (23, .aload_n 0, 1, [], []), (24, .getfield 24, 3, [8, 1, 3, 361], []), (27, .invokevirtual 112, 3, [0, 1, 0, 2, 0, 1448], [m_X4_keep]), (30, .aload_n 0, 1, [], []), (31, .getfield 24, 3, [8, 1, 3, 361], [])],
  [(34, .iload_n 1, 1, [], []), (35, .invokevirtual 296, 3, [0, 1, 1, 6, 0, 1658], [m_X8_passMinutes]), (38, .ireturn, 1, [1], [])]]
theorem k_X11_pass : CdOk m_X11_pass c_X11_pass := ⟨by decide +kernel, allM_of ⟨o_X8_canPass, ⟨o_X4_keep, ⟨o_X8_passMinutes, trivial⟩⟩⟩⟩
def c_X8_canStart : Cd := [
  [(0, .aload_n 0, 1, [], []), (1, .getfield 31, 3, [6, 0, 3, 225], []), (4, .getfield 189, 3, [3, 12, 0, 143], []), (7, .ifCond .le 14, 3, [21], []), (10, .aload_n 0, 1, [], []), (11, .invokevirtual 192, 3, [0, 0, 1, 6, 0, 1444], [m_X8_isActive]), (14, .ifCond .ne 7, 3, [21], [])],
  [(17, .iconst 1, 1, [], []), (18, .goto 4, 3, [22], []), (21, .iconst 0, 1, [], []), (22, .ireturn, 1, [6], [])]]
theorem k_X8_canStart : CdOk m_X8_canStart c_X8_canStart := ⟨by decide +kernel, allM_of ⟨o_X8_isActive, trivial⟩⟩
def c_X8_startPlan : Cd := [
  [(0, .aload_n 0, 1, [], []), (1, .getfield 31, 3, [6, 0, 3, 225], []), (4, .invokevirtual 195, 3, [0, 0, 1, 3, 0, 1458], [m_X5_plannedMembers]), (7, .aload_n 0, 1, [], []), (8, .getfield 48, 3, [6, 8, 0, 238], []), (11, .iconst (-1), 1, [], []), (12, .ixor, 1, [], []), (13, .iand, 1, [], []), (14, .istore_n 2, 1, [], []), (15, .aload_n 0, 1, [], [])],
  [(16, .iload_n 2, 1, [], []), (17, .invokevirtual 182, 3, [0, 1, 1, 6, 0, 1462], [m_X8_lowestComing]), (20, .istore_n 3, 1, [], []), (21, .aload_n 0, 1, [], []), (22, .iload_n 2, 1, [], []), (23, .invokevirtual 198, 3, [0, 1, 1, 6, 0, 1467], [m_X8_highestComing]), (26, .istore 4, 2, [], []), (28, .aload_n 0, 1, [], []), (29, .getfield 27, 3, [6, 15, 3, 247], [])],
  [(32, .aload_n 0, 1, [], []), (33, .getfield 38, 3, [6, 1, 0, 226], []), (36, .iconst 2, 1, [], []), (37, .iconst (-1), 1, [], []), (38, .iload_n 1, 1, [], []), (39, .invokevirtual 171, 3, [0, 4, 0, 1, 0, 1472], [m_X3_add]), (42, .aload_n 0, 1, [], []), (43, .iload_n 1, 1, [], []), (44, .putfield 54, 3, [6, 10, 0, 242], []), (47, .aload_n 0, 1, [], [])],
  [(48, .iconst (-1), 1, [], []), (49, .putfield 67, 3, [6, 14, 0, 246], []), (52, .iload_n 2, 1, [], []), (53, .ifCond .eq 14, 3, [67], []), (56, .iload_n 3, 1, [], []), (57, .iload_n 1, 1, [], []), (58, .if_icmp .ne 15, 3, [73], []), (61, .iload 4, 2, [], []), (63, .iload_n 1, 1, [], [])],
  [(64, .if_icmp .ne 9, 3, [73], []), (67, .aload_n 0, 1, [], []), (68, .invokevirtual 201, 3, [0, 0, 0, 6, 0, 1477], [m_X8_finishPlan]), (71, .iconst (-1), 1, [], []), (72, .ireturn, 1, [1], []), (73, .aload_n 0, 1, [], []), (74, .iload_n 3, 1, [], []), (75, .iload_n 1, 1, [], []), (76, .if_icmp .ge 7, 3, [83], []), (79, .iconst 1, 1, [], [])],
  [(80, .goto 4, 3, [84], []), (83, .iconst 0, 1, [], []), (84, .putfield 60, 3, [6, 12, 1, 244], []), (87, .aload_n 0, 1, [], []), (88, .aload_n 0, 1, [], []), (89, .getfield 60, 3, [6, 12, 1, 244], []), (92, .ifCond .eq 9, 3, [101], []), (95, .iload_n 3, 1, [], [])],
  [(96, .iconst 1, 1, [], []), (97, .iadd, 1, [], []), (98, .goto 7, 3, [105], []), (101, .iload 4, 2, [], []), (103, .iconst 1, 1, [], []), (104, .isub, 1, [], []), (105, .putfield 57, 3, [6, 11, 0, 243], []), (108, .aload_n 0, 1, [], []), (109, .iconst 0, 1, [], []), (110, .putfield 64, 3, [6, 13, 0, 245], [])],
  [(113, .aload_n 0, 1, [], []), (114, .iconst 1, 1, [], []), (115, .putfield 51, 3, [6, 9, 0, 240], []), (118, .aload_n 0, 1, [], []), (119, .getfield 57, 3, [6, 11, 0, 243], []), (122, .ireturn, 1, [1], [])]]
theorem k_X8_startPlan : CdOk m_X8_startPlan c_X8_startPlan := ⟨by decide +kernel, allM_of ⟨o_X5_plannedMembers, ⟨o_X8_lowestComing, ⟨o_X8_highestComing, ⟨o_X3_add, ⟨o_X8_finishPlan, trivial⟩⟩⟩⟩⟩⟩
def c_X11_start : Cd := [
  [(0, .aload_n 0, 1, [], []), (1, .iload_n 1, 1, [], []), (2, .invokevirtual 139, 3, [0, 1, 0, 8, 1, 1436], [m_X11_needVersion]), (5, .aload_n 0, 1, [], []), (6, .getfield 24, 3, [8, 1, 3, 361], []), (9, .invokevirtual 299, 3, [0, 0, 1, 6, 0, 1440], [m_X8_canStart]), (12, .ifCond .ne 11, 3, [23], []), (15, .new 79, 3, [0, 81, 1321, 1330], [])],
  [(23, .aload_n 0, 1, [], []), (24, .getfield 48, 3, [8, 6, 3, 366], []), (27, .aload_n 0, 1, [], []), (28, .getfield 24, 3, [8, 1, 3, 361], []), (31, .invokevirtual 112, 3, [0, 1, 0, 2, 0, 1448], [m_X4_keep])],
  [(34, .aload_n 0, 1, [], []), (35, .getfield 24, 3, [8, 1, 3, 361], []), (38, .iload_n 1, 1, [], []), (39, .invokevirtual 302, 3, [0, 1, 1, 6, 0, 1454], [m_X8_startPlan]), (42, .ireturn, 1, [1], [])]]
theorem k_X11_start : CdOk m_X11_start c_X11_start := ⟨by decide +kernel, allM_of ⟨o_X11_needVersion, ⟨o_X8_canStart, ⟨o_X4_keep, ⟨o_X8_startPlan, trivial⟩⟩⟩⟩⟩
def c_X11_stop : Cd := [
  [(0, .aload_n 0, 1, [], []), (1, .getfield 24, 3, [8, 1, 3, 361], []), (4, .invokevirtual 271, 3, [0, 0, 1, 6, 0, 1507], [m_X8_isActive]), (7, .ifCond .ne 11, 3, [18], []), (10, .new 79, 3, [0, 81, 1321, 1330], [])],
  [(18, .aload_n 0, 1, [], []), (19, .getfield 48, 3, [8, 6, 3, 366], []), (22, .aload_n 0, 1, [], []), (23, .getfield 24, 3, [8, 1, 3, 361], []), (26, .invokevirtual 112, 3, [0, 1, 0, 2, 0, 1448], [m_X4_keep]), (29, .aload_n 0, 1, [], []), (30, .getfield 24, 3, [8, 1, 3, 361], [])],
  [(33, .invokevirtual 305, 3, [0, 0, 1, 6, 0, 1508], [m_X8_stopPlan]), (36, .ireturn, 1, [1], [])]]
theorem k_X11_stop : CdOk m_X11_stop c_X11_stop := ⟨by decide +kernel, allM_of ⟨o_X8_isActive, ⟨o_X4_keep, ⟨o_X8_stopPlan, trivial⟩⟩⟩⟩
def c_X8_resumePlan : Cd := [
  [(0, .aload_n 0, 1, [], []), (1, .aload_n 0, 1, [], []), (2, .getfield 67, 3, [6, 14, 0, 246], []), (5, .iconst (-1), 1, [], []), (6, .if_icmp .ne 7, 3, [13], []), (9, .iconst 1, 1, [], []), (10, .goto 4, 3, [14], []), (13, .iconst 2, 1, [], []), (14, .putfield 51, 3, [6, 9, 0, 240], [])],
  [(17, .aload_n 0, 1, [], []), (18, .getfield 27, 3, [6, 15, 3, 247], []), (21, .aload_n 0, 1, [], []), (22, .getfield 38, 3, [6, 1, 0, 226], []), (25, .iconst 5, 1, [], []), (26, .iconst (-1), 1, [], []), (27, .aload_n 0, 1, [], []), (28, .getfield 64, 3, [6, 13, 0, 245], []), (31, .invokevirtual 171, 3, [0, 4, 0, 1, 0, 1472], [m_X3_add])],
  [(34, .aload_n 0, 1, [], []), (35, .getfield 64, 3, [6, 13, 0, 245], []), (38, .ireturn, 1, [1], [])]]
theorem k_X8_resumePlan : CdOk m_X8_resumePlan c_X8_resumePlan := ⟨by decide +kernel, allM_of ⟨o_X3_add, trivial⟩⟩
def c_X11_go : Cd := [
  [(0, .aload_n 0, 1, [], []), (1, .getfield 24, 3, [8, 1, 3, 361], []), (4, .getfield 280, 3, [6, 9, 0, 241], []), (7, .iconst 3, 1, [], []), (8, .if_icmp .eq 11, 3, [19], []), (11, .new 79, 3, [0, 81, 1321, 1330], [])],
  [(19, .aload_n 0, 1, [], []), (20, .getfield 48, 3, [8, 6, 3, 366], []), (23, .aload_n 0, 1, [], []), (24, .getfield 24, 3, [8, 1, 3, 361], []), (27, .invokevirtual 112, 3, [0, 1, 0, 2, 0, 1448], [m_X4_keep]), (30, .aload_n 0, 1, [], []), (31, .getfield 24, 3, [8, 1, 3, 361], [])],
  [(34, .invokevirtual 308, 3, [0, 0, 1, 6, 0, 1516], [m_X8_resumePlan]), (37, .ireturn, 1, [1], [])]]
theorem k_X11_go : CdOk m_X11_go c_X11_go := ⟨by decide +kernel, allM_of ⟨o_X4_keep, ⟨o_X8_resumePlan, trivial⟩⟩⟩
def c_X8_setHeld : Cd := [
  [(0, .aload_n 0, 1, [], []), (1, .iload_n 2, 1, [], []), (2, .ifCond .eq 14, 3, [16], []), (5, .aload_n 0, 1, [], []), (6, .getfield 48, 3, [6, 8, 0, 238], []), (9, .iconst 1, 1, [], []), (10, .iload_n 1, 1, [], []), (11, .ishl, 1, [], []), (12, .ior, 1, [], []), (13, .goto 13, 3, [26], [])],
  [(16, .aload_n 0, 1, [], []), (17, .getfield 48, 3, [6, 8, 0, 238], []), (20, .iconst 1, 1, [], []), (21, .iload_n 1, 1, [], []), (22, .ishl, 1, [], []), (23, .iconst (-1), 1, [], []), (24, .ixor, 1, [], []), (25, .iand, 1, [], []), (26, .putfield 48, 3, [6, 8, 0, 238], []), (29, .aload_n 0, 1, [], []), (30, .getfield 27, 3, [6, 15, 3, 247], [])],
  [(33, .aload_n 0, 1, [], []), (34, .getfield 38, 3, [6, 1, 0, 226], []), (37, .bipush 8, 2, [], []), (39, .iload_n 1, 1, [], []), (40, .iload_n 2, 1, [], []), (41, .ifCond .eq 7, 3, [48], []), (44, .iconst 1, 1, [], []), (45, .goto 4, 3, [49], [])],
  [(48, .iconst 0, 1, [], []), (49, .invokevirtual 171, 3, [0, 4, 0, 1, 0, 1472], [m_X3_add]), (52, .aload_n 0, 1, [], []), (53, .getfield 48, 3, [6, 8, 0, 238], []), (56, .invokestatic 151, 3, [1, 1, 1, 0, 0, 1533], [m_J6_bitCount_0f7a4]), (59, .ireturn, 1, [1], [])]]
theorem k_X8_setHeld : CdOk m_X8_setHeld c_X8_setHeld := ⟨by decide +kernel, allM_of ⟨o_X3_add, ⟨o_J6_bitCount_0f7a4, trivial⟩⟩⟩
def c_X11_hold : Cd := [
  [(0, .aload_n 0, 1, [], []), (1, .iload_n 1, 1, [], []), (2, .invokevirtual 162, 3, [0, 1, 0, 8, 1, 1388], [m_X11_needMember]), (5, .aload_n 0, 1, [], []), (6, .getfield 24, 3, [8, 1, 3, 361], []), (9, .getfield 262, 3, [6, 8, 0, 239], []), (12, .iload_n 1, 1, [], []), (13, .invokestatic 145, 3, [1, 2, 1, 0, 0, 1528], [m_X11_isIn])],
  [(16, .iload_n 2, 1, [], []), (17, .if_icmp .ne 11, 3, [28], []), (20, .new 79, 3, [0, 81, 1321, 1330], []), (28, .aload_n 0, 1, [], []), (29, .getfield 48, 3, [8, 6, 3, 366], [])],
  [(32, .aload_n 0, 1, [], []), (33, .getfield 24, 3, [8, 1, 3, 361], []), (36, .invokevirtual 112, 3, [0, 1, 0, 2, 0, 1448], [m_X4_keep]), (39, .aload_n 0, 1, [], []), (40, .getfield 24, 3, [8, 1, 3, 361], []), (43, .iload_n 1, 1, [], []), (44, .iload_n 2, 1, [], []), (45, .invokevirtual 311, 3, [0, 2, 1, 6, 0, 1529], [m_X8_setHeld])],
  [(48, .ireturn, 1, [1], [])]]
theorem k_X11_hold : CdOk m_X11_hold c_X11_hold := ⟨by decide +kernel, allM_of ⟨o_X11_needMember, ⟨o_X11_isIn, ⟨o_X4_keep, ⟨o_X8_setHeld, trivial⟩⟩⟩⟩⟩
def c_X11_needMeasure : Cd := [
  [(0, .iload_n 0, 1, [], []), (1, .ifCond .lt 10, 3, [11], []), (4, .iload_n 0, 1, [], []), (5, .sipush 999, 3, [], []), (8, .if_icmp .le 11, 3, [19], []), (11, .new 86, 3, [1, 88, 621, 662], [])],
  [(19, .return_, 1, [], [])]]
theorem k_X11_needMeasure : CdOk m_X11_needMeasure c_X11_needMeasure := ⟨by decide +kernel, allM_of trivial⟩
def c_X8_setMeasure : Cd := [
  [(0, .aload_n 0, 1, [], []), (1, .getfield 21, 3, [6, 6, 3, 235], []), (4, .iload_n 1, 1, [], []), (5, .iaload, 1, [], []), (6, .istore_n 3, 1, [], []), (7, .aload_n 0, 1, [], []), (8, .getfield 21, 3, [6, 6, 3, 235], []), (11, .iload_n 1, 1, [], []), (12, .iload_n 2, 1, [], []), (13, .iastore, 1, [], []), (14, .iload_n 3, 1, [], []), (15, .ireturn, 1, [1], [])]]
theorem k_X8_setMeasure : CdOk m_X8_setMeasure c_X8_setMeasure := ⟨by decide +kernel, allM_of trivial⟩
def c_X11_report : Cd := [
  [(0, .aload_n 0, 1, [], []), (1, .iload_n 1, 1, [], []), (2, .invokevirtual 162, 3, [0, 1, 0, 8, 1, 1388], [m_X11_needMember]), (5, .iload_n 2, 1, [], []), (6, .invokestatic 268, 3, [1, 1, 0, 0, 1, 1548], [m_X11_needMeasure]), (9, .aload_n 0, 1, [], []), (10, .getfield 24, 3, [8, 1, 3, 361], []), (13, .iload_n 1, 1, [], []), (14, .invokevirtual 315, 3, [0, 1, 1, 6, 0, 1551], [m_X8_isUp])],
  [(17, .ifCond .ne 11, 3, [28], []), (20, .new 79, 3, [0, 81, 1321, 1330], []), (28, .aload_n 0, 1, [], []), (29, .getfield 48, 3, [8, 6, 3, 366], [])],
  [(32, .aload_n 0, 1, [], []), (33, .getfield 24, 3, [8, 1, 3, 361], []), (36, .invokevirtual 112, 3, [0, 1, 0, 2, 0, 1448], [m_X4_keep]), (39, .aload_n 0, 1, [], []), (40, .getfield 24, 3, [8, 1, 3, 361], []), (43, .iload_n 1, 1, [], []), (44, .iload_n 2, 1, [], []), (45, .invokevirtual 318, 3, [0, 2, 1, 6, 0, 1552], [m_X8_setMeasure])],
  [(48, .ireturn, 1, [1], [])]]
theorem k_X11_report : CdOk m_X11_report c_X11_report := ⟨by decide +kernel, allM_of ⟨o_X11_needMember, ⟨o_X11_needMeasure, ⟨o_X8_isUp, ⟨o_X4_keep, ⟨o_X8_setMeasure, trivial⟩⟩⟩⟩⟩⟩
def c_X11_change : Cd := [
  [(0, .aload_n 0, 1, [], []), (1, .iload_n 1, 1, [], []), (2, .invokevirtual 162, 3, [0, 1, 0, 8, 1, 1388], [m_X11_needMember]), (5, .aload_n 0, 1, [], []), (6, .iload_n 2, 1, [], []), (7, .invokevirtual 139, 3, [0, 1, 0, 8, 1, 1436], [m_X11_needVersion]), (10, .aload_n 0, 1, [], []), (11, .getfield 24, 3, [8, 1, 3, 361], []), (14, .iload_n 1, 1, [], []), (15, .iload_n 2, 1, [], [])],
  [(16, .invokevirtual 196, 3, [0, 2, 1, 6, 0, 1573], [m_X8_whyNotBegin]), (19, .ifCond .eq 11, 3, [30], []), (22, .new 79, 3, [0, 81, 1321, 1330], []), (30, .aload_n 0, 1, [], []), (31, .getfield 48, 3, [8, 6, 3, 366], [])],
  [(34, .aload_n 0, 1, [], []), (35, .getfield 24, 3, [8, 1, 3, 361], []), (38, .invokevirtual 112, 3, [0, 1, 0, 2, 0, 1448], [m_X4_keep]), (41, .aload_n 0, 1, [], []), (42, .getfield 24, 3, [8, 1, 3, 361], []), (45, .iload_n 1, 1, [], []), (46, .iload_n 2, 1, [], []), (47, .invokevirtual 321, 3, [0, 2, 1, 6, 0, 1593], [m_X8_beginChange])],
  [(50, .ireturn, 1, [1], [])]]
theorem k_X11_change : CdOk m_X11_change c_X11_change := ⟨by decide +kernel, allM_of ⟨o_X11_needMember, ⟨o_X11_needVersion, ⟨o_X8_whyNotBegin, ⟨o_X4_keep, ⟨o_X8_beginChange, trivial⟩⟩⟩⟩⟩⟩
def c_X8_setFormat : Cd := [
  [(0, .aload_n 0, 1, [], []), (1, .getfield 42, 3, [6, 2, 0, 228], []), (4, .istore_n 2, 1, [], []), (5, .aload_n 0, 1, [], []), (6, .iload_n 1, 1, [], []), (7, .putfield 42, 3, [6, 2, 0, 228], []), (10, .aload_n 0, 1, [], []), (11, .getfield 27, 3, [6, 15, 3, 247], []), (14, .aload_n 0, 1, [], []), (15, .getfield 38, 3, [6, 1, 0, 226], [])],
  [(18, .bipush 7, 2, [], []), (20, .iconst (-1), 1, [], []), (21, .iload_n 1, 1, [], []), (22, .invokevirtual 171, 3, [0, 4, 0, 1, 0, 1472], [m_X3_add]), (25, .iload_n 2, 1, [], []), (26, .ireturn, 1, [1], [])]]
theorem k_X8_setFormat : CdOk m_X8_setFormat c_X8_setFormat := ⟨by decide +kernel, allM_of ⟨o_X3_add, trivial⟩⟩
def c_X11_commit : Cd := [
  [(0, .iload_n 1, 1, [], []), (1, .invokestatic 149, 3, [1, 1, 0, 0, 1, 1605], [m_X11_needFormat]), (4, .aload_n 0, 1, [], []), (5, .getfield 24, 3, [8, 1, 3, 361], []), (8, .iload_n 1, 1, [], []), (9, .invokevirtual 240, 3, [0, 1, 1, 6, 0, 1608], [m_X8_whyNotFormat]), (12, .ifCond .eq 11, 3, [23], []), (15, .new 79, 3, [0, 81, 1321, 1330], [])],
  [(23, .aload_n 0, 1, [], []), (24, .getfield 48, 3, [8, 6, 3, 366], []), (27, .aload_n 0, 1, [], []), (28, .getfield 24, 3, [8, 1, 3, 361], []), (31, .invokevirtual 112, 3, [0, 1, 0, 2, 0, 1448], [m_X4_keep])],
  [(34, .aload_n 0, 1, [], []), (35, .getfield 24, 3, [8, 1, 3, 361], []), (38, .iload_n 1, 1, [], []), (39, .invokevirtual 324, 3, [0, 1, 1, 6, 0, 1625], [m_X8_setFormat]), (42, .ireturn, 1, [1], [])]]
theorem k_X11_commit : CdOk m_X11_commit c_X11_commit := ⟨by decide +kernel, allM_of ⟨o_X11_needFormat, ⟨o_X8_whyNotFormat, ⟨o_X4_keep, ⟨o_X8_setFormat, trivial⟩⟩⟩⟩⟩
def c_X4_takeBack : Cd := [
  [(0, .aload_n 0, 1, [], []), (1, .getfield 11, 3, [2, 0, 3, 291], []), (4, .aload_n 0, 1, [], []), (5, .getfield 21, 3, [2, 2, 0, 294], []), (8, .aaload, 1, [4], []), (9, .astore_n 2, 1, [], []), (10, .aload_n 2, 1, [], []), (11, .ifnull 40, 3, [51], []), (14, .aload_n 0, 1, [], []), (15, .getfield 17, 3, [2, 1, 0, 292], [])],
  [(18, .ifCond .le 33, 3, [51], []), (21, .aload_n 1, 1, [], []), (22, .aload_n 2, 1, [], []), (23, .invokevirtual 27, 3, [0, 1, 0, 6, 0, 1452], [m_X8_copyFrom]), (26, .aload_n 0, 1, [], []), (27, .aload_n 0, 1, [], []), (28, .getfield 21, 3, [2, 2, 0, 294], []), (31, .iconst 1, 1, [], [])],
  [(32, .isub, 1, [], []), (33, .bipush 6, 2, [], []), (35, .invokestatic 37, 3, [13, 1772], []), (38, .putfield 21, 3, [2, 2, 0, 294], []), (41, .aload_n 0, 1, [], []), (42, .dup, 1, [], []), (43, .getfield 17, 3, [2, 1, 0, 292], []), (46, .iconst 1, 1, [], []), (47, .isub, 1, [], [])],
  [(48, .putfield 17, 3, [2, 1, 0, 292], []), (51, .return_, 1, [], [])]]
theorem k_X4_takeBack : CdOk m_X4_takeBack c_X4_takeBack := ⟨by decide +kernel, allM_of ⟨o_X8_copyFrom, trivial⟩⟩
def c_X11_undo : Cd := [
  [(0, .aload_n 0, 1, [], []), (1, .getfield 48, 3, [8, 6, 3, 366], []), (4, .getfield 344, 3, [2, 1, 0, 293], []), (7, .ifCond .ne 5, 3, [12], []), (10, .iconst (-1), 1, [], []), (11, .ireturn, 1, [1], []), (12, .aload_n 0, 1, [], []), (13, .getfield 48, 3, [8, 6, 3, 366], [])],
  [(16, .aload_n 0, 1, [], []), (17, .getfield 24, 3, [8, 1, 3, 361], []), (20, .invokevirtual 345, 3, [0, 1, 0, 2, 0, 1768], [m_X4_takeBack]), (23, .aload_n 0, 1, [], []), (24, .getfield 48, 3, [8, 6, 3, 366], []), (27, .getfield 344, 3, [2, 1, 0, 293], []), (30, .ireturn, 1, [1], [])]]
theorem k_X11_undo : CdOk m_X11_undo c_X11_undo := ⟨by decide +kernel, allM_of ⟨o_X4_takeBack, trivial⟩⟩
end
section
/-! ===== what each method does, step by step, 1 ===== -/
set_option maxRecDepth 100000 in
set_option maxHeartbeats 4000000 in
theorem t_X5_reset {h : PH} {Q : Res → PH → Prop}
    (T : (let h1 : PH := (si (si (si (si (si (si h 31 1 (nI 0)) 36 1 (nI 0)) 41 1 (nI 0)) 30 11 (nI 0)) 30 12 (nI 0)) 30 13 (nI 1)); Q (.inl none) (si (si (si (si h1 30 14 (nI 1)) 30 15 (nI 5)) 30 16 (nI 10)) 30 17 (nI 50)))) :
    MetPM m_X5_reset [.ref 30] h Q := by
  exact met_of o_X5_reset (Nat.le_of_ble_eq_true rfl) (fun q => absurd rfl q) (vg_ok k_X5_reset (stops := []) 84 0 0 _ [] h T)
set_option maxRecDepth 100000 in
set_option maxHeartbeats 4000000 in
theorem t_J0_coder_7d493 {a : Nat} {h : PH} {Q : Res → PH → Prop}
    (T : (((1 : Int32) = 0 → (narrow .byte (.int (nI 1)) = .int (nI 1) ∧ Q (.inl (some (.int (nI 1)))) h)) ∧ (¬ (1 : Int32) = 0 → (cOk a 22 ∧ (narrow .byte (.int (cfv a 1)) = .int (cfv a 1) ∧ Q (.inl (some (.int (cfv a 1)))) h))))) :
    MetPM m_J0_coder_7d493 [.ref a] h Q := by
  exact met_of o_J0_coder_7d493 (Nat.le_of_ble_eq_true rfl) (fun q => absurd rfl q) (vg_ok k_J0_coder_7d493 (stops := []) 57 0 0 _ [] h T)
set_option maxRecDepth 100000 in
set_option maxHeartbeats 4000000 in
theorem t_J0_length_8abf5 {a : Nat} {h : PH} {Q : Res → PH → Prop}
    (T : (cOk a 22 ∧ (cAr (cfr a) 1 ∧ (cOk a 22 ∧ MetPM m_J0_coder_7d493 [.ref a] h (rI (hnd Q (At m_J0_length_8abf5 Q) 0 [some (.ref a)] []) (fun x2 h1 => Q (.inl (some (.int ((nI (cln (cfr a))) >>> (x2 &&& 31))))) h1)))))) :
    MetPM m_J0_length_8abf5 [.ref a] h Q := by
  exact met_of o_J0_length_8abf5 (Nat.le_of_ble_eq_true rfl) (fun q => absurd rfl q) (vg_ok k_J0_length_8abf5 (stops := []) 57 0 0 _ [] h T)
set_option maxRecDepth 100000 in
set_option maxHeartbeats 4000000 in
theorem t_J0_isLatin1_aae02 {a : Nat} {h : PH} {Q : Res → PH → Prop}
    (T : (((1 : Int32) = 0 → (isB (nI 0) ∧ Q (.inl (some (.int (nI 0)))) h)) ∧ (¬ (1 : Int32) = 0 → (cOk a 22 ∧ ((¬ (cfv a 1) = 0 → (isB (nI 0) ∧ Q (.inl (some (.int (nI 0)))) h)) ∧ ((cfv a 1) = 0 → (isB (nI 1) ∧ Q (.inl (some (.int (nI 1)))) h))))))) :
    MetPM m_J0_isLatin1_aae02 [.ref a] h Q := by
  exact met_of o_J0_isLatin1_aae02 (Nat.le_of_ble_eq_true rfl) (fun q => absurd rfl q) (vg_ok k_J0_isLatin1_aae02 (stops := []) 59 0 0 _ [] h T)
set_option maxRecDepth 100000 in
set_option maxHeartbeats 4000000 in
theorem t_J3_checkIndex_8e157_n {p0 : Int32} {p1 : Int32} {h : PH} {Q : Res → PH → Prop}
    (T : ((p0 < 0 → False) ∧ (¬ p0 < 0 → ((p0 < p1 → Q (.inl (some (.int p0))) h) ∧ (¬ p0 < p1 → False))))) :
    MetPM m_J3_checkIndex_8e157 [.int p0, .int p1, .null] h Q := by
  exact met_of o_J3_checkIndex_8e157 (Nat.le_of_ble_eq_true rfl) (fun q => absurd rfl q) (vg_ok k_J3_checkIndex_8e157 (stops := []) 62 0 0 _ [] h T)
set_option maxRecDepth 100000 in
set_option maxHeartbeats 4000000 in
theorem t_J3_checkIndex_8e157_r {p0 : Int32} {p1 : Int32} {h : PH} {Q : Res → PH → Prop}
    (T : ((p0 < 0 → False) ∧ (¬ p0 < 0 → ((p0 < p1 → Q (.inl (some (.int p0))) h) ∧ (¬ p0 < p1 → False))))) :
    MetPM m_J3_checkIndex_8e157 [.int p0, .int p1, .ref 1090] h Q := by
  exact met_of o_J3_checkIndex_8e157 (Nat.le_of_ble_eq_true rfl) (fun q => absurd rfl q) (vg_ok k_J3_checkIndex_8e157 (stops := []) 62 0 0 _ [] h T)
set_option maxRecDepth 100000 in
set_option maxHeartbeats 4000000 in
theorem t_J0_checkIndex_df160 {p0 : Int32} {p1 : Int32} {h : PH} {Q : Res → PH → Prop}
    (T : (MetPM m_J3_checkIndex_8e157 [.int p0, .int p1, .null] h (rI (hnd Q (At m_J0_checkIndex_df160 Q) 0 [some (.int p0), some (.int p1)] []) (fun x2 h1 => Q (.inl none) h1)) ∧ MetPM m_J3_checkIndex_8e157 [.int p0, .int p1, .ref 1090] h (rI (hnd Q (At m_J0_checkIndex_df160 Q) 0 [some (.int p0), some (.int p1)] []) (fun x4 h3 => Q (.inl none) h3)))) :
    MetPM m_J0_checkIndex_df160 [.int p0, .int p1] h Q := by
  exact met_of o_J0_checkIndex_df160 (Nat.le_of_ble_eq_true rfl) (fun q => absurd rfl q) (vg_ok k_J0_checkIndex_df160 (stops := []) 56 0 0 _ [] h T)
set_option maxRecDepth 100000 in
set_option maxHeartbeats 4000000 in
theorem t_J1_charAt_3b067 {b0 : Nat} {p1 : Int32} {h : PH} {Q : Res → PH → Prop}
    (T : (cAr b0 1 ∧ MetPM m_J0_checkIndex_df160 [.int p1, .int (nI (cln b0))] h (rV (hnd Q (At m_J1_charAt_3b067 Q) 0 [some (.ref b0), some (.int p1)] []) (fun h1 => (cAr b0 1 ∧ vp_in p1 (cln b0) ∧ (narrow .char (.int ((((cby b0 p1.toNatClampNeg) &&& (nI 255)).toUInt32 % 65536).toInt32)) = .int ((((cby b0 p1.toNatClampNeg) &&& (nI 255)).toUInt32 % 65536).toInt32) ∧ Q (.inl (some (.int ((((cby b0 p1.toNatClampNeg) &&& (nI 255)).toUInt32 % 65536).toInt32)))) h1)))))) :
    MetPM m_J1_charAt_3b067 [.ref b0, .int p1] h Q := by
  exact met_of o_J1_charAt_3b067 (Nat.le_of_ble_eq_true rfl) (fun q => absurd rfl q) (vg_ok k_J1_charAt_3b067 (stops := []) 61 0 0 _ [] h T)
set_option maxRecDepth 100000 in
set_option maxHeartbeats 4000000 in
theorem t_J0_charAt_5068e {a : Nat} {p0 : Int32} {h : PH} {Q : Res → PH → Prop}
    (T : (cOk a 22 ∧ MetPM m_J0_isLatin1_aae02 [.ref a] h (rI (hnd Q (At m_J0_charAt_5068e Q) 0 [some (.ref a), some (.int p0)] []) (fun x2 h1 => ((x2 = 0 → (cOk a 22 ∧ MetPM m_J2_charAt_3b067 [.ref (cfr a), .int p0] h1 (rI (hnd Q (At m_J0_charAt_5068e Q) 0 [some (.ref a), some (.int p0)] []) (fun x4 h3 => (narrow .char (.int x4) = .int x4 ∧ Q (.inl (some (.int x4))) h3))))) ∧ (¬ x2 = 0 → (cOk a 22 ∧ MetPM m_J1_charAt_3b067 [.ref (cfr a), .int p0] h1 (rI (hnd Q (At m_J0_charAt_5068e Q) 0 [some (.ref a), some (.int p0)] []) (fun x6 h5 => (narrow .char (.int x6) = .int x6 ∧ Q (.inl (some (.int x6))) h5)))))))))) :
    MetPM m_J0_charAt_5068e [.ref a, .int p0] h Q := by
  exact met_of o_J0_charAt_5068e (Nat.le_of_ble_eq_true rfl) (fun q => absurd rfl q) (vg_ok k_J0_charAt_5068e (stops := []) 63 0 0 _ [] h T)
set_option maxRecDepth 100000 in
set_option maxHeartbeats 4000000 in
theorem t_X6_isFull_31 {h : PH} {Q : Res → PH → Prop}
    (T : (((gi h 31 1) < (nI 8) → (isB (nI 0) ∧ Q (.inl (some (.int (nI 0)))) h)) ∧ (¬ (gi h 31 1) < (nI 8) → (isB (nI 1) ∧ Q (.inl (some (.int (nI 1)))) h)))) :
    MetPM m_X6_isFull [.ref 31] h Q := by
  exact met_of o_X6_isFull (Nat.le_of_ble_eq_true rfl) (fun q => absurd rfl q) (vg_ok k_X6_isFull (stops := []) 60 0 0 _ [] h T)
set_option maxRecDepth 100000 in
set_option maxHeartbeats 4000000 in
theorem t_X6_isFull_36 {h : PH} {Q : Res → PH → Prop}
    (T : (((gi h 36 1) < (nI 5) → (isB (nI 0) ∧ Q (.inl (some (.int (nI 0)))) h)) ∧ (¬ (gi h 36 1) < (nI 5) → (isB (nI 1) ∧ Q (.inl (some (.int (nI 1)))) h)))) :
    MetPM m_X6_isFull [.ref 36] h Q := by
  exact met_of o_X6_isFull (Nat.le_of_ble_eq_true rfl) (fun q => absurd rfl q) (vg_ok k_X6_isFull (stops := []) 60 0 0 _ [] h T)
set_option maxRecDepth 100000 in
set_option maxHeartbeats 4000000 in
theorem t_X6_isFull_41 {h : PH} {Q : Res → PH → Prop}
    (T : (((gi h 41 1) < (nI 12) → (isB (nI 0) ∧ Q (.inl (some (.int (nI 0)))) h)) ∧ (¬ (gi h 41 1) < (nI 12) → (isB (nI 1) ∧ Q (.inl (some (.int (nI 1)))) h)))) :
    MetPM m_X6_isFull [.ref 41] h Q := by
  exact met_of o_X6_isFull (Nat.le_of_ble_eq_true rfl) (fun q => absurd rfl q) (vg_ok k_X6_isFull (stops := []) 60 0 0 _ [] h T)
set_option maxRecDepth 100000 in
set_option maxHeartbeats 4000000 in
theorem t_X6_numberOf_16 {p0 : Int64} {h : PH} {Q : Res → PH → Prop}
    (T : At m_X6_numberOf Q 2 0 [some (.ref 16), some (.long p0), none, some (.int (nI 0))] [] h) :
    MetPM m_X6_numberOf [.ref 16, .long p0] h Q := by
  exact met_of o_X6_numberOf (Nat.le_of_ble_eq_true rfl) (fun q => absurd rfl q) (vg_ok k_X6_numberOf (stops := [2]) 69 0 0 _ [] h T)
set_option maxRecDepth 100000 in
set_option maxHeartbeats 4000000 in
theorem u_X6_numberOf_2_16 {v1 : Int64} {v3 : Int32} {h : PH} {Q : Res → PH → Prop}
    (T : (((gi h 16 1) ≤ v3 → Q (.inl (some (.int (-(nI 1))))) h) ∧ (¬ (gi h 16 1) ≤ v3 → (vp_in v3 8 ∧ ((¬ (lg_cmp (gl h 17 v3.toNatClampNeg) v1) = 0 → At m_X6_numberOf Q 2 0 [some (.ref 16), some (.long v1), none, some (.int (v3 + (nI 1)))] [] h) ∧ ((lg_cmp (gl h 17 v3.toNatClampNeg) v1) = 0 → Q (.inl (some (.int v3))) h)))))) :
    At m_X6_numberOf Q 2 0 [some (.ref 16), some (.long v1), none, some (.int v3)] [] h := by
  exact vg_ok k_X6_numberOf (stops := [2]) 69 2 0 _ _ h T
set_option maxRecDepth 100000 in
set_option maxHeartbeats 4000000 in
theorem t_X6_numberOf_26 {p0 : Int64} {h : PH} {Q : Res → PH → Prop}
    (T : At m_X6_numberOf Q 2 0 [some (.ref 26), some (.long p0), none, some (.int (nI 0))] [] h) :
    MetPM m_X6_numberOf [.ref 26, .long p0] h Q := by
  exact met_of o_X6_numberOf (Nat.le_of_ble_eq_true rfl) (fun q => absurd rfl q) (vg_ok k_X6_numberOf (stops := [2]) 69 0 0 _ [] h T)
set_option maxRecDepth 100000 in
set_option maxHeartbeats 4000000 in
theorem u_X6_numberOf_2_26 {v1 : Int64} {v3 : Int32} {h : PH} {Q : Res → PH → Prop}
    (T : (((gi h 26 1) ≤ v3 → Q (.inl (some (.int (-(nI 1))))) h) ∧ (¬ (gi h 26 1) ≤ v3 → (vp_in v3 12 ∧ ((¬ (lg_cmp (gl h 27 v3.toNatClampNeg) v1) = 0 → At m_X6_numberOf Q 2 0 [some (.ref 26), some (.long v1), none, some (.int (v3 + (nI 1)))] [] h) ∧ ((lg_cmp (gl h 27 v3.toNatClampNeg) v1) = 0 → Q (.inl (some (.int v3))) h)))))) :
    At m_X6_numberOf Q 2 0 [some (.ref 26), some (.long v1), none, some (.int v3)] [] h := by
  exact vg_ok k_X6_numberOf (stops := [2]) 69 2 0 _ _ h T
set_option maxRecDepth 100000 in
set_option maxHeartbeats 4000000 in
theorem t_X6_numberOf_31 {p0 : Int64} {h : PH} {Q : Res → PH → Prop}
    (T : At m_X6_numberOf Q 2 0 [some (.ref 31), some (.long p0), none, some (.int (nI 0))] [] h) :
    MetPM m_X6_numberOf [.ref 31, .long p0] h Q := by
  exact met_of o_X6_numberOf (Nat.le_of_ble_eq_true rfl) (fun q => absurd rfl q) (vg_ok k_X6_numberOf (stops := [2]) 69 0 0 _ [] h T)
set_option maxRecDepth 100000 in
set_option maxHeartbeats 4000000 in
theorem u_X6_numberOf_2_31 {v1 : Int64} {v3 : Int32} {h : PH} {Q : Res → PH → Prop}
    (T : (((gi h 31 1) ≤ v3 → Q (.inl (some (.int (-(nI 1))))) h) ∧ (¬ (gi h 31 1) ≤ v3 → (vp_in v3 8 ∧ ((¬ (lg_cmp (gl h 32 v3.toNatClampNeg) v1) = 0 → At m_X6_numberOf Q 2 0 [some (.ref 31), some (.long v1), none, some (.int (v3 + (nI 1)))] [] h) ∧ ((lg_cmp (gl h 32 v3.toNatClampNeg) v1) = 0 → Q (.inl (some (.int v3))) h)))))) :
    At m_X6_numberOf Q 2 0 [some (.ref 31), some (.long v1), none, some (.int v3)] [] h := by
  exact vg_ok k_X6_numberOf (stops := [2]) 69 2 0 _ _ h T
set_option maxRecDepth 100000 in
set_option maxHeartbeats 4000000 in
theorem t_X6_numberOf_36 {p0 : Int64} {h : PH} {Q : Res → PH → Prop}
    (T : At m_X6_numberOf Q 2 0 [some (.ref 36), some (.long p0), none, some (.int (nI 0))] [] h) :
    MetPM m_X6_numberOf [.ref 36, .long p0] h Q := by
  exact met_of o_X6_numberOf (Nat.le_of_ble_eq_true rfl) (fun q => absurd rfl q) (vg_ok k_X6_numberOf (stops := [2]) 69 0 0 _ [] h T)
set_option maxRecDepth 100000 in
set_option maxHeartbeats 4000000 in
theorem u_X6_numberOf_2_36 {v1 : Int64} {v3 : Int32} {h : PH} {Q : Res → PH → Prop}
    (T : (((gi h 36 1) ≤ v3 → Q (.inl (some (.int (-(nI 1))))) h) ∧ (¬ (gi h 36 1) ≤ v3 → (vp_in v3 5 ∧ ((¬ (lg_cmp (gl h 37 v3.toNatClampNeg) v1) = 0 → At m_X6_numberOf Q 2 0 [some (.ref 36), some (.long v1), none, some (.int (v3 + (nI 1)))] [] h) ∧ ((lg_cmp (gl h 37 v3.toNatClampNeg) v1) = 0 → Q (.inl (some (.int v3))) h)))))) :
    At m_X6_numberOf Q 2 0 [some (.ref 36), some (.long v1), none, some (.int v3)] [] h := by
  exact vg_ok k_X6_numberOf (stops := [2]) 69 2 0 _ _ h T
set_option maxRecDepth 100000 in
set_option maxHeartbeats 4000000 in
theorem t_X6_numberOf_41 {p0 : Int64} {h : PH} {Q : Res → PH → Prop}
    (T : At m_X6_numberOf Q 2 0 [some (.ref 41), some (.long p0), none, some (.int (nI 0))] [] h) :
    MetPM m_X6_numberOf [.ref 41, .long p0] h Q := by
  exact met_of o_X6_numberOf (Nat.le_of_ble_eq_true rfl) (fun q => absurd rfl q) (vg_ok k_X6_numberOf (stops := [2]) 69 0 0 _ [] h T)
set_option maxRecDepth 100000 in
set_option maxHeartbeats 4000000 in
theorem u_X6_numberOf_2_41 {v1 : Int64} {v3 : Int32} {h : PH} {Q : Res → PH → Prop}
    (T : (((gi h 41 1) ≤ v3 → Q (.inl (some (.int (-(nI 1))))) h) ∧ (¬ (gi h 41 1) ≤ v3 → (vp_in v3 12 ∧ ((¬ (lg_cmp (gl h 42 v3.toNatClampNeg) v1) = 0 → At m_X6_numberOf Q 2 0 [some (.ref 41), some (.long v1), none, some (.int (v3 + (nI 1)))] [] h) ∧ ((lg_cmp (gl h 42 v3.toNatClampNeg) v1) = 0 → Q (.inl (some (.int v3))) h)))))) :
    At m_X6_numberOf Q 2 0 [some (.ref 41), some (.long v1), none, some (.int v3)] [] h := by
  exact vg_ok k_X6_numberOf (stops := [2]) 69 2 0 _ _ h T
set_option maxRecDepth 100000 in
set_option maxHeartbeats 4000000 in
theorem t_X6_add_31 {p0 : Int64} {h : PH} {Q : Res → PH → Prop}
    (T : (((nI 8) ≤ (gi h 31 1) → Q (.inl none) h) ∧ (¬ (nI 8) ≤ (gi h 31 1) → (vp_in (gi h 31 1) 8 ∧ (let h1 : PH := (si (sl h 32 (gi h 31 1).toNatClampNeg p0) 31 1 ((gi (sl h 32 (gi h 31 1).toNatClampNeg p0) 31 1) + (nI 1))); Q (.inl none) h1))))) :
    MetPM m_X6_add [.ref 31, .long p0] h Q := by
  exact met_of o_X6_add (Nat.le_of_ble_eq_true rfl) (fun q => absurd rfl q) (vg_ok k_X6_add (stops := []) 69 0 0 _ [] h T)
set_option maxRecDepth 100000 in
set_option maxHeartbeats 4000000 in
theorem t_X6_add_36 {p0 : Int64} {h : PH} {Q : Res → PH → Prop}
    (T : (((nI 5) ≤ (gi h 36 1) → Q (.inl none) h) ∧ (¬ (nI 5) ≤ (gi h 36 1) → (vp_in (gi h 36 1) 5 ∧ (let h1 : PH := (si (sl h 37 (gi h 36 1).toNatClampNeg p0) 36 1 ((gi (sl h 37 (gi h 36 1).toNatClampNeg p0) 36 1) + (nI 1))); Q (.inl none) h1))))) :
    MetPM m_X6_add [.ref 36, .long p0] h Q := by
  exact met_of o_X6_add (Nat.le_of_ble_eq_true rfl) (fun q => absurd rfl q) (vg_ok k_X6_add (stops := []) 69 0 0 _ [] h T)
set_option maxRecDepth 100000 in
set_option maxHeartbeats 4000000 in
theorem t_X6_add_41 {p0 : Int64} {h : PH} {Q : Res → PH → Prop}
    (T : (((nI 12) ≤ (gi h 41 1) → Q (.inl none) h) ∧ (¬ (nI 12) ≤ (gi h 41 1) → (vp_in (gi h 41 1) 12 ∧ (let h1 : PH := (si (sl h 42 (gi h 41 1).toNatClampNeg p0) 41 1 ((gi (sl h 42 (gi h 41 1).toNatClampNeg p0) 41 1) + (nI 1))); Q (.inl none) h1))))) :
    MetPM m_X6_add [.ref 41, .long p0] h Q := by
  exact met_of o_X6_add (Nat.le_of_ble_eq_true rfl) (fun q => absurd rfl q) (vg_ok k_X6_add (stops := []) 69 0 0 _ [] h T)
set_option maxRecDepth 100000 in
set_option maxHeartbeats 4000000 in
theorem t_X5_addVersion {p0 : Int64} {p1 : Int32} {p2 : Int32} {h : PH} {Q : Res → PH → Prop}
    (T : (((nI 8) ≤ (gi h 31 1) → Q (.inl none) h) ∧ (¬ (nI 8) ≤ (gi h 31 1) → MetPM m_X6_add [.ref 31, .long p0] h (rV (hnd Q (At m_X5_addVersion Q) 0 [some (.ref 30), some (.long p0), none, some (.int p1), some (.int p2), some (.int (gi h 31 1))] []) (fun h1 => (vp_in (gi h 31 1) 8 ∧ (vp_in (gi h 31 1) 8 ∧ (vp_in (gi h 31 1) 8 ∧ (let h2 : PH := (si (si (si h1 33 (gi h 31 1).toNatClampNeg p1) 34 (gi h 31 1).toNatClampNeg p2) 35 (gi h 31 1).toNatClampNeg ((nI 1) <<< ((gi h 31 1) &&& 31))); Q (.inl none) h2))))))))) :
    MetPM m_X5_addVersion [.ref 30, .long p0, .int p1, .int p2] h Q := by
  exact met_of o_X5_addVersion (Nat.le_of_ble_eq_true rfl) (fun q => absurd rfl q) (vg_ok k_X5_addVersion (stops := []) 79 0 0 _ [] h T)
set_option maxRecDepth 100000 in
set_option maxHeartbeats 4000000 in
theorem t_X5_talkersOf {a : Nat} (ha : a = 15 ∨ a = 30) {p0 : Int32} {h : PH} {Q : Res → PH → Prop}
    (T : ((p0 < 0 → Q (.inl (some (.int (nI 0)))) h) ∧ (¬ p0 < 0 → (((gi h (a + 1) 1) ≤ p0 → Q (.inl (some (.int (nI 0)))) h) ∧ (¬ (gi h (a + 1) 1) ≤ p0 → (vp_in p0 8 ∧ Q (.inl (some (.int (gi h (a + 5) p0.toNatClampNeg)))) h)))))) :
    MetPM m_X5_talkersOf [.ref a, .int p0] h Q := by
  rcases ha with rfl | rfl
  all_goals exact met_of o_X5_talkersOf (Nat.le_of_ble_eq_true rfl) (fun q => absurd rfl q) (vg_ok k_X5_talkersOf (stops := []) 64 0 0 _ [] h T)
set_option maxRecDepth 100000 in
set_option maxHeartbeats 4000000 in
theorem t_X11_isIn {p0 : Int32} {p1 : Int32} {h : PH} {Q : Res → PH → Prop}
    (T : ((((p0 >>> (p1 &&& 31)) &&& (nI 1)) = 0 → (isB (nI 0) ∧ Q (.inl (some (.int (nI 0)))) h)) ∧ (¬ ((p0 >>> (p1 &&& 31)) &&& (nI 1)) = 0 → (isB (nI 1) ∧ Q (.inl (some (.int (nI 1)))) h)))) :
    MetPM m_X11_isIn [.int p0, .int p1] h Q := by
  exact met_of o_X11_isIn (Nat.le_of_ble_eq_true rfl) (fun q => absurd rfl q) (vg_ok k_X11_isIn (stops := []) 60 0 0 _ [] h T)
set_option maxRecDepth 100000 in
set_option maxHeartbeats 4000000 in
theorem t_X5_addTalk {p0 : Int32} {p1 : Int32} {h : PH} {Q : Res → PH → Prop}
    (T : (vp_in p0 8 ∧ (vp_in p0 8 ∧ (vp_in p1 8 ∧ (let y1 : Int32 := (gi (si h 35 p0.toNatClampNeg ((gi h 35 p0.toNatClampNeg) ||| ((nI 1) <<< (p1 &&& 31)))) 35 p1.toNatClampNeg); (vp_in p1 8 ∧ (let h2 : PH := (si (si h 35 p0.toNatClampNeg ((gi h 35 p0.toNatClampNeg) ||| ((nI 1) <<< (p1 &&& 31)))) 35 p1.toNatClampNeg (y1 ||| ((nI 1) <<< (p0 &&& 31)))); Q (.inl none) h2))))))) :
    MetPM m_X5_addTalk [.ref 30, .int p0, .int p1] h Q := by
  exact met_of o_X5_addTalk (Nat.le_of_ble_eq_true rfl) (fun q => absurd rfl q) (vg_ok k_X5_addTalk (stops := []) 71 0 0 _ [] h T)
set_option maxRecDepth 100000 in
set_option maxHeartbeats 4000000 in
theorem t_X5_addPlace {p0 : Int64} {h : PH} {Q : Res → PH → Prop}
    (T : (((nI 5) ≤ (gi h 36 1) → Q (.inl none) h) ∧ (¬ (nI 5) ≤ (gi h 36 1) → MetPM m_X6_add [.ref 36, .long p0] h (rV (hnd Q (At m_X5_addPlace Q) 0 [some (.ref 30), some (.long p0), none, some (.int (gi h 36 1))] []) (fun h1 => (vp_in (gi h 36 1) 5 ∧ (vp_in (gi h 36 1) 5 ∧ Q (.inl none) (si (si h1 38 (gi h 36 1).toNatClampNeg (-(nI 1))) 39 (gi h 36 1).toNatClampNeg (nI 0))))))))) :
    MetPM m_X5_addPlace [.ref 30, .long p0] h Q := by
  exact met_of o_X5_addPlace (Nat.le_of_ble_eq_true rfl) (fun q => absurd rfl q) (vg_ok k_X5_addPlace (stops := []) 72 0 0 _ [] h T)
set_option maxRecDepth 100000 in
set_option maxHeartbeats 4000000 in
theorem t_X5_isReader {a : Nat} (ha : a = 15 ∨ a = 30) {p0 : Int32} {p1 : Int32} {h : PH} {Q : Res → PH → Prop}
    (T : ((p0 < 0 → (isB (nI 0) ∧ Q (.inl (some (.int (nI 0)))) h)) ∧ (¬ p0 < 0 → (((gi h (a + 1) 1) ≤ p0 → (isB (nI 0) ∧ Q (.inl (some (.int (nI 0)))) h)) ∧ (¬ (gi h (a + 1) 1) ≤ p0 → (vp_in p0 8 ∧ ((p1 < (gi h (a + 3) p0.toNatClampNeg) → (isB (nI 0) ∧ Q (.inl (some (.int (nI 0)))) h)) ∧ (¬ p1 < (gi h (a + 3) p0.toNatClampNeg) → (vp_in p0 8 ∧ (((gi h (a + 4) p0.toNatClampNeg) < p1 → (isB (nI 0) ∧ Q (.inl (some (.int (nI 0)))) h)) ∧ (¬ (gi h (a + 4) p0.toNatClampNeg) < p1 → (isB (nI 1) ∧ Q (.inl (some (.int (nI 1)))) h)))))))))))) :
    MetPM m_X5_isReader [.ref a, .int p0, .int p1] h Q := by
  rcases ha with rfl | rfl
  all_goals exact met_of o_X5_isReader (Nat.le_of_ble_eq_true rfl) (fun q => absurd rfl q) (vg_ok k_X5_isReader (stops := []) 73 0 0 _ [] h T)
set_option maxRecDepth 100000 in
set_option maxHeartbeats 4000000 in
theorem t_X5_join {p0 : Int32} {p1 : Int32} {h : PH} {Q : Res → PH → Prop}
    (T : (vp_in p0 12 ∧ (vp_in p0 12 ∧ (vp_in p1 12 ∧ (let y1 : Int32 := (gi (si h 44 p0.toNatClampNeg ((gi h 44 p0.toNatClampNeg) ||| ((nI 1) <<< (p1 &&& 31)))) 44 p1.toNatClampNeg); (vp_in p1 12 ∧ (let h2 : PH := (si (si h 44 p0.toNatClampNeg ((gi h 44 p0.toNatClampNeg) ||| ((nI 1) <<< (p1 &&& 31)))) 44 p1.toNatClampNeg (y1 ||| ((nI 1) <<< (p0 &&& 31)))); Q (.inl none) h2))))))) :
    MetPM m_X5_join [.ref 30, .int p0, .int p1] h Q := by
  exact met_of o_X5_join (Nat.le_of_ble_eq_true rfl) (fun q => absurd rfl q) (vg_ok k_X5_join (stops := []) 71 0 0 _ [] h T)
set_option maxRecDepth 100000 in
set_option maxHeartbeats 4000000 in
theorem t_X5_addMember {p0 : Int64} {p1 : Int32} {h : PH} {Q : Res → PH → Prop}
    (T : (((gi h 41 1) < (nI 12) → MetPM m_X6_add [.ref 41, .long p0] h (rV (hnd Q (At m_X5_addMember Q) 0 [some (.ref 30), some (.long p0), none, some (.int p1), some (.int (gi h 41 1)), none] []) (fun h1 => (vp_in (gi h 41 1) 12 ∧ (vp_in (gi h 41 1) 12 ∧ At m_X5_addMember Q 44 0 [some (.ref 30), some (.long p0), none, some (.int p1), some (.int (gi h 41 1)), some (.int (nI 0))] [] (si (si h1 43 (gi h 41 1).toNatClampNeg p1) 44 (gi h 41 1).toNatClampNeg (nI 0))))))) ∧ (¬ (gi h 41 1) < (nI 12) → Q (.inl none) h))) :
    MetPM m_X5_addMember [.ref 30, .long p0, .int p1] h Q := by
  exact met_of o_X5_addMember (Nat.le_of_ble_eq_true rfl) (fun q => absurd rfl q) (vg_ok k_X5_addMember (stops := [44, 70, 125]) 121 0 0 _ [] h T)
set_option maxRecDepth 100000 in
set_option maxHeartbeats 4000000 in
theorem u_X5_addMember_44 {v1 : Int64} {v3 : Int32} {v4 : Int32} {v5 : Int32} {h : PH} {Q : Res → PH → Prop}
    (T : ((v4 ≤ v5 → (vp_in v3 5 ∧ (vp_in v3 5 ∧ (vp_in v3 5 ∧ (let y1 : Int32 := (gi (si h 39 v3.toNatClampNeg ((gi h 39 v3.toNatClampNeg) ||| ((nI 1) <<< (v4 &&& 31)))) 38 v3.toNatClampNeg); ((y1 < 0 → At m_X5_addMember Q 125 0 [some (.ref 30), some (.long v1), none, some (.int v3), some (.int v4), some (.int y1)] [] (si h 39 v3.toNatClampNeg ((gi h 39 v3.toNatClampNeg) ||| ((nI 1) <<< (v4 &&& 31))))) ∧ (¬ y1 < 0 → (let y2 : Int32 := (gi (si h 39 v3.toNatClampNeg ((gi h 39 v3.toNatClampNeg) ||| ((nI 1) <<< (v4 &&& 31)))) 30 12); ((y2 ≤ y1 → At m_X5_addMember Q 125 0 [some (.ref 30), some (.long v1), none, some (.int v3), some (.int v4), some (.int y1)] [] (si h 39 v3.toNatClampNeg ((gi h 39 v3.toNatClampNeg) ||| ((nI 1) <<< (v4 &&& 31))))) ∧ (¬ y2 ≤ y1 → (vp_in y1 5 ∧ (let y3 : Int32 := (gi (si h 39 v3.toNatClampNeg ((gi h 39 v3.toNatClampNeg) ||| ((nI 1) <<< (v4 &&& 31)))) 40 y1.toNatClampNeg); (vp_in y1 5 ∧ (let h4 : PH := (si (si h 39 v3.toNatClampNeg ((gi h 39 v3.toNatClampNeg) ||| ((nI 1) <<< (v4 &&& 31)))) 40 y1.toNatClampNeg (y3 ||| ((nI 1) <<< (v4 &&& 31)))); At m_X5_addMember Q 125 0 [some (.ref 30), some (.long v1), none, some (.int v3), some (.int v4), some (.int y1)] [] h4)))))))))))))) ∧ (¬ v4 ≤ v5 → (vp_in v5 12 ∧ ((¬ (gi h 43 v5.toNatClampNeg) = v3 → At m_X5_addMember Q 70 0 [some (.ref 30), some (.long v1), none, some (.int v3), some (.int v4), some (.int v5)] [] h) ∧ ((gi h 43 v5.toNatClampNeg) = v3 → MetPM m_X5_join [.ref 30, .int v4, .int v5] h (rV (hnd Q (At m_X5_addMember Q) 0 [some (.ref 30), some (.long v1), none, some (.int v3), some (.int v4), some (.int v5)] []) (fun h5 => At m_X5_addMember Q 70 0 [some (.ref 30), some (.long v1), none, some (.int v3), some (.int v4), some (.int v5)] [] h5)))))))) :
    At m_X5_addMember Q 44 0 [some (.ref 30), some (.long v1), none, some (.int v3), some (.int v4), some (.int v5)] [] h := by
  exact vg_ok k_X5_addMember (stops := [44, 70, 125]) 121 44 0 _ _ h T
set_option maxRecDepth 100000 in
set_option maxHeartbeats 4000000 in
theorem u_X5_addMember_70 {v1 : Int64} {v3 : Int32} {v4 : Int32} {v5 : Int32} {h : PH} {Q : Res → PH → Prop}
    (T : At m_X5_addMember Q 44 0 [some (.ref 30), some (.long v1), none, some (.int v3), some (.int v4), some (.int (v5 + (nI 1)))] [] h) :
    At m_X5_addMember Q 70 0 [some (.ref 30), some (.long v1), none, some (.int v3), some (.int v4), some (.int v5)] [] h := by
  exact vg_ok k_X5_addMember (stops := [44, 70, 125]) 121 70 0 _ _ h T
set_option maxRecDepth 100000 in
set_option maxHeartbeats 4000000 in
theorem u_X5_addMember_125 {v1 : Int64} {v3 : Int32} {v4 : Int32} {v5 : Int32} {h : PH} {Q : Res → PH → Prop}
    (T : Q (.inl none) h) :
    At m_X5_addMember Q 125 0 [some (.ref 30), some (.long v1), none, some (.int v3), some (.int v4), some (.int v5)] [] h := by
  exact vg_ok k_X5_addMember (stops := [44, 70, 125]) 121 125 0 _ _ h T
set_option maxRecDepth 100000 in
set_option maxHeartbeats 4000000 in
theorem t_X5_addLink {p0 : Int32} {p1 : Int32} {h : PH} {Q : Res → PH → Prop}
    (T : MetPM m_X5_join [.ref 30, .int p0, .int p1] h (rV (hnd Q (At m_X5_addLink Q) 0 [some (.ref 30), some (.int p0), some (.int p1)] []) (fun h1 => Q (.inl none) (si h1 30 11 ((gi h1 30 11) + (nI 1)))))) :
    MetPM m_X5_addLink [.ref 30, .int p0, .int p1] h Q := by
  exact met_of o_X5_addLink (Nat.le_of_ble_eq_true rfl) (fun q => absurd rfl q) (vg_ok k_X5_addLink (stops := []) 61 0 0 _ [] h T)
set_option maxRecDepth 100000 in
set_option maxHeartbeats 4000000 in
theorem t_X5_addWave {h : PH} {Q : Res → PH → Prop}
    (T : (((nI 5) ≤ (gi h 30 12) → Q (.inl none) h) ∧ (¬ (nI 5) ≤ (gi h 30 12) → (vp_in (gi h 30 12) 5 ∧ (let h1 : PH := (si (si h 40 (gi h 30 12).toNatClampNeg (nI 0)) 30 12 ((gi (si h 40 (gi h 30 12).toNatClampNeg (nI 0)) 30 12) + (nI 1))); Q (.inl none) h1))))) :
    MetPM m_X5_addWave [.ref 30] h Q := by
  exact met_of o_X5_addWave (Nat.le_of_ble_eq_true rfl) (fun q => absurd rfl q) (vg_ok k_X5_addWave (stops := []) 67 0 0 _ [] h T)
set_option maxRecDepth 100000 in
set_option maxHeartbeats 4000000 in
theorem t_X5_addToWave {p0 : Int32} {p1 : Int32} {h : PH} {Q : Res → PH → Prop}
    (T : (vp_in p0 5 ∧ (vp_in p1 5 ∧ (vp_in p0 5 ∧ (let y1 : Int32 := ((gi (si h 38 p0.toNatClampNeg p1) 40 p1.toNatClampNeg) ||| (gi (si h 38 p0.toNatClampNeg p1) 39 p0.toNatClampNeg)); (vp_in p1 5 ∧ Q (.inl none) (si (si h 38 p0.toNatClampNeg p1) 40 p1.toNatClampNeg y1))))))) :
    MetPM m_X5_addToWave [.ref 30, .int p0, .int p1] h Q := by
  exact met_of o_X5_addToWave (Nat.le_of_ble_eq_true rfl) (fun q => absurd rfl q) (vg_ok k_X5_addToWave (stops := []) 67 0 0 _ [] h T)
set_option maxRecDepth 100000 in
set_option maxHeartbeats 4000000 in
theorem t_X6_copyFrom_16_31 {h : PH} {Q : Res → PH → Prop}
    (T : ((¬ (nI 0) < 0 ∧ ¬ (nI 0) < 0 ∧ ¬ (if (nI 8) < (nI 8) then (nI 8) else (nI 8)) < 0 ∧ (nI 0).toNatClampNeg + (if (nI 8) < (nI 8) then (nI 8) else (nI 8)).toNatClampNeg ≤ 8 ∧ (nI 0).toNatClampNeg + (if (nI 8) < (nI 8) then (nI 8) else (nI 8)).toNatClampNeg ≤ 8) ∧ (let h1 : PH := (cpl h 32 (nI 0).toNatClampNeg 17 (nI 0).toNatClampNeg (if (nI 8) < (nI 8) then (nI 8) else (nI 8)).toNatClampNeg); Q (.inl none) (si h1 16 1 (gi h1 31 1))))) :
    MetPM m_X6_copyFrom [.ref 16, .ref 31] h Q := by
  exact met_of o_X6_copyFrom (Nat.le_of_ble_eq_true rfl) (fun q => absurd rfl q) (vg_ok k_X6_copyFrom (stops := []) 69 0 0 _ [] h T)
set_option maxRecDepth 100000 in
set_option maxHeartbeats 4000000 in
theorem t_X6_copyFrom_21_36 {h : PH} {Q : Res → PH → Prop}
    (T : ((¬ (nI 0) < 0 ∧ ¬ (nI 0) < 0 ∧ ¬ (if (nI 5) < (nI 5) then (nI 5) else (nI 5)) < 0 ∧ (nI 0).toNatClampNeg + (if (nI 5) < (nI 5) then (nI 5) else (nI 5)).toNatClampNeg ≤ 5 ∧ (nI 0).toNatClampNeg + (if (nI 5) < (nI 5) then (nI 5) else (nI 5)).toNatClampNeg ≤ 5) ∧ (let h1 : PH := (cpl h 37 (nI 0).toNatClampNeg 22 (nI 0).toNatClampNeg (if (nI 5) < (nI 5) then (nI 5) else (nI 5)).toNatClampNeg); Q (.inl none) (si h1 21 1 (gi h1 36 1))))) :
    MetPM m_X6_copyFrom [.ref 21, .ref 36] h Q := by
  exact met_of o_X6_copyFrom (Nat.le_of_ble_eq_true rfl) (fun q => absurd rfl q) (vg_ok k_X6_copyFrom (stops := []) 69 0 0 _ [] h T)
set_option maxRecDepth 100000 in
set_option maxHeartbeats 4000000 in
theorem t_X6_copyFrom_26_41 {h : PH} {Q : Res → PH → Prop}
    (T : ((¬ (nI 0) < 0 ∧ ¬ (nI 0) < 0 ∧ ¬ (if (nI 12) < (nI 12) then (nI 12) else (nI 12)) < 0 ∧ (nI 0).toNatClampNeg + (if (nI 12) < (nI 12) then (nI 12) else (nI 12)).toNatClampNeg ≤ 12 ∧ (nI 0).toNatClampNeg + (if (nI 12) < (nI 12) then (nI 12) else (nI 12)).toNatClampNeg ≤ 12) ∧ (let h1 : PH := (cpl h 42 (nI 0).toNatClampNeg 27 (nI 0).toNatClampNeg (if (nI 12) < (nI 12) then (nI 12) else (nI 12)).toNatClampNeg); Q (.inl none) (si h1 26 1 (gi h1 41 1))))) :
    MetPM m_X6_copyFrom [.ref 26, .ref 41] h Q := by
  exact met_of o_X6_copyFrom (Nat.le_of_ble_eq_true rfl) (fun q => absurd rfl q) (vg_ok k_X6_copyFrom (stops := []) 69 0 0 _ [] h T)
set_option maxRecDepth 100000 in
set_option maxHeartbeats 4000000 in
theorem t_X6_copyFrom_46_16 {h : PH} {Q : Res → PH → Prop}
    (T : ((¬ (nI 0) < 0 ∧ ¬ (nI 0) < 0 ∧ ¬ (if (nI 8) < (nI 8) then (nI 8) else (nI 8)) < 0 ∧ (nI 0).toNatClampNeg + (if (nI 8) < (nI 8) then (nI 8) else (nI 8)).toNatClampNeg ≤ 8 ∧ (nI 0).toNatClampNeg + (if (nI 8) < (nI 8) then (nI 8) else (nI 8)).toNatClampNeg ≤ 8) ∧ (let h1 : PH := (cpl h 17 (nI 0).toNatClampNeg 47 (nI 0).toNatClampNeg (if (nI 8) < (nI 8) then (nI 8) else (nI 8)).toNatClampNeg); Q (.inl none) (si h1 46 1 (gi h1 16 1))))) :
    MetPM m_X6_copyFrom [.ref 46, .ref 16] h Q := by
  exact met_of o_X6_copyFrom (Nat.le_of_ble_eq_true rfl) (fun q => absurd rfl q) (vg_ok k_X6_copyFrom (stops := []) 69 0 0 _ [] h T)
set_option maxRecDepth 100000 in
set_option maxHeartbeats 4000000 in
theorem t_X6_copyFrom_51_21 {h : PH} {Q : Res → PH → Prop}
    (T : ((¬ (nI 0) < 0 ∧ ¬ (nI 0) < 0 ∧ ¬ (if (nI 5) < (nI 5) then (nI 5) else (nI 5)) < 0 ∧ (nI 0).toNatClampNeg + (if (nI 5) < (nI 5) then (nI 5) else (nI 5)).toNatClampNeg ≤ 5 ∧ (nI 0).toNatClampNeg + (if (nI 5) < (nI 5) then (nI 5) else (nI 5)).toNatClampNeg ≤ 5) ∧ (let h1 : PH := (cpl h 22 (nI 0).toNatClampNeg 52 (nI 0).toNatClampNeg (if (nI 5) < (nI 5) then (nI 5) else (nI 5)).toNatClampNeg); Q (.inl none) (si h1 51 1 (gi h1 21 1))))) :
    MetPM m_X6_copyFrom [.ref 51, .ref 21] h Q := by
  exact met_of o_X6_copyFrom (Nat.le_of_ble_eq_true rfl) (fun q => absurd rfl q) (vg_ok k_X6_copyFrom (stops := []) 69 0 0 _ [] h T)
set_option maxRecDepth 100000 in
set_option maxHeartbeats 4000000 in
theorem t_X6_copyFrom_56_26 {h : PH} {Q : Res → PH → Prop}
    (T : ((¬ (nI 0) < 0 ∧ ¬ (nI 0) < 0 ∧ ¬ (if (nI 12) < (nI 12) then (nI 12) else (nI 12)) < 0 ∧ (nI 0).toNatClampNeg + (if (nI 12) < (nI 12) then (nI 12) else (nI 12)).toNatClampNeg ≤ 12 ∧ (nI 0).toNatClampNeg + (if (nI 12) < (nI 12) then (nI 12) else (nI 12)).toNatClampNeg ≤ 12) ∧ (let h1 : PH := (cpl h 27 (nI 0).toNatClampNeg 57 (nI 0).toNatClampNeg (if (nI 12) < (nI 12) then (nI 12) else (nI 12)).toNatClampNeg); Q (.inl none) (si h1 56 1 (gi h1 26 1))))) :
    MetPM m_X6_copyFrom [.ref 56, .ref 26] h Q := by
  exact met_of o_X6_copyFrom (Nat.le_of_ble_eq_true rfl) (fun q => absurd rfl q) (vg_ok k_X6_copyFrom (stops := []) 69 0 0 _ [] h T)
set_option maxRecDepth 100000 in
set_option maxHeartbeats 4000000 in
theorem t_X6_copyFrom_16_46 {h : PH} {Q : Res → PH → Prop}
    (T : ((¬ (nI 0) < 0 ∧ ¬ (nI 0) < 0 ∧ ¬ (if (nI 8) < (nI 8) then (nI 8) else (nI 8)) < 0 ∧ (nI 0).toNatClampNeg + (if (nI 8) < (nI 8) then (nI 8) else (nI 8)).toNatClampNeg ≤ 8 ∧ (nI 0).toNatClampNeg + (if (nI 8) < (nI 8) then (nI 8) else (nI 8)).toNatClampNeg ≤ 8) ∧ (let h1 : PH := (cpl h 47 (nI 0).toNatClampNeg 17 (nI 0).toNatClampNeg (if (nI 8) < (nI 8) then (nI 8) else (nI 8)).toNatClampNeg); Q (.inl none) (si h1 16 1 (gi h1 46 1))))) :
    MetPM m_X6_copyFrom [.ref 16, .ref 46] h Q := by
  exact met_of o_X6_copyFrom (Nat.le_of_ble_eq_true rfl) (fun q => absurd rfl q) (vg_ok k_X6_copyFrom (stops := []) 69 0 0 _ [] h T)
set_option maxRecDepth 100000 in
set_option maxHeartbeats 4000000 in
theorem t_X6_copyFrom_21_51 {h : PH} {Q : Res → PH → Prop}
    (T : ((¬ (nI 0) < 0 ∧ ¬ (nI 0) < 0 ∧ ¬ (if (nI 5) < (nI 5) then (nI 5) else (nI 5)) < 0 ∧ (nI 0).toNatClampNeg + (if (nI 5) < (nI 5) then (nI 5) else (nI 5)).toNatClampNeg ≤ 5 ∧ (nI 0).toNatClampNeg + (if (nI 5) < (nI 5) then (nI 5) else (nI 5)).toNatClampNeg ≤ 5) ∧ (let h1 : PH := (cpl h 52 (nI 0).toNatClampNeg 22 (nI 0).toNatClampNeg (if (nI 5) < (nI 5) then (nI 5) else (nI 5)).toNatClampNeg); Q (.inl none) (si h1 21 1 (gi h1 51 1))))) :
    MetPM m_X6_copyFrom [.ref 21, .ref 51] h Q := by
  exact met_of o_X6_copyFrom (Nat.le_of_ble_eq_true rfl) (fun q => absurd rfl q) (vg_ok k_X6_copyFrom (stops := []) 69 0 0 _ [] h T)
set_option maxRecDepth 100000 in
set_option maxHeartbeats 4000000 in
theorem t_X6_copyFrom_26_56 {h : PH} {Q : Res → PH → Prop}
    (T : ((¬ (nI 0) < 0 ∧ ¬ (nI 0) < 0 ∧ ¬ (if (nI 12) < (nI 12) then (nI 12) else (nI 12)) < 0 ∧ (nI 0).toNatClampNeg + (if (nI 12) < (nI 12) then (nI 12) else (nI 12)).toNatClampNeg ≤ 12 ∧ (nI 0).toNatClampNeg + (if (nI 12) < (nI 12) then (nI 12) else (nI 12)).toNatClampNeg ≤ 12) ∧ (let h1 : PH := (cpl h 57 (nI 0).toNatClampNeg 27 (nI 0).toNatClampNeg (if (nI 12) < (nI 12) then (nI 12) else (nI 12)).toNatClampNeg); Q (.inl none) (si h1 26 1 (gi h1 56 1))))) :
    MetPM m_X6_copyFrom [.ref 26, .ref 56] h Q := by
  exact met_of o_X6_copyFrom (Nat.le_of_ble_eq_true rfl) (fun q => absurd rfl q) (vg_ok k_X6_copyFrom (stops := []) 69 0 0 _ [] h T)
set_option maxRecDepth 100000 in
set_option maxHeartbeats 4000000 in
theorem t_X5_copyFrom {a b0 : Nat} (hab : (a = 15 ∧ b0 = 30) ∨ (a = 45 ∧ b0 = 15) ∨ (a = 15 ∧ b0 = 45)) {h : PH} {Q : Res → PH → Prop}
    (T : MetPM m_X6_copyFrom [.ref (a + 1), .ref (b0 + 1)] h (rV (hnd Q (At m_X5_copyFrom Q) 0 [some (.ref a), some (.ref b0)] []) (fun h1 => MetPM m_X11_copyRow [.ref (b0 + 3), .ref (a + 3)] h1 (rV (hnd Q (At m_X5_copyFrom Q) 0 [some (.ref a), some (.ref b0)] []) (fun h2 => MetPM m_X11_copyRow [.ref (b0 + 4), .ref (a + 4)] h2 (rV (hnd Q (At m_X5_copyFrom Q) 0 [some (.ref a), some (.ref b0)] []) (fun h3 => MetPM m_X11_copyRow [.ref (b0 + 5), .ref (a + 5)] h3 (rV (hnd Q (At m_X5_copyFrom Q) 0 [some (.ref a), some (.ref b0)] []) (fun h4 => MetPM m_X6_copyFrom [.ref (a + 6), .ref (b0 + 6)] h4 (rV (hnd Q (At m_X5_copyFrom Q) 0 [some (.ref a), some (.ref b0)] []) (fun h5 => MetPM m_X11_copyRow [.ref (b0 + 8), .ref (a + 8)] h5 (rV (hnd Q (At m_X5_copyFrom Q) 0 [some (.ref a), some (.ref b0)] []) (fun h6 => MetPM m_X11_copyRow [.ref (b0 + 9), .ref (a + 9)] h6 (rV (hnd Q (At m_X5_copyFrom Q) 0 [some (.ref a), some (.ref b0)] []) (fun h7 => MetPM m_X11_copyRow [.ref (b0 + 10), .ref (a + 10)] h7 (rV (hnd Q (At m_X5_copyFrom Q) 0 [some (.ref a), some (.ref b0)] []) (fun h8 => MetPM m_X6_copyFrom [.ref (a + 11), .ref (b0 + 11)] h8 (rV (hnd Q (At m_X5_copyFrom Q) 0 [some (.ref a), some (.ref b0)] []) (fun h9 => MetPM m_X11_copyRow [.ref (b0 + 13), .ref (a + 13)] h9 (rV (hnd Q (At m_X5_copyFrom Q) 0 [some (.ref a), some (.ref b0)] []) (fun h10 => MetPM m_X11_copyRow [.ref (b0 + 14), .ref (a + 14)] h10 (rV (hnd Q (At m_X5_copyFrom Q) 0 [some (.ref a), some (.ref b0)] []) (fun h11 => (let h12 : PH := (si (si (si h11 a 11 (gi h11 b0 11)) a 12 (gi (si h11 a 11 (gi h11 b0 11)) b0 12)) a 13 (gi (si (si h11 a 11 (gi h11 b0 11)) a 12 (gi (si h11 a 11 (gi h11 b0 11)) b0 12)) b0 13)); (let h13 : PH := (si (si (si h12 a 14 (gi h12 b0 14)) a 15 (gi (si h12 a 14 (gi h12 b0 14)) b0 15)) a 16 (gi (si (si h12 a 14 (gi h12 b0 14)) a 15 (gi (si h12 a 14 (gi h12 b0 14)) b0 15)) b0 16)); Q (.inl none) (si h13 a 17 (gi h13 b0 17))))))))))))))))))))))))))) :
    MetPM m_X5_copyFrom [.ref a, .ref b0] h Q := by
  rcases hab with ⟨rfl, rfl⟩ | ⟨rfl, rfl⟩ | ⟨rfl, rfl⟩
  all_goals exact met_of o_X5_copyFrom (Nat.le_of_ble_eq_true rfl) (fun q => absurd rfl q) (vg_ok k_X5_copyFrom (stops := []) 134 0 0 _ [] h T)
set_option maxRecDepth 100000 in
set_option maxHeartbeats 4000000 in
theorem t_X3_copyFrom {a b0 : Nat} (hab : (a = 72 ∧ b0 = 65) ∨ (a = 65 ∧ b0 = 79) ∨ (a = 86 ∧ b0 = 65) ∨ (a = 65 ∧ b0 = 86) ∨ (a = 93 ∧ b0 = 65) ∨ (a = 100 ∧ b0 = 65) ∨ (a = 107 ∧ b0 = 65) ∨ (a = 114 ∧ b0 = 65) ∨ (a = 121 ∧ b0 = 65) ∨ (a = 128 ∧ b0 = 65) ∨ (a = 65 ∧ b0 = 93) ∨ (a = 65 ∧ b0 = 100) ∨ (a = 65 ∧ b0 = 107) ∨ (a = 65 ∧ b0 = 114) ∨ (a = 65 ∧ b0 = 121) ∨ (a = 65 ∧ b0 = 128)) {h : PH} {Q : Res → PH → Prop}
    (T : MetPM m_X11_copyRow [.ref (b0 + 1), .ref (a + 1)] h (rV (hnd Q (At m_X3_copyFrom Q) 0 [some (.ref a), some (.ref b0)] []) (fun h1 => Q (.inl none) (si (si h1 a 1 (gi h1 b0 1)) a 2 (gi (si h1 a 1 (gi h1 b0 1)) b0 2))))) :
    MetPM m_X3_copyFrom [.ref a, .ref b0] h Q := by
  rcases hab with ⟨rfl, rfl⟩ | ⟨rfl, rfl⟩ | ⟨rfl, rfl⟩ | ⟨rfl, rfl⟩ | ⟨rfl, rfl⟩ | ⟨rfl, rfl⟩ | ⟨rfl, rfl⟩ | ⟨rfl, rfl⟩ | ⟨rfl, rfl⟩ | ⟨rfl, rfl⟩ | ⟨rfl, rfl⟩ | ⟨rfl, rfl⟩ | ⟨rfl, rfl⟩ | ⟨rfl, rfl⟩ | ⟨rfl, rfl⟩ | ⟨rfl, rfl⟩
  all_goals exact met_of o_X3_copyFrom (Nat.le_of_ble_eq_true rfl) (fun q => absurd rfl q) (vg_ok k_X3_copyFrom (stops := []) 64 0 0 _ [] h T)
set_option maxRecDepth 100000 in
set_option maxHeartbeats 4000000 in
theorem t_X5_numberOf {p0 : Int32} {h : PH} {Q : Res → PH → Prop}
    (T : (((∀ j : Nat, 0 ≤ j → j < 11 → ¬ p0 = nI j) → Q (.inl (some (.int (-(nI 1))))) h) ∧ (p0 = nI 0 → Q (.inl (some (.int (gi h 16 1)))) h) ∧ (p0 = nI 1 → Q (.inl (some (.int (gi h 21 1)))) h) ∧ (p0 = nI 2 → Q (.inl (some (.int (gi h 26 1)))) h) ∧ (p0 = nI 3 → Q (.inl (some (.int (gi h 15 12)))) h) ∧ (p0 = nI 4 → Q (.inl (some (.int (gi h 15 11)))) h) ∧ (p0 = nI 5 → Q (.inl (some (.int (-(nI 1))))) h) ∧ (p0 = nI 6 → Q (.inl (some (.int (gi h 15 13)))) h) ∧ (p0 = nI 7 → Q (.inl (some (.int (gi h 15 14)))) h) ∧ (p0 = nI 8 → Q (.inl (some (.int (gi h 15 15)))) h) ∧ (p0 = nI 9 → Q (.inl (some (.int (gi h 15 16)))) h) ∧ (p0 = nI 10 → Q (.inl (some (.int (gi h 15 17)))) h) ∧ True)) :
    MetPM m_X5_numberOf [.ref 15, .int p0] h Q := by
  exact met_of o_X5_numberOf (Nat.le_of_ble_eq_true rfl) (fun q => absurd rfl q) (vg_ok k_X5_numberOf (stops := []) 87 0 0 _ [] h T)
set_option maxRecDepth 100000 in
set_option maxHeartbeats 4000000 in
theorem t_X11_needFormat {p0 : Int32} {h : PH} {Q : Res → PH → Prop}
    (T : ((p0 < (nI 1) → (0 + 1 ≤ m_X11_needFormat.cap ∧ Q (.inr 1) h)) ∧ (¬ p0 < (nI 1) → ((p0 ≤ (nI 9) → Q (.inl none) h) ∧ (¬ p0 ≤ (nI 9) → (0 + 1 ≤ m_X11_needFormat.cap ∧ Q (.inr 1) h)))))) :
    MetPM m_X11_needFormat [.int p0] h Q := by
  exact met_of o_X11_needFormat (Nat.le_of_ble_eq_true rfl) (fun q => absurd rfl q) (vg_ok k_X11_needFormat (stops := []) 61 0 0 _ [] h T)
set_option maxRecDepth 100000 in
set_option maxHeartbeats 4000000 in
theorem t_X5_readersOf {p0 : Int32} {h : PH} {Q : Res → PH → Prop}
    (T : At m_X5_readersOf Q 4 0 [some (.ref 15), some (.int p0), some (.int (nI 0)), some (.int (nI 0))] [] h) :
    MetPM m_X5_readersOf [.ref 15, .int p0] h Q := by
  exact met_of o_X5_readersOf (Nat.le_of_ble_eq_true rfl) (fun q => absurd rfl q) (vg_ok k_X5_readersOf (stops := [4]) 74 0 0 _ [] h T)
set_option maxRecDepth 100000 in
set_option maxHeartbeats 4000000 in
theorem u_X5_readersOf_4 {v1 : Int32} {v2 : Int32} {v3 : Int32} {h : PH} {Q : Res → PH → Prop}
    (T : (((gi h 16 1) ≤ v3 → Q (.inl (some (.int v2))) h) ∧ (¬ (gi h 16 1) ≤ v3 → MetPM m_X5_isReader [.ref 15, .int v3, .int v1] h (rI (hnd Q (At m_X5_readersOf Q) 0 [some (.ref 15), some (.int v1), some (.int v2), some (.int v3)] []) (fun x2 h1 => ((x2 = 0 → At m_X5_readersOf Q 4 0 [some (.ref 15), some (.int v1), some (.int v2), some (.int (v3 + (nI 1)))] [] h1) ∧ (¬ x2 = 0 → At m_X5_readersOf Q 4 0 [some (.ref 15), some (.int v1), some (.int (v2 ||| ((nI 1) <<< (v3 &&& 31)))), some (.int (v3 + (nI 1)))] [] h1))))))) :
    At m_X5_readersOf Q 4 0 [some (.ref 15), some (.int v1), some (.int v2), some (.int v3)] [] h := by
  exact vg_ok k_X5_readersOf (stops := [4]) 74 4 0 _ _ h T
set_option maxRecDepth 100000 in
set_option maxHeartbeats 4000000 in
theorem t_X5_waveOf {p0 : Int32} {h : PH} {Q : Res → PH → Prop}
    (T : (vp_in p0 12 ∧ (((gi h 28 p0.toNatClampNeg) < 0 → Q (.inl (some (.int (-(nI 1))))) h) ∧ (¬ (gi h 28 p0.toNatClampNeg) < 0 → (((gi h 21 1) ≤ (gi h 28 p0.toNatClampNeg) → Q (.inl (some (.int (-(nI 1))))) h) ∧ (¬ (gi h 21 1) ≤ (gi h 28 p0.toNatClampNeg) → (vp_in (gi h 28 p0.toNatClampNeg) 5 ∧ Q (.inl (some (.int (gi h 23 (gi h 28 p0.toNatClampNeg).toNatClampNeg)))) h))))))) :
    MetPM m_X5_waveOf [.ref 15, .int p0] h Q := by
  exact met_of o_X5_waveOf (Nat.le_of_ble_eq_true rfl) (fun q => absurd rfl q) (vg_ok k_X5_waveOf (stops := []) 69 0 0 _ [] h T)
set_option maxRecDepth 100000 in
set_option maxHeartbeats 4000000 in
theorem t_X5_everyMember {h : PH} {Q : Res → PH → Prop}
    (T : Q (.inl (some (.int (((nI 1) <<< ((gi h 26 1) &&& 31)) - (nI 1))))) h) :
    MetPM m_X5_everyMember [.ref 15] h Q := by
  exact met_of o_X5_everyMember (Nat.le_of_ble_eq_true rfl) (fun q => absurd rfl q) (vg_ok k_X5_everyMember (stops := []) 58 0 0 _ [] h T)
set_option maxRecDepth 100000 in
set_option maxHeartbeats 4000000 in
theorem t_X5_neighboursOf {p0 : Int32} {h : PH} {Q : Res → PH → Prop}
    (T : (vp_in p0 12 ∧ (((gi h 28 p0.toNatClampNeg) < 0 → Q (.inl (some (.int (nI 0)))) h) ∧ (¬ (gi h 28 p0.toNatClampNeg) < 0 → (((gi h 21 1) ≤ (gi h 28 p0.toNatClampNeg) → Q (.inl (some (.int (nI 0)))) h) ∧ (¬ (gi h 21 1) ≤ (gi h 28 p0.toNatClampNeg) → (vp_in (gi h 28 p0.toNatClampNeg) 5 ∧ Q (.inl (some (.int (gi h 24 (gi h 28 p0.toNatClampNeg).toNatClampNeg)))) h))))))) :
    MetPM m_X5_neighboursOf [.ref 15, .int p0] h Q := by
  exact met_of o_X5_neighboursOf (Nat.le_of_ble_eq_true rfl) (fun q => absurd rfl q) (vg_ok k_X5_neighboursOf (stops := []) 69 0 0 _ [] h T)
set_option maxRecDepth 100000 in
set_option maxHeartbeats 4000000 in
theorem t_J6_bitCount_0f7a4 {p0 : Int32} {h : PH} {Q : Res → PH → Prop}
    (T : (let y1 : Int32 := (p0 - (((p0.toUInt32 >>> ((nI 1).toUInt32 &&& Int32.toUInt32 31)).toInt32) &&& (nI 1431655765))); (let y2 : Int32 := ((y1 &&& (nI 858993459)) + (((y1.toUInt32 >>> ((nI 2).toUInt32 &&& Int32.toUInt32 31)).toInt32) &&& (nI 858993459))); (let y3 : Int32 := ((y2 + ((y2.toUInt32 >>> ((nI 4).toUInt32 &&& Int32.toUInt32 31)).toInt32)) &&& (nI 252645135)); (let y4 : Int32 := (((y3 + ((y3.toUInt32 >>> ((nI 8).toUInt32 &&& Int32.toUInt32 31)).toInt32)).toUInt32 >>> ((nI 16).toUInt32 &&& Int32.toUInt32 31)).toInt32); (let y5 : Int32 := (((y3 + ((y3.toUInt32 >>> ((nI 8).toUInt32 &&& Int32.toUInt32 31)).toInt32)) + y4) &&& (nI 63)); Q (.inl (some (.int y5))) h)))))) :
    MetPM m_J6_bitCount_0f7a4 [.int p0] h Q := by
  exact met_of o_J6_bitCount_0f7a4 (Nat.le_of_ble_eq_true rfl) (fun q => absurd rfl q) (vg_ok k_J6_bitCount_0f7a4 (stops := []) 92 0 0 _ [] h T)
set_option maxRecDepth 100000 in
set_option maxHeartbeats 4000000 in
theorem t_X11_needAhead {p0 : Int32} {h : PH} {Q : Res → PH → Prop}
    (T : ((p0 < 0 → (0 + 1 ≤ m_X11_needAhead.cap ∧ Q (.inr 1) h)) ∧ (¬ p0 < 0 → ((p0 ≤ (nI 2000) → Q (.inl none) h) ∧ (¬ p0 ≤ (nI 2000) → (0 + 1 ≤ m_X11_needAhead.cap ∧ Q (.inr 1) h)))))) :
    MetPM m_X11_needAhead [.int p0] h Q := by
  exact met_of o_X11_needAhead (Nat.le_of_ble_eq_true rfl) (fun q => absurd rfl q) (vg_ok k_X11_needAhead (stops := []) 60 0 0 _ [] h T)
set_option maxRecDepth 100000 in
set_option maxHeartbeats 4000000 in
theorem t_X3_add {a : Nat} (ha : a = 65 ∨ a = 72) {p0 : Int32} {p1 : Int32} {p2 : Int32} {p3 : Int32} {h : PH} {Q : Res → PH → Prop}
    (T : ((¬ (nI 30) = 0) ∧ (let y1 : Int32 := ((gi (si h a 2 (((gi h a 2) + (nI 1)) - ((gi h a 2) + (nI 1)) / (nI 30) * (nI 30))) a 2) * (nI 4)); (vp_in y1 120 ∧ (let h2 : PH := (si (si h a 2 (((gi h a 2) + (nI 1)) - ((gi h a 2) + (nI 1)) / (nI 30) * (nI 30))) (a + 1) y1.toNatClampNeg p0); (vp_in (y1 + (nI 1)) 120 ∧ (vp_in (y1 + (nI 2)) 120 ∧ (vp_in (y1 + (nI 3)) 120 ∧ (let h3 : PH := (si (si (si h2 (a + 1) (y1 + (nI 1)).toNatClampNeg p1) (a + 1) (y1 + (nI 2)).toNatClampNeg p2) (a + 1) (y1 + (nI 3)).toNatClampNeg p3); Q (.inl none) (si h3 a 1 (if (nI 30) < ((gi h3 a 1) + (nI 1)) then (nI 30) else ((gi h3 a 1) + (nI 1))))))))))))) :
    MetPM m_X3_add [.ref a, .int p0, .int p1, .int p2, .int p3] h Q := by
  rcases ha with rfl | rfl
  all_goals exact met_of o_X3_add (Nat.le_of_ble_eq_true rfl) (fun q => absurd rfl q) (vg_ok k_X3_add (stops := []) 98 0 0 _ [] h T)
set_option maxRecDepth 100000 in
set_option maxHeartbeats 4000000 in
theorem t_X5_plannedMembers {h : PH} {Q : Res → PH → Prop}
    (T : At m_X5_plannedMembers Q 4 0 [some (.ref 15), some (.int (nI 0)), some (.int (nI 0))] [] h) :
    MetPM m_X5_plannedMembers [.ref 15] h Q := by
  exact met_of o_X5_plannedMembers (Nat.le_of_ble_eq_true rfl) (fun q => absurd rfl q) (vg_ok k_X5_plannedMembers (stops := [4]) 69 0 0 _ [] h T)
set_option maxRecDepth 100000 in
set_option maxHeartbeats 4000000 in
theorem u_X5_plannedMembers_4 {v1 : Int32} {v2 : Int32} {h : PH} {Q : Res → PH → Prop}
    (T : (((gi h 15 12) ≤ v2 → Q (.inl (some (.int v1))) h) ∧ (¬ (gi h 15 12) ≤ v2 → (vp_in v2 5 ∧ At m_X5_plannedMembers Q 4 0 [some (.ref 15), some (.int (v1 ||| (gi h 25 v2.toNatClampNeg))), some (.int (v2 + (nI 1)))] [] h)))) :
    At m_X5_plannedMembers Q 4 0 [some (.ref 15), some (.int v1), some (.int v2)] [] h := by
  exact vg_ok k_X5_plannedMembers (stops := [4]) 69 4 0 _ _ h T
set_option maxRecDepth 100000 in
set_option maxHeartbeats 4000000 in
theorem t_X3_cellOf {p0 : Int32} {p1 : Int32} {h : PH} {Q : Res → PH → Prop}
    (T : ((¬ (nI 30) = 0) ∧ (vp_in (((fmV ((gi h 65 2) - p0) (nI 30)) * (nI 4)) + p1) 120 ∧ Q (.inl (some (.int (gi h 66 (((fmV ((gi h 65 2) - p0) (nI 30)) * (nI 4)) + p1).toNatClampNeg)))) h))) :
    MetPM m_X3_cellOf [.ref 65, .int p0, .int p1] h Q := by
  exact met_of o_X3_cellOf (Nat.le_of_ble_eq_true rfl) (fun q => absurd rfl q) (vg_ok k_X3_cellOf (stops := []) 66 0 0 _ [] h T)
set_option maxRecDepth 100000 in
set_option maxHeartbeats 4000000 in
theorem t_X11_needMeasure {p0 : Int32} {h : PH} {Q : Res → PH → Prop}
    (T : ((p0 < 0 → (0 + 1 ≤ m_X11_needMeasure.cap ∧ Q (.inr 1) h)) ∧ (¬ p0 < 0 → ((p0 ≤ (nI 999) → Q (.inl none) h) ∧ (¬ p0 ≤ (nI 999) → (0 + 1 ≤ m_X11_needMeasure.cap ∧ Q (.inr 1) h)))))) :
    MetPM m_X11_needMeasure [.int p0] h Q := by
  exact met_of o_X11_needMeasure (Nat.le_of_ble_eq_true rfl) (fun q => absurd rfl q) (vg_ok k_X11_needMeasure (stops := []) 60 0 0 _ [] h T)
end
section
/-! ===== what each method does, step by step, 2 ===== -/
set_option maxRecDepth 100000 in
set_option maxHeartbeats 4000000 in
theorem t_X8_reset {h : PH} {Q : Res → PH → Prop}
    (T : (let h1 : PH := (si (si (si (si (si (si h 74 1 (nI 0)) 74 2 (nI 1)) 74 7 (nI 0)) 74 8 (nI 0)) 74 9 (nI 0)) 74 10 (-(nI 1))); (isB (nI 0) ∧ (let h2 : PH := (si (si (si (si (si h1 74 11 (-(nI 1))) 74 12 (nI 0)) 74 13 (-(nI 1))) 74 14 (-(nI 1))) 79 1 (nI 0)); Q (.inl none) h2)))) :
    MetPM m_X8_reset [.ref 74] h Q := by
  exact met_of o_X8_reset (Nat.le_of_ble_eq_true rfl) (fun q => absurd rfl q) (vg_ok k_X8_reset (stops := []) 85 0 0 _ [] h T)
set_option maxRecDepth 100000 in
set_option maxHeartbeats 4000000 in
theorem t_X8_canJoin {p0 : Int32} {p1 : Int32} {h : PH} {Q : Res → PH → Prop}
    (T : MetPM m_X5_talkersOf [.ref 30, .int p1] h (rI (hnd Q (At m_X8_canJoin Q) 0 [some (.ref 74), some (.int p0), some (.int p1), none, none, none] []) (fun x2 h1 => MetPM m_X5_isReader [.ref 30, .int p1, .int (gi h1 74 2)] h1 (rI (hnd Q (At m_X8_canJoin Q) 0 [some (.ref 74), some (.int p0), some (.int p1), some (.int x2), none, none] []) (fun x4 h3 => At m_X8_canJoin Q 26 0 [some (.ref 74), some (.int p0), some (.int p1), some (.int x2), some (.int x4), some (.int (nI 0))] [] h3))))) :
    MetPM m_X8_canJoin [.ref 74, .int p0, .int p1] h Q := by
  exact met_of o_X8_canJoin (Nat.le_of_ble_eq_true rfl) (fun q => absurd rfl q) (vg_ok k_X8_canJoin (stops := [26]) 105 0 0 _ [] h T)
set_option maxRecDepth 100000 in
set_option maxHeartbeats 4000000 in
theorem u_X8_canJoin_26 {v1 : Int32} {v2 : Int32} {v3 : Int32} {v4 : Int32} {v5 : Int32} {h : PH} {Q : Res → PH → Prop}
    (T : (((gi h 41 1) ≤ v5 → (isB v4 ∧ Q (.inl (some (.int v4))) h)) ∧ (¬ (gi h 41 1) ≤ v5 → (vp_in v5 12 ∧ (let y1 : Int32 := (if 0 ≤ ((gi h 75 v5.toNatClampNeg) - v2) then ((gi h 75 v5.toNatClampNeg) - v2) else 0 - ((gi h 75 v5.toNatClampNeg) - v2)); (((gi h 30 13) < y1 → At m_X8_canJoin Q 26 0 [some (.ref 74), some (.int v1), some (.int v2), some (.int v3), some (.int (v4 &&& (nI 0))), some (.int (v5 + (nI 1)))] [] h) ∧ (¬ (gi h 30 13) < y1 → (vp_in v5 12 ∧ ((¬ (gi h 43 v5.toNatClampNeg) = v1 → At m_X8_canJoin Q 26 0 [some (.ref 74), some (.int v1), some (.int v2), some (.int v3), some (.int (v4 &&& (nI 1))), some (.int (v5 + (nI 1)))] [] h) ∧ ((gi h 43 v5.toNatClampNeg) = v1 → (vp_in v5 12 ∧ MetPM m_X11_isIn [.int v3, .int (gi h 75 v5.toNatClampNeg)] h (rI (hnd Q (At m_X8_canJoin Q) 0 [some (.ref 74), some (.int v1), some (.int v2), some (.int v3), some (.int v4), some (.int v5)] []) (fun x3 h2 => ((x3 = 0 → At m_X8_canJoin Q 26 0 [some (.ref 74), some (.int v1), some (.int v2), some (.int v3), some (.int (v4 &&& (nI 0))), some (.int (v5 + (nI 1)))] [] h2) ∧ (¬ x3 = 0 → At m_X8_canJoin Q 26 0 [some (.ref 74), some (.int v1), some (.int v2), some (.int v3), some (.int (v4 &&& (nI 1))), some (.int (v5 + (nI 1)))] [] h2))))))))))))))) :
    At m_X8_canJoin Q 26 0 [some (.ref 74), some (.int v1), some (.int v2), some (.int v3), some (.int v4), some (.int v5)] [] h := by
  exact vg_ok k_X8_canJoin (stops := [26]) 105 26 0 _ _ h T
set_option maxRecDepth 100000 in
set_option maxHeartbeats 4000000 in
theorem t_X8_addMember {p0 : Int64} {p1 : Int32} {p2 : Int32} {p3 : Int32} {h : PH} {Q : Res → PH → Prop}
    (T : (((nI 12) ≤ (gi h 41 1) → Q (.inl none) h) ∧ (¬ (nI 12) ≤ (gi h 41 1) → MetPM m_X5_addMember [.ref 30, .long p0, .int p1] h (rV (hnd Q (At m_X8_addMember Q) 0 [some (.ref 74), some (.long p0), none, some (.int p1), some (.int p2), some (.int p3), some (.int (gi h 41 1))] []) (fun h1 => (vp_in (gi h 41 1) 12 ∧ (vp_in (gi h 41 1) 12 ∧ (vp_in (gi h 41 1) 12 ∧ (let h2 : PH := (si (si (si h1 75 (gi h 41 1).toNatClampNeg p2) 76 (gi h 41 1).toNatClampNeg p2) 77 (gi h 41 1).toNatClampNeg (-(nI 1))); (vp_in (gi h 41 1) 12 ∧ ((p3 = 0 → (let h3 : PH := (si (si h2 78 (gi h 41 1).toNatClampNeg (nI 0)) 74 8 ((gi (si h2 78 (gi h 41 1).toNatClampNeg (nI 0)) 74 8) ||| (nI 0))); Q (.inl none) h3)) ∧ (¬ p3 = 0 → (let y4 : Int32 := ((gi (si h2 78 (gi h 41 1).toNatClampNeg (nI 0)) 74 8) ||| ((nI 1) <<< ((gi h 41 1) &&& 31))); Q (.inl none) (si (si h2 78 (gi h 41 1).toNatClampNeg (nI 0)) 74 8 y4)))))))))))))) :
    MetPM m_X8_addMember [.ref 74, .long p0, .int p1, .int p2, .int p3] h Q := by
  exact met_of o_X8_addMember (Nat.le_of_ble_eq_true rfl) (fun q => absurd rfl q) (vg_ok k_X8_addMember (stops := []) 96 0 0 _ [] h T)
set_option maxRecDepth 100000 in
set_option maxHeartbeats 4000000 in
theorem t_X8_copyFrom {a b0 : Nat} (hab : (a = 67 ∧ b0 = 60) ∨ (a = 60 ∧ b0 = 74) ∨ (a = 81 ∧ b0 = 60) ∨ (a = 60 ∧ b0 = 81) ∨ (a = 88 ∧ b0 = 60) ∨ (a = 95 ∧ b0 = 60) ∨ (a = 102 ∧ b0 = 60) ∨ (a = 109 ∧ b0 = 60) ∨ (a = 116 ∧ b0 = 60) ∨ (a = 123 ∧ b0 = 60) ∨ (a = 60 ∧ b0 = 88) ∨ (a = 60 ∧ b0 = 95) ∨ (a = 60 ∧ b0 = 102) ∨ (a = 60 ∧ b0 = 109) ∨ (a = 60 ∧ b0 = 116) ∨ (a = 60 ∧ b0 = 123)) {h : PH} {Q : Res → PH → Prop}
    (T : MetPM m_X11_copyRow [.ref (b0 + 1), .ref (a + 1)] (si (si h a 1 (gi h b0 1)) a 2 (gi (si h a 1 (gi h b0 1)) b0 2)) (rV (hnd Q (At m_X8_copyFrom Q) 0 [some (.ref a), some (.ref b0)] []) (fun h1 => MetPM m_X11_copyRow [.ref (b0 + 2), .ref (a + 2)] h1 (rV (hnd Q (At m_X8_copyFrom Q) 0 [some (.ref a), some (.ref b0)] []) (fun h2 => MetPM m_X11_copyRow [.ref (b0 + 3), .ref (a + 3)] h2 (rV (hnd Q (At m_X8_copyFrom Q) 0 [some (.ref a), some (.ref b0)] []) (fun h3 => MetPM m_X11_copyRow [.ref (b0 + 4), .ref (a + 4)] h3 (rV (hnd Q (At m_X8_copyFrom Q) 0 [some (.ref a), some (.ref b0)] []) (fun h4 => (let h5 : PH := (si (si (si h4 a 7 (gi h4 b0 7)) a 8 (gi (si h4 a 7 (gi h4 b0 7)) b0 8)) a 9 (gi (si (si h4 a 7 (gi h4 b0 7)) a 8 (gi (si h4 a 7 (gi h4 b0 7)) b0 8)) b0 9)); (isB (gi (si (si h5 a 10 (gi h5 b0 10)) a 11 (gi (si h5 a 10 (gi h5 b0 10)) b0 11)) b0 12) ∧ (let h6 : PH := (si (si (si h5 a 10 (gi h5 b0 10)) a 11 (gi (si h5 a 10 (gi h5 b0 10)) b0 11)) a 12 (gi (si (si h5 a 10 (gi h5 b0 10)) a 11 (gi (si h5 a 10 (gi h5 b0 10)) b0 11)) b0 12)); MetPM m_X3_copyFrom [.ref (a + 5), .ref (b0 + 5)] (si (si h6 a 13 (gi h6 b0 13)) a 14 (gi (si h6 a 13 (gi h6 b0 13)) b0 14)) (rV (hnd Q (At m_X8_copyFrom Q) 0 [some (.ref a), some (.ref b0)] []) (fun h7 => Q (.inl none) h7)))))))))))))) :
    MetPM m_X8_copyFrom [.ref a, .ref b0] h Q := by
  rcases hab with ⟨rfl, rfl⟩ | ⟨rfl, rfl⟩ | ⟨rfl, rfl⟩ | ⟨rfl, rfl⟩ | ⟨rfl, rfl⟩ | ⟨rfl, rfl⟩ | ⟨rfl, rfl⟩ | ⟨rfl, rfl⟩ | ⟨rfl, rfl⟩ | ⟨rfl, rfl⟩ | ⟨rfl, rfl⟩ | ⟨rfl, rfl⟩ | ⟨rfl, rfl⟩ | ⟨rfl, rfl⟩ | ⟨rfl, rfl⟩ | ⟨rfl, rfl⟩
  all_goals exact met_of o_X8_copyFrom (Nat.le_of_ble_eq_true rfl) (fun q => absurd rfl q) (vg_ok k_X8_copyFrom (stops := []) 116 0 0 _ [] h T)
set_option maxRecDepth 100000 in
set_option maxHeartbeats 4000000 in
theorem t_X8_replaceBy_1 {h : PH} {Q : Res → PH → Prop}
    (T : MetPM m_X5_copyFrom [.ref 15, .ref 30] h (rV (hnd Q (At m_X8_replaceBy Q) 0 [some (.ref 60), some (.ref 74)] []) (fun h1 => MetPM m_X8_copyFrom [.ref 60, .ref 74] h1 (rV (hnd Q (At m_X8_replaceBy Q) 0 [some (.ref 60), some (.ref 74)] []) (fun h2 => Q (.inl none) h2))))) :
    MetPM m_X8_replaceBy [.ref 60, .ref 74] h Q := by
  exact met_of o_X8_replaceBy (Nat.le_of_ble_eq_true rfl) (fun q => absurd rfl q) (vg_ok k_X8_replaceBy (stops := []) 59 0 0 _ [] h T)
set_option maxRecDepth 100000 in
set_option maxHeartbeats 4000000 in
theorem t_X8_replaceBy_2 {h : PH} {Q : Res → PH → Prop}
    (T : MetPM m_X5_copyFrom [.ref 45, .ref 15] h (rV (hnd Q (At m_X8_replaceBy Q) 0 [some (.ref 81), some (.ref 60)] []) (fun h1 => MetPM m_X8_copyFrom [.ref 81, .ref 60] h1 (rV (hnd Q (At m_X8_replaceBy Q) 0 [some (.ref 81), some (.ref 60)] []) (fun h2 => Q (.inl none) h2))))) :
    MetPM m_X8_replaceBy [.ref 81, .ref 60] h Q := by
  exact met_of o_X8_replaceBy (Nat.le_of_ble_eq_true rfl) (fun q => absurd rfl q) (vg_ok k_X8_replaceBy (stops := []) 59 0 0 _ [] h T)
set_option maxRecDepth 100000 in
set_option maxHeartbeats 4000000 in
theorem t_X8_replaceBy_3 {h : PH} {Q : Res → PH → Prop}
    (T : MetPM m_X5_copyFrom [.ref 15, .ref 45] h (rV (hnd Q (At m_X8_replaceBy Q) 0 [some (.ref 60), some (.ref 81)] []) (fun h1 => MetPM m_X8_copyFrom [.ref 60, .ref 81] h1 (rV (hnd Q (At m_X8_replaceBy Q) 0 [some (.ref 60), some (.ref 81)] []) (fun h2 => Q (.inl none) h2))))) :
    MetPM m_X8_replaceBy [.ref 60, .ref 81] h Q := by
  exact met_of o_X8_replaceBy (Nat.le_of_ble_eq_true rfl) (fun q => absurd rfl q) (vg_ok k_X8_replaceBy (stops := []) 59 0 0 _ [] h T)
set_option maxRecDepth 100000 in
set_option maxHeartbeats 4000000 in
theorem t_X8_isUp {a : Nat} (ha : a = 60 ∨ a = 67) {p0 : Int32} {h : PH} {Q : Res → PH → Prop}
    (T : (vp_in p0 12 ∧ ((¬ (gi h (a + 3) p0.toNatClampNeg) = (-(nI 1)) → (isB (nI 0) ∧ Q (.inl (some (.int (nI 0)))) h)) ∧ ((gi h (a + 3) p0.toNatClampNeg) = (-(nI 1)) → (isB (nI 1) ∧ Q (.inl (some (.int (nI 1)))) h))))) :
    MetPM m_X8_isUp [.ref a, .int p0] h Q := by
  rcases ha with rfl | rfl
  all_goals exact met_of o_X8_isUp (Nat.le_of_ble_eq_true rfl) (fun q => absurd rfl q) (vg_ok k_X8_isUp (stops := []) 60 0 0 _ [] h T)
set_option maxRecDepth 100000 in
set_option maxHeartbeats 4000000 in
theorem t_X8_numberOfMember {a : Nat} (ha : a = 60 ∨ a = 67) {p0 : Int32} {p1 : Int32} {h : PH} {Q : Res → PH → Prop}
    (T : (((∀ j : Nat, 0 ≤ j → j < 7 → ¬ p1 = nI j) → Q (.inl (some (.int (-(nI 1))))) h) ∧ (p1 = nI 0 → (vp_in p0 12 ∧ Q (.inl (some (.int (gi h 28 p0.toNatClampNeg)))) h)) ∧ (p1 = nI 1 → (vp_in p0 12 ∧ Q (.inl (some (.int (gi h (a + 1) p0.toNatClampNeg)))) h)) ∧ (p1 = nI 2 → MetPM m_X8_isUp [.ref a, .int p0] h (rI (hnd Q (At m_X8_numberOfMember Q) 0 [some (.ref a), some (.int p0), some (.int p1)] []) (fun x2 h1 => ((x2 = 0 → (vp_in p0 12 ∧ Q (.inl (some (.int (gi h1 (a + 2) p0.toNatClampNeg)))) h1)) ∧ (¬ x2 = 0 → Q (.inl (some (.int (-(nI 1))))) h1))))) ∧ (p1 = nI 3 → (vp_in p0 12 ∧ Q (.inl (some (.int (gi h (a + 3) p0.toNatClampNeg)))) h)) ∧ (p1 = nI 4 → (vp_in p0 12 ∧ Q (.inl (some (.int (gi h (a + 4) p0.toNatClampNeg)))) h)) ∧ (p1 = nI 5 → MetPM m_X11_isIn [.int (gi h a 8), .int p0] h (rI (hnd Q (At m_X8_numberOfMember Q) 0 [some (.ref a), some (.int p0), some (.int p1)] []) (fun x4 h3 => ((x4 = 0 → Q (.inl (some (.int (nI 0)))) h3) ∧ (¬ x4 = 0 → Q (.inl (some (.int (nI 1)))) h3))))) ∧ (p1 = nI 6 → MetPM m_X5_waveOf [.ref 15, .int p0] h (rI (hnd Q (At m_X8_numberOfMember Q) 0 [some (.ref a), some (.int p0), some (.int p1)] []) (fun x6 h5 => Q (.inl (some (.int x6))) h5))) ∧ True)) :
    MetPM m_X8_numberOfMember [.ref a, .int p0, .int p1] h Q := by
  rcases ha with rfl | rfl
  all_goals exact met_of o_X8_numberOfMember (Nat.le_of_ble_eq_true rfl) (fun q => absurd rfl q) (vg_ok k_X8_numberOfMember (stops := []) 100 0 0 _ [] h T)
set_option maxRecDepth 100000 in
set_option maxHeartbeats 4000000 in
theorem t_X8_highestComing {a : Nat} (ha : a = 60 ∨ a = 67) {p0 : Int32} {h : PH} {Q : Res → PH → Prop}
    (T : At m_X8_highestComing Q 4 0 [some (.ref a), some (.int p0), some (.int (-(nI 1))), some (.int (nI 0))] [] h) :
    MetPM m_X8_highestComing [.ref a, .int p0] h Q := by
  rcases ha with rfl | rfl
  all_goals exact met_of o_X8_highestComing (Nat.le_of_ble_eq_true rfl) (fun q => absurd rfl q) (vg_ok k_X8_highestComing (stops := [4]) 75 0 0 _ [] h T)
set_option maxRecDepth 100000 in
set_option maxHeartbeats 4000000 in
theorem u_X8_highestComing_4 {a : Nat} (ha : a = 60 ∨ a = 67) {v1 : Int32} {v2 : Int32} {v3 : Int32} {h : PH} {Q : Res → PH → Prop}
    (T : (((gi h 26 1) ≤ v3 → Q (.inl (some (.int v2))) h) ∧ (¬ (gi h 26 1) ≤ v3 → MetPM m_X11_isIn [.int v1, .int v3] h (rI (hnd Q (At m_X8_highestComing Q) 0 [some (.ref a), some (.int v1), some (.int v2), some (.int v3)] []) (fun x2 h1 => ((x2 = 0 → At m_X8_highestComing Q 4 0 [some (.ref a), some (.int v1), some (.int v2), some (.int (v3 + (nI 1)))] [] h1) ∧ (¬ x2 = 0 → (vp_in v3 12 ∧ At m_X8_highestComing Q 4 0 [some (.ref a), some (.int v1), some (.int (if v2 < (gi h1 (a + 2) v3.toNatClampNeg) then (gi h1 (a + 2) v3.toNatClampNeg) else v2)), some (.int (v3 + (nI 1)))] [] h1)))))))) :
    At m_X8_highestComing Q 4 0 [some (.ref a), some (.int v1), some (.int v2), some (.int v3)] [] h := by
  rcases ha with rfl | rfl
  all_goals exact vg_ok k_X8_highestComing (stops := [4]) 75 4 0 _ _ h T
set_option maxRecDepth 100000 in
set_option maxHeartbeats 4000000 in
theorem t_X8_lowestComing {a : Nat} (ha : a = 60 ∨ a = 67) {p0 : Int32} {h : PH} {Q : Res → PH → Prop}
    (T : At m_X8_lowestComing Q 5 0 [some (.ref a), some (.int p0), some (.int (nI 8)), some (.int (nI 0))] [] h) :
    MetPM m_X8_lowestComing [.ref a, .int p0] h Q := by
  rcases ha with rfl | rfl
  all_goals exact met_of o_X8_lowestComing (Nat.le_of_ble_eq_true rfl) (fun q => absurd rfl q) (vg_ok k_X8_lowestComing (stops := [5]) 75 0 0 _ [] h T)
set_option maxRecDepth 100000 in
set_option maxHeartbeats 4000000 in
theorem u_X8_lowestComing_5 {a : Nat} (ha : a = 60 ∨ a = 67) {v1 : Int32} {v2 : Int32} {v3 : Int32} {h : PH} {Q : Res → PH → Prop}
    (T : (((gi h 26 1) ≤ v3 → Q (.inl (some (.int v2))) h) ∧ (¬ (gi h 26 1) ≤ v3 → MetPM m_X11_isIn [.int v1, .int v3] h (rI (hnd Q (At m_X8_lowestComing Q) 0 [some (.ref a), some (.int v1), some (.int v2), some (.int v3)] []) (fun x2 h1 => ((x2 = 0 → At m_X8_lowestComing Q 5 0 [some (.ref a), some (.int v1), some (.int v2), some (.int (v3 + (nI 1)))] [] h1) ∧ (¬ x2 = 0 → (vp_in v3 12 ∧ At m_X8_lowestComing Q 5 0 [some (.ref a), some (.int v1), some (.int (if (gi h1 (a + 2) v3.toNatClampNeg) < v2 then (gi h1 (a + 2) v3.toNatClampNeg) else v2)), some (.int (v3 + (nI 1)))] [] h1)))))))) :
    At m_X8_lowestComing Q 5 0 [some (.ref a), some (.int v1), some (.int v2), some (.int v3)] [] h := by
  rcases ha with rfl | rfl
  all_goals exact vg_ok k_X8_lowestComing (stops := [5]) 75 5 0 _ _ h T
set_option maxRecDepth 100000 in
set_option maxHeartbeats 4000000 in
theorem t_X8_opponents {a : Nat} (ha : a = 60 ∨ a = 67) {p0 : Int32} {p1 : Int32} {h : PH} {Q : Res → PH → Prop}
    (T : MetPM m_X5_talkersOf [.ref 15, .int p1] h (rI (hnd Q (At m_X8_opponents Q) 0 [some (.ref a), some (.int p0), some (.int p1), none, none, none] []) (fun x2 h1 => (vp_in p0 12 ∧ At m_X8_opponents Q 23 0 [some (.ref a), some (.int p0), some (.int p1), some (.int x2), some (.int (gi h1 29 p0.toNatClampNeg)), some (.int (nI 0))] [] h1)))) :
    MetPM m_X8_opponents [.ref a, .int p0, .int p1] h Q := by
  rcases ha with rfl | rfl
  all_goals exact met_of o_X8_opponents (Nat.le_of_ble_eq_true rfl) (fun q => absurd rfl q) (vg_ok k_X8_opponents (stops := [23]) 88 0 0 _ [] h T)
set_option maxRecDepth 100000 in
set_option maxHeartbeats 4000000 in
theorem u_X8_opponents_23 {a : Nat} (ha : a = 60 ∨ a = 67) {v1 : Int32} {v2 : Int32} {v3 : Int32} {v4 : Int32} {v5 : Int32} {h : PH} {Q : Res → PH → Prop}
    (T : (((gi h 26 1) ≤ v5 → Q (.inl (some (.int v4))) h) ∧ (¬ (gi h 26 1) ≤ v5 → (vp_in v5 12 ∧ MetPM m_X11_isIn [.int v3, .int (gi h (a + 2) v5.toNatClampNeg)] h (rI (hnd Q (At m_X8_opponents Q) 0 [some (.ref a), some (.int v1), some (.int v2), some (.int v3), some (.int v4), some (.int v5)] []) (fun x2 h1 => ((x2 = 0 → At m_X8_opponents Q 23 0 [some (.ref a), some (.int v1), some (.int v2), some (.int v3), some (.int v4), some (.int (v5 + (nI 1)))] [] h1) ∧ (¬ x2 = 0 → At m_X8_opponents Q 23 0 [some (.ref a), some (.int v1), some (.int v2), some (.int v3), some (.int (v4 &&& (((nI 1) <<< (v5 &&& 31)) ^^^ (-(nI 1))))), some (.int (v5 + (nI 1)))] [] h1)))))))) :
    At m_X8_opponents Q 23 0 [some (.ref a), some (.int v1), some (.int v2), some (.int v3), some (.int v4), some (.int v5)] [] h := by
  rcases ha with rfl | rfl
  all_goals exact vg_ok k_X8_opponents (stops := [23]) 88 23 0 _ _ h T
set_option maxRecDepth 100000 in
set_option maxHeartbeats 4000000 in
theorem t_X8_whyNotBegin {a : Nat} (ha : a = 60 ∨ a = 67) {p0 : Int32} {p1 : Int32} {h : PH} {Q : Res → PH → Prop}
    (T : MetPM m_X11_isIn [.int (gi h a 8), .int p0] h (rI (hnd Q (At m_X8_whyNotBegin Q) 0 [some (.ref a), some (.int p0), some (.int p1), none, none] []) (fun x2 h1 => ((x2 = 0 → MetPM m_X8_isUp [.ref a, .int p0] h1 (rI (hnd Q (At m_X8_whyNotBegin Q) 0 [some (.ref a), some (.int p0), some (.int p1), none, none] []) (fun x4 h3 => ((¬ x4 = 0 → (vp_in p0 12 ∧ ((¬ (gi h3 (a + 1) p0.toNatClampNeg) = p1 → MetPM m_X5_isReader [.ref 15, .int p1, .int (gi h3 a 2)] h3 (rI (hnd Q (At m_X8_whyNotBegin Q) 0 [some (.ref a), some (.int p0), some (.int p1), none, none] []) (fun x6 h5 => ((¬ x6 = 0 → MetPM m_X5_neighboursOf [.ref 15, .int p0] h5 (rI (hnd Q (At m_X8_whyNotBegin Q) 0 [some (.ref a), some (.int p0), some (.int p1), none, none] []) (fun x8 h7 => MetPM m_J6_bitCount_0f7a4 [.int (x8 &&& (gi h7 a 7))] h7 (rI (hnd Q (At m_X8_whyNotBegin Q) 0 [some (.ref a), some (.int p0), some (.int p1), some (.int (x8 &&& (gi h7 a 7))), none] []) (fun x10 h9 => ((x10 < (gi h9 15 14) → At m_X8_whyNotBegin Q 85 0 [some (.ref a), some (.int p0), some (.int p1), some (.int (x8 &&& (gi h7 a 7))), some (.int (nI 0))] [] h9) ∧ (¬ x10 < (gi h9 15 14) → Q (.inl (some (.int (nI 5)))) h9))))))) ∧ (x6 = 0 → Q (.inl (some (.int (nI 4)))) h5))))) ∧ ((gi h3 (a + 1) p0.toNatClampNeg) = p1 → Q (.inl (some (.int (nI 3)))) h3)))) ∧ (x4 = 0 → Q (.inl (some (.int (nI 2)))) h3))))) ∧ (¬ x2 = 0 → Q (.inl (some (.int (nI 1)))) h1))))) :
    MetPM m_X8_whyNotBegin [.ref a, .int p0, .int p1] h Q := by
  rcases ha with rfl | rfl
  all_goals exact met_of o_X8_whyNotBegin (Nat.le_of_ble_eq_true rfl) (fun q => absurd rfl q) (vg_ok k_X8_whyNotBegin (stops := [85, 131]) 131 0 0 _ [] h T)
set_option maxRecDepth 100000 in
set_option maxHeartbeats 4000000 in
theorem u_X8_whyNotBegin_85 {a : Nat} (ha : a = 60 ∨ a = 67) {v1 : Int32} {v2 : Int32} {v3 : Int32} {v4 : Int32} {h : PH} {Q : Res → PH → Prop}
    (T : (((gi h 26 1) ≤ v4 → MetPM m_X8_opponents [.ref a, .int v1, .int v2] h (rI (hnd Q (At m_X8_whyNotBegin Q) 0 [some (.ref a), some (.int v1), some (.int v2), some (.int v3), some (.int v4)] []) (fun x2 h1 => ((¬ x2 = 0 → Q (.inl (some (.int (nI 7)))) h1) ∧ (x2 = 0 → Q (.inl (some (.int (nI 0)))) h1))))) ∧ (¬ (gi h 26 1) ≤ v4 → ((v4 = v1 → At m_X8_whyNotBegin Q 131 0 [some (.ref a), some (.int v1), some (.int v2), some (.int v3), some (.int v4)] [] h) ∧ (¬ v4 = v1 → (vp_in v4 12 ∧ (let y3 : Int32 := (if 0 ≤ ((gi h (a + 2) v4.toNatClampNeg) - v2) then ((gi h (a + 2) v4.toNatClampNeg) - v2) else 0 - ((gi h (a + 2) v4.toNatClampNeg) - v2)); ((y3 ≤ (gi h 15 13) → At m_X8_whyNotBegin Q 131 0 [some (.ref a), some (.int v1), some (.int v2), some (.int v3), some (.int v4)] [] h) ∧ (¬ y3 ≤ (gi h 15 13) → Q (.inl (some (.int (nI 6)))) h))))))))) :
    At m_X8_whyNotBegin Q 85 0 [some (.ref a), some (.int v1), some (.int v2), some (.int v3), some (.int v4)] [] h := by
  rcases ha with rfl | rfl
  all_goals exact vg_ok k_X8_whyNotBegin (stops := [85, 131]) 131 85 0 _ _ h T
set_option maxRecDepth 100000 in
set_option maxHeartbeats 4000000 in
theorem u_X8_whyNotBegin_131 {a : Nat} (ha : a = 60 ∨ a = 67) {v1 : Int32} {v2 : Int32} {v3 : Int32} {v4 : Int32} {h : PH} {Q : Res → PH → Prop}
    (T : At m_X8_whyNotBegin Q 85 0 [some (.ref a), some (.int v1), some (.int v2), some (.int v3), some (.int (v4 + (nI 1)))] [] h) :
    At m_X8_whyNotBegin Q 131 0 [some (.ref a), some (.int v1), some (.int v2), some (.int v3), some (.int v4)] [] h := by
  rcases ha with rfl | rfl
  all_goals exact vg_ok k_X8_whyNotBegin (stops := [85, 131]) 131 131 0 _ _ h T
set_option maxRecDepth 100000 in
set_option maxHeartbeats 4000000 in
theorem t_X8_isUnderWay {a : Nat} (ha : a = 60 ∨ a = 67) {h : PH} {Q : Res → PH → Prop}
    (T : (((gi h a 9) = 0 → (isB (nI 0) ∧ Q (.inl (some (.int (nI 0)))) h)) ∧ (¬ (gi h a 9) = 0 → (((gi h a 9) = (nI 4) → (isB (nI 0) ∧ Q (.inl (some (.int (nI 0)))) h)) ∧ (¬ (gi h a 9) = (nI 4) → (isB (nI 1) ∧ Q (.inl (some (.int (nI 1)))) h)))))) :
    MetPM m_X8_isUnderWay [.ref a] h Q := by
  rcases ha with rfl | rfl
  all_goals exact met_of o_X8_isUnderWay (Nat.le_of_ble_eq_true rfl) (fun q => absurd rfl q) (vg_ok k_X8_isUnderWay (stops := []) 61 0 0 _ [] h T)
set_option maxRecDepth 100000 in
set_option maxHeartbeats 4000000 in
theorem t_X8_numberOfPlan {a : Nat} (ha : a = 60 ∨ a = 67) {p0 : Int32} {h : PH} {Q : Res → PH → Prop}
    (T : ((¬ p0 = 0 → MetPM m_X8_isUnderWay [.ref a] h (rI (hnd Q (At m_X8_numberOfPlan Q) 0 [some (.ref a), some (.int p0)] []) (fun x2 h1 => ((¬ x2 = 0 → (((∀ j : Nat, 1 ≤ j → j < 5 → ¬ p0 = nI j) → Q (.inl (some (.int (-(nI 1))))) h1) ∧ (p0 = nI 1 → Q (.inl (some (.int (gi h1 a 10)))) h1) ∧ (p0 = nI 2 → Q (.inl (some (.int (gi h1 a 11)))) h1) ∧ (p0 = nI 3 → Q (.inl (some (.int (gi h1 a 13)))) h1) ∧ (p0 = nI 4 → Q (.inl (some (.int (gi h1 a 14)))) h1) ∧ True)) ∧ (x2 = 0 → Q (.inl (some (.int (-(nI 1))))) h1))))) ∧ (p0 = 0 → Q (.inl (some (.int (gi h a 9)))) h))) :
    MetPM m_X8_numberOfPlan [.ref a, .int p0] h Q := by
  rcases ha with rfl | rfl
  all_goals exact met_of o_X8_numberOfPlan (Nat.le_of_ble_eq_true rfl) (fun q => absurd rfl q) (vg_ok k_X8_numberOfPlan (stops := []) 76 0 0 _ [] h T)
set_option maxRecDepth 100000 in
set_option maxHeartbeats 4000000 in
theorem t_X8_isReadByAll {a : Nat} (ha : a = 60 ∨ a = 67) {p0 : Int32} {h : PH} {Q : Res → PH → Prop}
    (T : MetPM m_X5_readersOf [.ref 15, .int p0] h (rI (hnd Q (At m_X8_isReadByAll Q) 0 [some (.ref a), some (.int p0), none, none] []) (fun x2 h1 => At m_X8_isReadByAll Q 11 0 [some (.ref a), some (.int p0), some (.int x2), some (.int (nI 0))] [] h1))) :
    MetPM m_X8_isReadByAll [.ref a, .int p0] h Q := by
  rcases ha with rfl | rfl
  all_goals exact met_of o_X8_isReadByAll (Nat.le_of_ble_eq_true rfl) (fun q => absurd rfl q) (vg_ok k_X8_isReadByAll (stops := [11]) 76 0 0 _ [] h T)
set_option maxRecDepth 100000 in
set_option maxHeartbeats 4000000 in
theorem u_X8_isReadByAll_11 {a : Nat} (ha : a = 60 ∨ a = 67) {v1 : Int32} {v2 : Int32} {v3 : Int32} {h : PH} {Q : Res → PH → Prop}
    (T : (((gi h 26 1) ≤ v3 → (isB (nI 1) ∧ Q (.inl (some (.int (nI 1)))) h)) ∧ (¬ (gi h 26 1) ≤ v3 → (vp_in v3 12 ∧ MetPM m_X11_isIn [.int v2, .int (gi h (a + 2) v3.toNatClampNeg)] h (rI (hnd Q (At m_X8_isReadByAll Q) 0 [some (.ref a), some (.int v1), some (.int v2), some (.int v3)] []) (fun x2 h1 => ((¬ x2 = 0 → At m_X8_isReadByAll Q 11 0 [some (.ref a), some (.int v1), some (.int v2), some (.int (v3 + (nI 1)))] [] h1) ∧ (x2 = 0 → (isB (nI 0) ∧ Q (.inl (some (.int (nI 0)))) h1))))))))) :
    At m_X8_isReadByAll Q 11 0 [some (.ref a), some (.int v1), some (.int v2), some (.int v3)] [] h := by
  rcases ha with rfl | rfl
  all_goals exact vg_ok k_X8_isReadByAll (stops := [11]) 76 11 0 _ _ h T
set_option maxRecDepth 100000 in
set_option maxHeartbeats 4000000 in
theorem t_X8_whyNotFormat {a : Nat} (ha : a = 60 ∨ a = 67) {p0 : Int32} {h : PH} {Q : Res → PH → Prop}
    (T : (((gi h a 2) < p0 → MetPM m_X8_isReadByAll [.ref a, .int p0] h (rI (hnd Q (At m_X8_whyNotFormat Q) 0 [some (.ref a), some (.int p0)] []) (fun x2 h1 => ((x2 = 0 → Q (.inl (some (.int (nI 2)))) h1) ∧ (¬ x2 = 0 → Q (.inl (some (.int (nI 0)))) h1))))) ∧ (¬ (gi h a 2) < p0 → Q (.inl (some (.int (nI 1)))) h))) :
    MetPM m_X8_whyNotFormat [.ref a, .int p0] h Q := by
  rcases ha with rfl | rfl
  all_goals exact met_of o_X8_whyNotFormat (Nat.le_of_ble_eq_true rfl) (fun q => absurd rfl q) (vg_ok k_X8_whyNotFormat (stops := []) 64 0 0 _ [] h T)
set_option maxRecDepth 100000 in
set_option maxHeartbeats 4000000 in
theorem t_X8_lowestWayBack {a : Nat} (ha : a = 60 ∨ a = 67) {h : PH} {Q : Res → PH → Prop}
    (T : ((¬ (gi h 26 1) = 0 → MetPM m_X5_everyMember [.ref 15] h (rI (hnd Q (At m_X8_lowestWayBack Q) 0 [some (.ref a), none] []) (fun x2 h1 => MetPM m_X8_lowestComing [.ref a, .int x2] h1 (rI (hnd Q (At m_X8_lowestWayBack Q) 0 [some (.ref a), none] []) (fun x4 h3 => At m_X8_lowestWayBack Q 27 0 [some (.ref a), some (.int x4)] [] h3))))) ∧ ((gi h 26 1) = 0 → Q (.inl (some (.int (-(nI 1))))) h))) :
    MetPM m_X8_lowestWayBack [.ref a] h Q := by
  rcases ha with rfl | rfl
  all_goals exact met_of o_X8_lowestWayBack (Nat.le_of_ble_eq_true rfl) (fun q => absurd rfl q) (vg_ok k_X8_lowestWayBack (stops := [27]) 87 0 0 _ [] h T)
set_option maxRecDepth 100000 in
set_option maxHeartbeats 4000000 in
theorem u_X8_lowestWayBack_27 {a : Nat} (ha : a = 60 ∨ a = 67) {v1 : Int32} {h : PH} {Q : Res → PH → Prop}
    (T : ((v1 ≤ 0 → Q (.inl (some (.int v1))) h) ∧ (¬ v1 ≤ 0 → MetPM m_X5_isReader [.ref 15, .int (v1 - (nI 1)), .int (gi h a 2)] h (rI (hnd Q (At m_X8_lowestWayBack Q) 0 [some (.ref a), some (.int v1)] []) (fun x2 h1 => ((x2 = 0 → Q (.inl (some (.int v1))) h1) ∧ (¬ x2 = 0 → MetPM m_X5_talkersOf [.ref 15, .int v1] h1 (rI (hnd Q (At m_X8_lowestWayBack Q) 0 [some (.ref a), some (.int v1)] []) (fun x4 h3 => MetPM m_X11_isIn [.int x4, .int (v1 - (nI 1))] h3 (rI (hnd Q (At m_X8_lowestWayBack Q) 0 [some (.ref a), some (.int v1)] []) (fun x6 h5 => ((x6 = 0 → Q (.inl (some (.int v1))) h5) ∧ (¬ x6 = 0 → At m_X8_lowestWayBack Q 27 0 [some (.ref a), some (.int (v1 + (-(nI 1))))] [] h5))))))))))))) :
    At m_X8_lowestWayBack Q 27 0 [some (.ref a), some (.int v1)] [] h := by
  rcases ha with rfl | rfl
  all_goals exact vg_ok k_X8_lowestWayBack (stops := [27]) 87 27 0 _ _ h T
set_option maxRecDepth 100000 in
set_option maxHeartbeats 4000000 in
theorem t_X8_isActive {a : Nat} (ha : a = 60 ∨ a = 67) {h : PH} {Q : Res → PH → Prop}
    (T : (((gi h a 9) = (nI 1) → (isB (nI 1) ∧ Q (.inl (some (.int (nI 1)))) h)) ∧ (¬ (gi h a 9) = (nI 1) → ((¬ (gi h a 9) = (nI 2) → (isB (nI 0) ∧ Q (.inl (some (.int (nI 0)))) h)) ∧ ((gi h a 9) = (nI 2) → (isB (nI 1) ∧ Q (.inl (some (.int (nI 1)))) h)))))) :
    MetPM m_X8_isActive [.ref a] h Q := by
  rcases ha with rfl | rfl
  all_goals exact met_of o_X8_isActive (Nat.le_of_ble_eq_true rfl) (fun q => absurd rfl q) (vg_ok k_X8_isActive (stops := []) 62 0 0 _ [] h T)
set_option maxRecDepth 100000 in
set_option maxHeartbeats 4000000 in
theorem t_X8_endChanges {a : Nat} (ha : a = 60 ∨ a = 67) {h : PH} {Q : Res → PH → Prop}
    (T : At m_X8_endChanges Q 2 0 [some (.ref a), some (.int (nI 0))] [] h) :
    MetPM m_X8_endChanges [.ref a] h Q := by
  rcases ha with rfl | rfl
  all_goals exact met_of o_X8_endChanges (Nat.le_of_ble_eq_true rfl) (fun q => absurd rfl q) (vg_ok k_X8_endChanges (stops := [2]) 107 0 0 _ [] h T)
set_option maxRecDepth 100000 in
set_option maxHeartbeats 4000000 in
theorem u_X8_endChanges_2 {a : Nat} (ha : a = 60 ∨ a = 67) {v1 : Int32} {h : PH} {Q : Res → PH → Prop}
    (T : (((gi h 26 1) ≤ v1 → Q (.inl none) h) ∧ (¬ (gi h 26 1) ≤ v1 → (vp_in v1 12 ∧ ((¬ (gi h (a + 3) v1.toNatClampNeg) = (gi h a 1) → At m_X8_endChanges Q 2 0 [some (.ref a), some (.int (v1 + (nI 1)))] [] h) ∧ ((gi h (a + 3) v1.toNatClampNeg) = (gi h a 1) → (vp_in v1 12 ∧ (let y1 : Int32 := ((gi (si h (a + 3) v1.toNatClampNeg (-(nI 1))) a 7) &&& (((nI 1) <<< (v1 &&& 31)) ^^^ (-(nI 1)))); (vp_in v1 12 ∧ (vp_in v1 12 ∧ (let h2 : PH := (si (si (si h (a + 3) v1.toNatClampNeg (-(nI 1))) a 7 y1) (a + 1) v1.toNatClampNeg (gi (si (si h (a + 3) v1.toNatClampNeg (-(nI 1))) a 7 y1) (a + 2) v1.toNatClampNeg)); (vp_in v1 12 ∧ (vp_in v1 12 ∧ MetPM m_X3_add [.ref (a + 5), .int (gi (si h2 (a + 4) v1.toNatClampNeg (nI 0)) a 1), .int (nI 1), .int v1, .int (gi (si h2 (a + 4) v1.toNatClampNeg (nI 0)) (a + 1) v1.toNatClampNeg)] (si h2 (a + 4) v1.toNatClampNeg (nI 0)) (rV (hnd Q (At m_X8_endChanges Q) 0 [some (.ref a), some (.int v1)] []) (fun h3 => At m_X8_endChanges Q 2 0 [some (.ref a), some (.int (v1 + (nI 1)))] [] h3))))))))))))))) :
    At m_X8_endChanges Q 2 0 [some (.ref a), some (.int v1)] [] h := by
  rcases ha with rfl | rfl
  all_goals exact vg_ok k_X8_endChanges (stops := [2]) 107 2 0 _ _ h T
set_option maxRecDepth 100000 in
set_option maxHeartbeats 4000000 in
theorem t_X8_reachedOf {a : Nat} (ha : a = 60 ∨ a = 67) {p0 : Int32} {h : PH} {Q : Res → PH → Prop}
    (T : At m_X8_reachedOf Q 11 0 [some (.ref a), some (.int p0), some (.int (p0 &&& ((gi h a 7) ^^^ (-(nI 1))))), some (.int (nI 0))] [] h) :
    MetPM m_X8_reachedOf [.ref a, .int p0] h Q := by
  rcases ha with rfl | rfl
  all_goals exact met_of o_X8_reachedOf (Nat.le_of_ble_eq_true rfl) (fun q => absurd rfl q) (vg_ok k_X8_reachedOf (stops := [11]) 95 0 0 _ [] h T)
set_option maxRecDepth 100000 in
set_option maxHeartbeats 4000000 in
theorem u_X8_reachedOf_11 {a : Nat} (ha : a = 60 ∨ a = 67) {v1 : Int32} {v2 : Int32} {v3 : Int32} {h : PH} {Q : Res → PH → Prop}
    (T : (((gi h 26 1) ≤ v3 → Q (.inl (some (.int v2))) h) ∧ (¬ (gi h 26 1) ≤ v3 → (((gi h a 12) = 0 → (vp_in v3 12 ∧ (((gi h (a + 1) v3.toNatClampNeg) ≤ (gi h a 11) → At m_X8_reachedOf Q 11 0 [some (.ref a), some (.int v1), some (.int v2), some (.int (v3 + (nI 1)))] [] h) ∧ (¬ (gi h (a + 1) v3.toNatClampNeg) ≤ (gi h a 11) → At m_X8_reachedOf Q 11 0 [some (.ref a), some (.int v1), some (.int (v2 &&& (((nI 1) <<< (v3 &&& 31)) ^^^ (-(nI 1))))), some (.int (v3 + (nI 1)))] [] h)))) ∧ (¬ (gi h a 12) = 0 → (vp_in v3 12 ∧ (((gi h a 11) ≤ (gi h (a + 1) v3.toNatClampNeg) → At m_X8_reachedOf Q 11 0 [some (.ref a), some (.int v1), some (.int v2), some (.int (v3 + (nI 1)))] [] h) ∧ (¬ (gi h a 11) ≤ (gi h (a + 1) v3.toNatClampNeg) → At m_X8_reachedOf Q 11 0 [some (.ref a), some (.int v1), some (.int (v2 &&& (((nI 1) <<< (v3 &&& 31)) ^^^ (-(nI 1))))), some (.int (v3 + (nI 1)))] [] h)))))))) :
    At m_X8_reachedOf Q 11 0 [some (.ref a), some (.int v1), some (.int v2), some (.int v3)] [] h := by
  rcases ha with rfl | rfl
  all_goals exact vg_ok k_X8_reachedOf (stops := [11]) 95 11 0 _ _ h T
set_option maxRecDepth 100000 in
set_option maxHeartbeats 4000000 in
theorem t_X8_measuredSet {a : Nat} (ha : a = 60 ∨ a = 67) {h : PH} {Q : Res → PH → Prop}
    (T : MetPM m_X5_plannedMembers [.ref 15] h (rI (hnd Q (At m_X8_measuredSet Q) 0 [some (.ref a)] []) (fun x2 h1 => MetPM m_X8_reachedOf [.ref a, .int x2] h1 (rI (hnd Q (At m_X8_measuredSet Q) 0 [some (.ref a)] []) (fun x4 h3 => Q (.inl (some (.int x4))) h3))))) :
    MetPM m_X8_measuredSet [.ref a] h Q := by
  rcases ha with rfl | rfl
  all_goals exact met_of o_X8_measuredSet (Nat.le_of_ble_eq_true rfl) (fun q => absurd rfl q) (vg_ok k_X8_measuredSet (stops := []) 56 0 0 _ [] h T)
set_option maxRecDepth 100000 in
set_option maxHeartbeats 4000000 in
theorem t_X8_sumOfMeasures {a : Nat} (ha : a = 60 ∨ a = 67) {p0 : Int32} {h : PH} {Q : Res → PH → Prop}
    (T : At m_X8_sumOfMeasures Q 4 0 [some (.ref a), some (.int p0), some (.int (nI 0)), some (.int (nI 0))] [] h) :
    MetPM m_X8_sumOfMeasures [.ref a, .int p0] h Q := by
  rcases ha with rfl | rfl
  all_goals exact met_of o_X8_sumOfMeasures (Nat.le_of_ble_eq_true rfl) (fun q => absurd rfl q) (vg_ok k_X8_sumOfMeasures (stops := [4]) 77 0 0 _ [] h T)
set_option maxRecDepth 100000 in
set_option maxHeartbeats 4000000 in
theorem u_X8_sumOfMeasures_4 {a : Nat} (ha : a = 60 ∨ a = 67) {v1 : Int32} {v2 : Int32} {v3 : Int32} {h : PH} {Q : Res → PH → Prop}
    (T : (((gi h 26 1) ≤ v3 → Q (.inl (some (.int v2))) h) ∧ (¬ (gi h 26 1) ≤ v3 → MetPM m_X11_isIn [.int v1, .int v3] h (rI (hnd Q (At m_X8_sumOfMeasures Q) 0 [some (.ref a), some (.int v1), some (.int v2), some (.int v3)] []) (fun x2 h1 => ((x2 = 0 → At m_X8_sumOfMeasures Q 4 0 [some (.ref a), some (.int v1), some (.int (v2 + (nI 0))), some (.int (v3 + (nI 1)))] [] h1) ∧ (¬ x2 = 0 → (vp_in v3 12 ∧ At m_X8_sumOfMeasures Q 4 0 [some (.ref a), some (.int v1), some (.int (v2 + (gi h1 (a + 4) v3.toNatClampNeg))), some (.int (v3 + (nI 1)))] [] h1)))))))) :
    At m_X8_sumOfMeasures Q 4 0 [some (.ref a), some (.int v1), some (.int v2), some (.int v3)] [] h := by
  rcases ha with rfl | rfl
  all_goals exact vg_ok k_X8_sumOfMeasures (stops := [4]) 77 4 0 _ _ h T
set_option maxRecDepth 100000 in
set_option maxHeartbeats 4000000 in
theorem t_X8_isOverLimit {a : Nat} (ha : a = 60 ∨ a = 67) {h : PH} {Q : Res → PH → Prop}
    (T : MetPM m_X8_measuredSet [.ref a] h (rI (hnd Q (At m_X8_isOverLimit Q) 0 [some (.ref a), none] []) (fun x2 h1 => MetPM m_X8_sumOfMeasures [.ref a, .int x2] h1 (rI (hnd Q (At m_X8_isOverLimit Q) 0 [some (.ref a), some (.int x2)] []) (fun x4 h3 => MetPM m_J6_bitCount_0f7a4 [.int x2] h3 (rI (hnd Q (At m_X8_isOverLimit Q) 0 [some (.ref a), some (.int x2)] []) (fun x6 h5 => ((x4 ≤ ((gi h3 15 17) * x6) → (isB (nI 0) ∧ Q (.inl (some (.int (nI 0)))) h5)) ∧ (¬ x4 ≤ ((gi h3 15 17) * x6) → (isB (nI 1) ∧ Q (.inl (some (.int (nI 1)))) h5)))))))))) :
    MetPM m_X8_isOverLimit [.ref a] h Q := by
  rcases ha with rfl | rfl
  all_goals exact met_of o_X8_isOverLimit (Nat.le_of_ble_eq_true rfl) (fun q => absurd rfl q) (vg_ok k_X8_isOverLimit (stops := []) 67 0 0 _ [] h T)
set_option maxRecDepth 100000 in
set_option maxHeartbeats 4000000 in
theorem t_X8_stopPlan {a : Nat} (ha : a = 60 ∨ a = 67) {h : PH} {Q : Res → PH → Prop}
    (T : MetPM m_X3_add [.ref (a + 5), .int (gi (si h a 9 (nI 3)) a 1), .int (nI 4), .int (-(nI 1)), .int (gi (si h a 9 (nI 3)) a 13)] (si h a 9 (nI 3)) (rV (hnd Q (At m_X8_stopPlan Q) 0 [some (.ref a)] []) (fun h1 => Q (.inl (some (.int (gi h1 a 13)))) h1))) :
    MetPM m_X8_stopPlan [.ref a] h Q := by
  rcases ha with rfl | rfl
  all_goals exact met_of o_X8_stopPlan (Nat.le_of_ble_eq_true rfl) (fun q => absurd rfl q) (vg_ok k_X8_stopPlan (stops := []) 65 0 0 _ [] h T)
set_option maxRecDepth 100000 in
set_option maxHeartbeats 4000000 in
theorem t_X8_finishPlan {a : Nat} (ha : a = 60 ∨ a = 67) {h : PH} {Q : Res → PH → Prop}
    (T : MetPM m_X3_add [.ref (a + 5), .int (gi (si (si h a 9 (nI 4)) a 14 (-(nI 1))) a 1), .int (nI 6), .int (-(nI 1)), .int (gi (si (si h a 9 (nI 4)) a 14 (-(nI 1))) a 10)] (si (si h a 9 (nI 4)) a 14 (-(nI 1))) (rV (hnd Q (At m_X8_finishPlan Q) 0 [some (.ref a)] []) (fun h1 => Q (.inl none) h1))) :
    MetPM m_X8_finishPlan [.ref a] h Q := by
  rcases ha with rfl | rfl
  all_goals exact met_of o_X8_finishPlan (Nat.le_of_ble_eq_true rfl) (fun q => absurd rfl q) (vg_ok k_X8_finishPlan (stops := []) 66 0 0 _ [] h T)
set_option maxRecDepth 100000 in
set_option maxHeartbeats 4000000 in
theorem t_X8_leaveWave {a : Nat} (ha : a = 60 ∨ a = 67) {h : PH} {Q : Res → PH → Prop}
    (T : ((((gi h a 13) + (nI 1)) < (gi h 15 12) → (((nI 0) = 0 → At m_X8_leaveWave Q 42 0 [some (.ref a), some (.int (nI 0))] [] h) ∧ (¬ (nI 0) = 0 → ((¬ (gi h a 11) = (gi h a 10) → At m_X8_leaveWave Q 42 0 [some (.ref a), some (.int (nI 0))] [] h) ∧ ((gi h a 11) = (gi h a 10) → MetPM m_X8_finishPlan [.ref a] h (rV (hnd Q (At m_X8_leaveWave Q) 0 [some (.ref a), some (.int (nI 0))] []) (fun h1 => Q (.inl none) h1))))))) ∧ (¬ ((gi h a 13) + (nI 1)) < (gi h 15 12) → (((nI 1) = 0 → At m_X8_leaveWave Q 42 0 [some (.ref a), some (.int (nI 1))] [] h) ∧ (¬ (nI 1) = 0 → ((¬ (gi h a 11) = (gi h a 10) → At m_X8_leaveWave Q 42 0 [some (.ref a), some (.int (nI 1))] [] h) ∧ ((gi h a 11) = (gi h a 10) → MetPM m_X8_finishPlan [.ref a] h (rV (hnd Q (At m_X8_leaveWave Q) 0 [some (.ref a), some (.int (nI 1))] []) (fun h2 => Q (.inl none) h2))))))))) :
    MetPM m_X8_leaveWave [.ref a] h Q := by
  rcases ha with rfl | rfl
  all_goals exact met_of o_X8_leaveWave (Nat.le_of_ble_eq_true rfl) (fun q => absurd rfl q) (vg_ok k_X8_leaveWave (stops := [42, 67]) 102 0 0 _ [] h T)
set_option maxRecDepth 100000 in
set_option maxHeartbeats 4000000 in
theorem u_X8_leaveWave_42 {a : Nat} (ha : a = 60 ∨ a = 67) {v1 : Int32} {h : PH} {Q : Res → PH → Prop}
    (T : ((v1 = 0 → At m_X8_leaveWave Q 67 0 [some (.ref a), some (.int v1)] [] h) ∧ (¬ v1 = 0 → (((gi h a 12) = 0 → At m_X8_leaveWave Q 67 0 [some (.ref a), some (.int v1)] [] (si h a 11 ((gi h a 11) + (-(nI 1))))) ∧ (¬ (gi h a 12) = 0 → At m_X8_leaveWave Q 67 0 [some (.ref a), some (.int v1)] [] (si h a 11 ((gi h a 11) + (nI 1)))))))) :
    At m_X8_leaveWave Q 42 0 [some (.ref a), some (.int v1)] [] h := by
  rcases ha with rfl | rfl
  all_goals exact vg_ok k_X8_leaveWave (stops := [42, 67]) 102 42 0 _ _ h T
set_option maxRecDepth 100000 in
set_option maxHeartbeats 4000000 in
theorem u_X8_leaveWave_67 {a : Nat} (ha : a = 60 ∨ a = 67) {v1 : Int32} {h : PH} {Q : Res → PH → Prop}
    (T : ((v1 = 0 → Q (.inl none) (si (si (si h a 13 ((gi h a 13) + (nI 1))) a 14 (-(nI 1))) a 9 (nI 1))) ∧ (¬ v1 = 0 → Q (.inl none) (si (si (si h a 13 (nI 0)) a 14 (-(nI 1))) a 9 (nI 1))))) :
    At m_X8_leaveWave Q 67 0 [some (.ref a), some (.int v1)] [] h := by
  rcases ha with rfl | rfl
  all_goals exact vg_ok k_X8_leaveWave (stops := [42, 67]) 102 67 0 _ _ h T
set_option maxRecDepth 100000 in
set_option maxHeartbeats 4000000 in
theorem t_X8_laggards {a : Nat} (ha : a = 60 ∨ a = 67) {h : PH} {Q : Res → PH → Prop}
    (T : MetPM m_X8_isUnderWay [.ref a] h (rI (hnd Q (At m_X8_laggards Q) 0 [some (.ref a), none] []) (fun x2 h1 => ((x2 = 0 → Q (.inl (some (.int (nI 0)))) h1) ∧ (¬ x2 = 0 → (((gi h1 a 13) < 0 → Q (.inl (some (.int (nI 0)))) h1) ∧ (¬ (gi h1 a 13) < 0 → (((gi h1 a 13) < (gi h1 15 12) → (vp_in (gi h1 a 13) 5 ∧ MetPM m_X8_reachedOf [.ref a, .int (gi h1 25 (gi h1 a 13).toNatClampNeg)] h1 (rI (hnd Q (At m_X8_laggards Q) 0 [some (.ref a), some (.int (gi h1 25 (gi h1 a 13).toNatClampNeg))] []) (fun x4 h3 => Q (.inl (some (.int ((gi h1 25 (gi h1 a 13).toNatClampNeg) &&& (x4 ^^^ (-(nI 1))))))) h3)))) ∧ (¬ (gi h1 a 13) < (gi h1 15 12) → Q (.inl (some (.int (nI 0)))) h1))))))))) :
    MetPM m_X8_laggards [.ref a] h Q := by
  rcases ha with rfl | rfl
  all_goals exact met_of o_X8_laggards (Nat.le_of_ble_eq_true rfl) (fun q => absurd rfl q) (vg_ok k_X8_laggards (stops := []) 79 0 0 _ [] h T)
set_option maxRecDepth 100000 in
set_option maxHeartbeats 4000000 in
theorem t_X8_beginChange {a : Nat} (ha : a = 60 ∨ a = 67) {p0 : Int32} {p1 : Int32} {h : PH} {Q : Res → PH → Prop}
    (T : (vp_in p0 12 ∧ (let y1 : Int32 := ((gi (si h (a + 2) p0.toNatClampNeg p1) a 1) + (gi (si h (a + 2) p0.toNatClampNeg p1) 15 15)); (vp_in p0 12 ∧ (let y2 : Int32 := ((gi (si (si h (a + 2) p0.toNatClampNeg p1) (a + 3) p0.toNatClampNeg y1) a 7) ||| ((nI 1) <<< (p0 &&& 31))); MetPM m_X3_add [.ref (a + 5), .int (gi (si (si (si h (a + 2) p0.toNatClampNeg p1) (a + 3) p0.toNatClampNeg y1) a 7 y2) a 1), .int (nI 0), .int p0, .int p1] (si (si (si h (a + 2) p0.toNatClampNeg p1) (a + 3) p0.toNatClampNeg y1) a 7 y2) (rV (hnd Q (At m_X8_beginChange Q) 0 [some (.ref a), some (.int p0), some (.int p1)] []) (fun h3 => (vp_in p0 12 ∧ Q (.inl (some (.int (gi h3 (a + 3) p0.toNatClampNeg)))) h3)))))))) :
    MetPM m_X8_beginChange [.ref a, .int p0, .int p1] h Q := by
  rcases ha with rfl | rfl
  all_goals exact met_of o_X8_beginChange (Nat.le_of_ble_eq_true rfl) (fun q => absurd rfl q) (vg_ok k_X8_beginChange (stops := []) 86 0 0 _ [] h T)
set_option maxRecDepth 100000 in
set_option maxHeartbeats 4000000 in
theorem t_X8_beginChanges {a : Nat} (ha : a = 60 ∨ a = 67) {h : PH} {Q : Res → PH → Prop}
    (T : MetPM m_X8_laggards [.ref a] h (rI (hnd Q (At m_X8_beginChanges Q) 0 [some (.ref a), some (.int (nI 0)), none, none] []) (fun x2 h1 => At m_X8_beginChanges Q 23 0 [some (.ref a), some (.int (nI 0)), some (.int ((x2 &&& ((gi h1 a 7) ^^^ (-(nI 1)))) &&& ((gi h1 a 8) ^^^ (-(nI 1))))), some (.int (nI 0))] [] h1))) :
    MetPM m_X8_beginChanges [.ref a] h Q := by
  rcases ha with rfl | rfl
  all_goals exact met_of o_X8_beginChanges (Nat.le_of_ble_eq_true rfl) (fun q => absurd rfl q) (vg_ok k_X8_beginChanges (stops := [23]) 94 0 0 _ [] h T)
set_option maxRecDepth 100000 in
set_option maxHeartbeats 4000000 in
theorem u_X8_beginChanges_23 {a : Nat} (ha : a = 60 ∨ a = 67) {v1 : Int32} {v2 : Int32} {v3 : Int32} {h : PH} {Q : Res → PH → Prop}
    (T : (((gi h 26 1) ≤ v3 → Q (.inl (some (.int v1))) h) ∧ (¬ (gi h 26 1) ≤ v3 → MetPM m_X11_isIn [.int v2, .int v3] h (rI (hnd Q (At m_X8_beginChanges Q) 0 [some (.ref a), some (.int v1), some (.int v2), some (.int v3)] []) (fun x2 h1 => ((x2 = 0 → At m_X8_beginChanges Q 23 0 [some (.ref a), some (.int v1), some (.int v2), some (.int (v3 + (nI 1)))] [] h1) ∧ (¬ x2 = 0 → MetPM m_X8_whyNotBegin [.ref a, .int v3, .int (gi h1 a 11)] h1 (rI (hnd Q (At m_X8_beginChanges Q) 0 [some (.ref a), some (.int v1), some (.int v2), some (.int v3)] []) (fun x4 h3 => ((¬ x4 = 0 → At m_X8_beginChanges Q 23 0 [some (.ref a), some (.int v1), some (.int v2), some (.int (v3 + (nI 1)))] [] h3) ∧ (x4 = 0 → MetPM m_X8_beginChange [.ref a, .int v3, .int (gi h3 a 11)] h3 (rI (hnd Q (At m_X8_beginChanges Q) 0 [some (.ref a), some (.int v1), some (.int v2), some (.int v3)] []) (fun x6 h5 => At m_X8_beginChanges Q 23 0 [some (.ref a), some (.int (v1 + (nI 1))), some (.int v2), some (.int (v3 + (nI 1)))] [] h5))))))))))))) :
    At m_X8_beginChanges Q 23 0 [some (.ref a), some (.int v1), some (.int v2), some (.int v3)] [] h := by
  rcases ha with rfl | rfl
  all_goals exact vg_ok k_X8_beginChanges (stops := [23]) 94 23 0 _ _ h T
set_option maxRecDepth 100000 in
set_option maxHeartbeats 4000000 in
theorem t_X8_soakIfComplete {a : Nat} (ha : a = 60 ∨ a = 67) {h : PH} {Q : Res → PH → Prop}
    (T : MetPM m_X8_laggards [.ref a] h (rI (hnd Q (At m_X8_soakIfComplete Q) 0 [some (.ref a)] []) (fun x2 h1 => ((¬ (x2 &&& ((gi h1 a 8) ^^^ (-(nI 1)))) = 0 → Q (.inl none) h1) ∧ ((x2 &&& ((gi h1 a 8) ^^^ (-(nI 1)))) = 0 → (let y3 : Int32 := (gi (si (si h1 a 9 (nI 2)) a 14 ((gi (si h1 a 9 (nI 2)) a 1) + (gi (si h1 a 9 (nI 2)) 15 16))) a 1); (let y4 : Int32 := (gi (si (si h1 a 9 (nI 2)) a 14 ((gi (si h1 a 9 (nI 2)) a 1) + (gi (si h1 a 9 (nI 2)) 15 16))) a 13); MetPM m_X3_add [.ref (a + 5), .int y3, .int (nI 3), .int (-(nI 1)), .int y4] (si (si h1 a 9 (nI 2)) a 14 ((gi (si h1 a 9 (nI 2)) a 1) + (gi (si h1 a 9 (nI 2)) 15 16))) (rV (hnd Q (At m_X8_soakIfComplete Q) 0 [some (.ref a)] []) (fun h5 => Q (.inl none) h5))))))))) :
    MetPM m_X8_soakIfComplete [.ref a] h Q := by
  rcases ha with rfl | rfl
  all_goals exact met_of o_X8_soakIfComplete (Nat.le_of_ble_eq_true rfl) (fun q => absurd rfl q) (vg_ok k_X8_soakIfComplete (stops := []) 79 0 0 _ [] h T)
set_option maxRecDepth 100000 in
set_option maxHeartbeats 4000000 in
theorem t_X8_passMinute {a : Nat} (ha : a = 60 ∨ a = 67) {h : PH} {Q : Res → PH → Prop}
    (T : MetPM m_X8_endChanges [.ref a] (si h a 1 ((gi h a 1) + (nI 1))) (rV (hnd Q (At m_X8_passMinute Q) 0 [some (.ref a), some (.int (nI 0))] []) (fun h1 => MetPM m_X8_isActive [.ref a] h1 (rI (hnd Q (At m_X8_passMinute Q) 0 [some (.ref a), some (.int (nI 0))] []) (fun x3 h2 => ((x3 = 0 → At m_X8_passMinute Q 35 0 [some (.ref a), some (.int (nI 0))] [] h2) ∧ (¬ x3 = 0 → MetPM m_X8_isOverLimit [.ref a] h2 (rI (hnd Q (At m_X8_passMinute Q) 0 [some (.ref a), some (.int (nI 0))] []) (fun x5 h4 => ((x5 = 0 → At m_X8_passMinute Q 35 0 [some (.ref a), some (.int (nI 0))] [] h4) ∧ (¬ x5 = 0 → MetPM m_X8_stopPlan [.ref a] h4 (rI (hnd Q (At m_X8_passMinute Q) 0 [some (.ref a), some (.int (nI 0))] []) (fun x7 h6 => At m_X8_passMinute Q 35 0 [some (.ref a), some (.int (nI 0))] [] h6))))))))))))) :
    MetPM m_X8_passMinute [.ref a] h Q := by
  rcases ha with rfl | rfl
  all_goals exact met_of o_X8_passMinute (Nat.le_of_ble_eq_true rfl) (fun q => absurd rfl q) (vg_ok k_X8_passMinute (stops := [35, 58, 75]) 91 0 0 _ [] h T)
set_option maxRecDepth 100000 in
set_option maxHeartbeats 4000000 in
theorem u_X8_passMinute_35 {a : Nat} (ha : a = 60 ∨ a = 67) {v1 : Int32} {h : PH} {Q : Res → PH → Prop}
    (T : ((¬ (gi h a 9) = (nI 2) → At m_X8_passMinute Q 58 0 [some (.ref a), some (.int v1)] [] h) ∧ ((gi h a 9) = (nI 2) → (((gi h a 1) < (gi h a 14) → At m_X8_passMinute Q 58 0 [some (.ref a), some (.int v1)] [] h) ∧ (¬ (gi h a 1) < (gi h a 14) → MetPM m_X8_leaveWave [.ref a] h (rV (hnd Q (At m_X8_passMinute Q) 0 [some (.ref a), some (.int v1)] []) (fun h1 => At m_X8_passMinute Q 58 0 [some (.ref a), some (.int v1)] [] h1))))))) :
    At m_X8_passMinute Q 35 0 [some (.ref a), some (.int v1)] [] h := by
  rcases ha with rfl | rfl
  all_goals exact vg_ok k_X8_passMinute (stops := [35, 58, 75]) 91 35 0 _ _ h T
set_option maxRecDepth 100000 in
set_option maxHeartbeats 4000000 in
theorem u_X8_passMinute_58 {a : Nat} (ha : a = 60 ∨ a = 67) {v1 : Int32} {h : PH} {Q : Res → PH → Prop}
    (T : ((¬ (gi h a 9) = (nI 1) → At m_X8_passMinute Q 75 0 [some (.ref a), some (.int v1)] [] h) ∧ ((gi h a 9) = (nI 1) → MetPM m_X8_beginChanges [.ref a] h (rI (hnd Q (At m_X8_passMinute Q) 0 [some (.ref a), some (.int v1)] []) (fun x2 h1 => MetPM m_X8_soakIfComplete [.ref a] h1 (rV (hnd Q (At m_X8_passMinute Q) 0 [some (.ref a), some (.int x2)] []) (fun h3 => At m_X8_passMinute Q 75 0 [some (.ref a), some (.int x2)] [] h3))))))) :
    At m_X8_passMinute Q 58 0 [some (.ref a), some (.int v1)] [] h := by
  rcases ha with rfl | rfl
  all_goals exact vg_ok k_X8_passMinute (stops := [35, 58, 75]) 91 58 0 _ _ h T
set_option maxRecDepth 100000 in
set_option maxHeartbeats 4000000 in
theorem u_X8_passMinute_75 {a : Nat} (ha : a = 60 ∨ a = 67) {v1 : Int32} {h : PH} {Q : Res → PH → Prop}
    (T : Q (.inl (some (.int v1))) h) :
    At m_X8_passMinute Q 75 0 [some (.ref a), some (.int v1)] [] h := by
  rcases ha with rfl | rfl
  all_goals exact vg_ok k_X8_passMinute (stops := [35, 58, 75]) 91 75 0 _ _ h T
set_option maxRecDepth 100000 in
set_option maxHeartbeats 4000000 in
theorem t_X8_isStuck {a : Nat} (ha : a = 60 ∨ a = 67) {p0 : Int32} {h : PH} {Q : Res → PH → Prop}
    (T : ((¬ (gi h a 9) = (nI 1) → (isB (nI 0) ∧ Q (.inl (some (.int (nI 0)))) h)) ∧ ((gi h a 9) = (nI 1) → ((¬ p0 = 0 → (isB (nI 0) ∧ Q (.inl (some (.int (nI 0)))) h)) ∧ (p0 = 0 → ((¬ (gi h a 7) = 0 → (isB (nI 0) ∧ Q (.inl (some (.int (nI 0)))) h)) ∧ ((gi h a 7) = 0 → (isB (nI 1) ∧ Q (.inl (some (.int (nI 1)))) h)))))))) :
    MetPM m_X8_isStuck [.ref a, .int p0] h Q := by
  rcases ha with rfl | rfl
  all_goals exact met_of o_X8_isStuck (Nat.le_of_ble_eq_true rfl) (fun q => absurd rfl q) (vg_ok k_X8_isStuck (stops := []) 63 0 0 _ [] h T)
set_option maxRecDepth 100000 in
set_option maxHeartbeats 4000000 in
theorem t_X8_minutesToDone {a : Nat} (ha : a = 60 ∨ a = 67) {p0 : Int32} {h : PH} {Q : Res → PH → Prop}
    (T : At m_X8_minutesToDone Q 4 0 [some (.ref a), some (.int p0), some (.int (nI 0)), some (.int (nI 0))] [] h) :
    MetPM m_X8_minutesToDone [.ref a, .int p0] h Q := by
  rcases ha with rfl | rfl
  all_goals exact met_of o_X8_minutesToDone (Nat.le_of_ble_eq_true rfl) (fun q => absurd rfl q) (vg_ok k_X8_minutesToDone (stops := [4]) 81 0 0 _ [] h T)
set_option maxRecDepth 100000 in
set_option maxHeartbeats 4000000 in
theorem u_X8_minutesToDone_4 {a : Nat} (ha : a = 60 ∨ a = 67) {v1 : Int32} {v2 : Int32} {v3 : Int32} {h : PH} {Q : Res → PH → Prop}
    (T : ((v1 < v3 → Q (.inl (some (.int (-(nI 1))))) h) ∧ (¬ v1 < v3 → ((¬ (gi h a 9) = (nI 4) → MetPM m_X8_isActive [.ref a] h (rI (hnd Q (At m_X8_minutesToDone Q) 0 [some (.ref a), some (.int v1), some (.int v2), some (.int v3)] []) (fun x2 h1 => ((¬ x2 = 0 → MetPM m_X8_passMinute [.ref a] h1 (rI (hnd Q (At m_X8_minutesToDone Q) 0 [some (.ref a), some (.int v1), some (.int v2), some (.int v3)] []) (fun x4 h3 => MetPM m_X8_isStuck [.ref a, .int x4] h3 (rI (hnd Q (At m_X8_minutesToDone Q) 0 [some (.ref a), some (.int v1), some (.int x4), some (.int v3)] []) (fun x6 h5 => ((x6 = 0 → At m_X8_minutesToDone Q 4 0 [some (.ref a), some (.int v1), some (.int x4), some (.int (v3 + (nI 1)))] [] h5) ∧ (¬ x6 = 0 → Q (.inl (some (.int (-(nI 1))))) h5))))))) ∧ (x2 = 0 → Q (.inl (some (.int (-(nI 1))))) h1))))) ∧ ((gi h a 9) = (nI 4) → Q (.inl (some (.int v3))) h))))) :
    At m_X8_minutesToDone Q 4 0 [some (.ref a), some (.int v1), some (.int v2), some (.int v3)] [] h := by
  rcases ha with rfl | rfl
  all_goals exact vg_ok k_X8_minutesToDone (stops := [4]) 81 4 0 _ _ h T
set_option maxRecDepth 100000 in
set_option maxHeartbeats 4000000 in
theorem t_X8_canPass {a : Nat} (ha : a = 60 ∨ a = 67) {p0 : Int32} {h : PH} {Q : Res → PH → Prop}
    (T : ((p0 < 0 → (isB (nI 0) ∧ Q (.inl (some (.int (nI 0)))) h)) ∧ (¬ p0 < 0 → (((nI 999) < p0 → (isB (nI 0) ∧ Q (.inl (some (.int (nI 0)))) h)) ∧ (¬ (nI 999) < p0 → (((nI 20000) < ((gi h a 1) + p0) → (isB (nI 0) ∧ Q (.inl (some (.int (nI 0)))) h)) ∧ (¬ (nI 20000) < ((gi h a 1) + p0) → (isB (nI 1) ∧ Q (.inl (some (.int (nI 1)))) h)))))))) :
    MetPM m_X8_canPass [.ref a, .int p0] h Q := by
  rcases ha with rfl | rfl
  all_goals exact met_of o_X8_canPass (Nat.le_of_ble_eq_true rfl) (fun q => absurd rfl q) (vg_ok k_X8_canPass (stops := []) 65 0 0 _ [] h T)
set_option maxRecDepth 100000 in
set_option maxHeartbeats 4000000 in
theorem t_X8_passMinutes {a : Nat} (ha : a = 60 ∨ a = 67) {p0 : Int32} {h : PH} {Q : Res → PH → Prop}
    (T : At m_X8_passMinutes Q 2 0 [some (.ref a), some (.int p0), some (.int (nI 0))] [] h) :
    MetPM m_X8_passMinutes [.ref a, .int p0] h Q := by
  rcases ha with rfl | rfl
  all_goals exact met_of o_X8_passMinutes (Nat.le_of_ble_eq_true rfl) (fun q => absurd rfl q) (vg_ok k_X8_passMinutes (stops := [2]) 63 0 0 _ [] h T)
set_option maxRecDepth 100000 in
set_option maxHeartbeats 4000000 in
theorem u_X8_passMinutes_2 {a : Nat} (ha : a = 60 ∨ a = 67) {v1 : Int32} {v2 : Int32} {h : PH} {Q : Res → PH → Prop}
    (T : ((v1 ≤ v2 → Q (.inl (some (.int (gi h a 1)))) h) ∧ (¬ v1 ≤ v2 → MetPM m_X8_passMinute [.ref a] h (rI (hnd Q (At m_X8_passMinutes Q) 0 [some (.ref a), some (.int v1), some (.int v2)] []) (fun x2 h1 => At m_X8_passMinutes Q 2 0 [some (.ref a), some (.int v1), some (.int (v2 + (nI 1)))] [] h1))))) :
    At m_X8_passMinutes Q 2 0 [some (.ref a), some (.int v1), some (.int v2)] [] h := by
  rcases ha with rfl | rfl
  all_goals exact vg_ok k_X8_passMinutes (stops := [2]) 63 2 0 _ _ h T
set_option maxRecDepth 100000 in
set_option maxHeartbeats 4000000 in
theorem t_X8_canStart {a : Nat} (ha : a = 60 ∨ a = 67) {h : PH} {Q : Res → PH → Prop}
    (T : (((gi h 15 12) ≤ 0 → (isB (nI 0) ∧ Q (.inl (some (.int (nI 0)))) h)) ∧ (¬ (gi h 15 12) ≤ 0 → MetPM m_X8_isActive [.ref a] h (rI (hnd Q (At m_X8_canStart Q) 0 [some (.ref a)] []) (fun x2 h1 => ((¬ x2 = 0 → (isB (nI 0) ∧ Q (.inl (some (.int (nI 0)))) h1)) ∧ (x2 = 0 → (isB (nI 1) ∧ Q (.inl (some (.int (nI 1)))) h1)))))))) :
    MetPM m_X8_canStart [.ref a] h Q := by
  rcases ha with rfl | rfl
  all_goals exact met_of o_X8_canStart (Nat.le_of_ble_eq_true rfl) (fun q => absurd rfl q) (vg_ok k_X8_canStart (stops := []) 61 0 0 _ [] h T)
set_option maxRecDepth 100000 in
set_option maxHeartbeats 4000000 in
theorem t_X8_startPlan {a : Nat} (ha : a = 60 ∨ a = 67) {p0 : Int32} {h : PH} {Q : Res → PH → Prop}
    (T : MetPM m_X5_plannedMembers [.ref 15] h (rI (hnd Q (At m_X8_startPlan Q) 0 [some (.ref a), some (.int p0), none, none, none] []) (fun x2 h1 => MetPM m_X8_lowestComing [.ref a, .int (x2 &&& ((gi h1 a 8) ^^^ (-(nI 1))))] h1 (rI (hnd Q (At m_X8_startPlan Q) 0 [some (.ref a), some (.int p0), some (.int (x2 &&& ((gi h1 a 8) ^^^ (-(nI 1))))), none, none] []) (fun x4 h3 => MetPM m_X8_highestComing [.ref a, .int (x2 &&& ((gi h1 a 8) ^^^ (-(nI 1))))] h3 (rI (hnd Q (At m_X8_startPlan Q) 0 [some (.ref a), some (.int p0), some (.int (x2 &&& ((gi h1 a 8) ^^^ (-(nI 1))))), some (.int x4), none] []) (fun x6 h5 => MetPM m_X3_add [.ref (a + 5), .int (gi h5 a 1), .int (nI 2), .int (-(nI 1)), .int p0] h5 (rV (hnd Q (At m_X8_startPlan Q) 0 [some (.ref a), some (.int p0), some (.int (x2 &&& ((gi h1 a 8) ^^^ (-(nI 1))))), some (.int x4), some (.int x6)] []) (fun h7 => (((x2 &&& ((gi h1 a 8) ^^^ (-(nI 1)))) = 0 → At m_X8_startPlan Q 67 0 [some (.ref a), some (.int p0), some (.int (x2 &&& ((gi h1 a 8) ^^^ (-(nI 1))))), some (.int x4), some (.int x6)] [] (si (si h7 a 10 p0) a 14 (-(nI 1)))) ∧ (¬ (x2 &&& ((gi h1 a 8) ^^^ (-(nI 1)))) = 0 → ((¬ x4 = p0 → At m_X8_startPlan Q 73 0 [some (.ref a), some (.int p0), some (.int (x2 &&& ((gi h1 a 8) ^^^ (-(nI 1))))), some (.int x4), some (.int x6)] [] (si (si h7 a 10 p0) a 14 (-(nI 1)))) ∧ (x4 = p0 → ((¬ x6 = p0 → At m_X8_startPlan Q 73 0 [some (.ref a), some (.int p0), some (.int (x2 &&& ((gi h1 a 8) ^^^ (-(nI 1))))), some (.int x4), some (.int x6)] [] (si (si h7 a 10 p0) a 14 (-(nI 1)))) ∧ (x6 = p0 → At m_X8_startPlan Q 67 0 [some (.ref a), some (.int p0), some (.int (x2 &&& ((gi h1 a 8) ^^^ (-(nI 1))))), some (.int x4), some (.int x6)] [] (si (si h7 a 10 p0) a 14 (-(nI 1)))))))))))))))))) :
    MetPM m_X8_startPlan [.ref a, .int p0] h Q := by
  rcases ha with rfl | rfl
  all_goals exact met_of o_X8_startPlan (Nat.le_of_ble_eq_true rfl) (fun q => absurd rfl q) (vg_ok k_X8_startPlan (stops := [67, 73]) 122 0 0 _ [] h T)
set_option maxRecDepth 100000 in
set_option maxHeartbeats 4000000 in
theorem u_X8_startPlan_67 {a : Nat} (ha : a = 60 ∨ a = 67) {v1 : Int32} {v2 : Int32} {v3 : Int32} {v4 : Int32} {h : PH} {Q : Res → PH → Prop}
    (T : MetPM m_X8_finishPlan [.ref a] h (rV (hnd Q (At m_X8_startPlan Q) 0 [some (.ref a), some (.int v1), some (.int v2), some (.int v3), some (.int v4)] []) (fun h1 => Q (.inl (some (.int (-(nI 1))))) h1))) :
    At m_X8_startPlan Q 67 0 [some (.ref a), some (.int v1), some (.int v2), some (.int v3), some (.int v4)] [] h := by
  rcases ha with rfl | rfl
  all_goals exact vg_ok k_X8_startPlan (stops := [67, 73]) 122 67 0 _ _ h T
set_option maxRecDepth 100000 in
set_option maxHeartbeats 4000000 in
theorem u_X8_startPlan_73 {a : Nat} (ha : a = 60 ∨ a = 67) {v1 : Int32} {v2 : Int32} {v3 : Int32} {v4 : Int32} {h : PH} {Q : Res → PH → Prop}
    (T : ((v1 ≤ v3 → (isB (nI 0) ∧ (((gi (si h a 12 (nI 0)) a 12) = 0 → Q (.inl (some (.int (gi (si (si (si (si h a 12 (nI 0)) a 11 (v4 - (nI 1))) a 13 (nI 0)) a 9 (nI 1)) a 11)))) (si (si (si (si h a 12 (nI 0)) a 11 (v4 - (nI 1))) a 13 (nI 0)) a 9 (nI 1))) ∧ (¬ (gi (si h a 12 (nI 0)) a 12) = 0 → Q (.inl (some (.int (gi (si (si (si (si h a 12 (nI 0)) a 11 (v3 + (nI 1))) a 13 (nI 0)) a 9 (nI 1)) a 11)))) (si (si (si (si h a 12 (nI 0)) a 11 (v3 + (nI 1))) a 13 (nI 0)) a 9 (nI 1)))))) ∧ (¬ v1 ≤ v3 → (isB (nI 1) ∧ (((gi (si h a 12 (nI 1)) a 12) = 0 → Q (.inl (some (.int (gi (si (si (si (si h a 12 (nI 1)) a 11 (v4 - (nI 1))) a 13 (nI 0)) a 9 (nI 1)) a 11)))) (si (si (si (si h a 12 (nI 1)) a 11 (v4 - (nI 1))) a 13 (nI 0)) a 9 (nI 1))) ∧ (¬ (gi (si h a 12 (nI 1)) a 12) = 0 → Q (.inl (some (.int (gi (si (si (si (si h a 12 (nI 1)) a 11 (v3 + (nI 1))) a 13 (nI 0)) a 9 (nI 1)) a 11)))) (si (si (si (si h a 12 (nI 1)) a 11 (v3 + (nI 1))) a 13 (nI 0)) a 9 (nI 1)))))))) :
    At m_X8_startPlan Q 73 0 [some (.ref a), some (.int v1), some (.int v2), some (.int v3), some (.int v4)] [] h := by
  rcases ha with rfl | rfl
  all_goals exact vg_ok k_X8_startPlan (stops := [67, 73]) 122 73 0 _ _ h T
set_option maxRecDepth 100000 in
set_option maxHeartbeats 4000000 in
theorem t_X8_resumePlan {a : Nat} (ha : a = 60 ∨ a = 67) {h : PH} {Q : Res → PH → Prop}
    (T : ((¬ (gi h a 14) = (-(nI 1)) → MetPM m_X3_add [.ref (a + 5), .int (gi (si h a 9 (nI 2)) a 1), .int (nI 5), .int (-(nI 1)), .int (gi (si h a 9 (nI 2)) a 13)] (si h a 9 (nI 2)) (rV (hnd Q (At m_X8_resumePlan Q) 0 [some (.ref a)] []) (fun h1 => Q (.inl (some (.int (gi h1 a 13)))) h1))) ∧ ((gi h a 14) = (-(nI 1)) → MetPM m_X3_add [.ref (a + 5), .int (gi (si h a 9 (nI 1)) a 1), .int (nI 5), .int (-(nI 1)), .int (gi (si h a 9 (nI 1)) a 13)] (si h a 9 (nI 1)) (rV (hnd Q (At m_X8_resumePlan Q) 0 [some (.ref a)] []) (fun h2 => Q (.inl (some (.int (gi h2 a 13)))) h2))))) :
    MetPM m_X8_resumePlan [.ref a] h Q := by
  rcases ha with rfl | rfl
  all_goals exact met_of o_X8_resumePlan (Nat.le_of_ble_eq_true rfl) (fun q => absurd rfl q) (vg_ok k_X8_resumePlan (stops := []) 71 0 0 _ [] h T)
set_option maxRecDepth 100000 in
set_option maxHeartbeats 4000000 in
theorem t_X8_setHeld {a : Nat} (ha : a = 60 ∨ a = 67) {p0 : Int32} {p1 : Int32} {h : PH} {Q : Res → PH → Prop}
    (T : ((p1 = 0 → ((p1 = 0 → MetPM m_X3_add [.ref (a + 5), .int (gi (si h a 8 ((gi h a 8) &&& (((nI 1) <<< (p0 &&& 31)) ^^^ (-(nI 1))))) a 1), .int (nI 8), .int p0, .int (nI 0)] (si h a 8 ((gi h a 8) &&& (((nI 1) <<< (p0 &&& 31)) ^^^ (-(nI 1))))) (rV (hnd Q (At m_X8_setHeld Q) 0 [some (.ref a), some (.int p0), some (.int p1)] []) (fun h1 => MetPM m_J6_bitCount_0f7a4 [.int (gi h1 a 8)] h1 (rI (hnd Q (At m_X8_setHeld Q) 0 [some (.ref a), some (.int p0), some (.int p1)] []) (fun x3 h2 => Q (.inl (some (.int x3))) h2))))) ∧ (¬ p1 = 0 → MetPM m_X3_add [.ref (a + 5), .int (gi (si h a 8 ((gi h a 8) &&& (((nI 1) <<< (p0 &&& 31)) ^^^ (-(nI 1))))) a 1), .int (nI 8), .int p0, .int (nI 1)] (si h a 8 ((gi h a 8) &&& (((nI 1) <<< (p0 &&& 31)) ^^^ (-(nI 1))))) (rV (hnd Q (At m_X8_setHeld Q) 0 [some (.ref a), some (.int p0), some (.int p1)] []) (fun h4 => MetPM m_J6_bitCount_0f7a4 [.int (gi h4 a 8)] h4 (rI (hnd Q (At m_X8_setHeld Q) 0 [some (.ref a), some (.int p0), some (.int p1)] []) (fun x6 h5 => Q (.inl (some (.int x6))) h5))))))) ∧ (¬ p1 = 0 → ((p1 = 0 → MetPM m_X3_add [.ref (a + 5), .int (gi (si h a 8 ((gi h a 8) ||| ((nI 1) <<< (p0 &&& 31)))) a 1), .int (nI 8), .int p0, .int (nI 0)] (si h a 8 ((gi h a 8) ||| ((nI 1) <<< (p0 &&& 31)))) (rV (hnd Q (At m_X8_setHeld Q) 0 [some (.ref a), some (.int p0), some (.int p1)] []) (fun h7 => MetPM m_J6_bitCount_0f7a4 [.int (gi h7 a 8)] h7 (rI (hnd Q (At m_X8_setHeld Q) 0 [some (.ref a), some (.int p0), some (.int p1)] []) (fun x9 h8 => Q (.inl (some (.int x9))) h8))))) ∧ (¬ p1 = 0 → MetPM m_X3_add [.ref (a + 5), .int (gi (si h a 8 ((gi h a 8) ||| ((nI 1) <<< (p0 &&& 31)))) a 1), .int (nI 8), .int p0, .int (nI 1)] (si h a 8 ((gi h a 8) ||| ((nI 1) <<< (p0 &&& 31)))) (rV (hnd Q (At m_X8_setHeld Q) 0 [some (.ref a), some (.int p0), some (.int p1)] []) (fun h10 => MetPM m_J6_bitCount_0f7a4 [.int (gi h10 a 8)] h10 (rI (hnd Q (At m_X8_setHeld Q) 0 [some (.ref a), some (.int p0), some (.int p1)] []) (fun x12 h11 => Q (.inl (some (.int x12))) h11))))))))) :
    MetPM m_X8_setHeld [.ref a, .int p0, .int p1] h Q := by
  rcases ha with rfl | rfl
  all_goals exact met_of o_X8_setHeld (Nat.le_of_ble_eq_true rfl) (fun q => absurd rfl q) (vg_ok k_X8_setHeld (stops := []) 85 0 0 _ [] h T)
set_option maxRecDepth 100000 in
set_option maxHeartbeats 4000000 in
theorem t_X8_setMeasure {a : Nat} (ha : a = 60 ∨ a = 67) {p0 : Int32} {p1 : Int32} {h : PH} {Q : Res → PH → Prop}
    (T : (vp_in p0 12 ∧ (vp_in p0 12 ∧ Q (.inl (some (.int (gi h (a + 4) p0.toNatClampNeg)))) (si h (a + 4) p0.toNatClampNeg p1)))) :
    MetPM m_X8_setMeasure [.ref a, .int p0, .int p1] h Q := by
  rcases ha with rfl | rfl
  all_goals exact met_of o_X8_setMeasure (Nat.le_of_ble_eq_true rfl) (fun q => absurd rfl q) (vg_ok k_X8_setMeasure (stops := []) 62 0 0 _ [] h T)
set_option maxRecDepth 100000 in
set_option maxHeartbeats 4000000 in
theorem t_X8_setFormat {a : Nat} (ha : a = 60 ∨ a = 67) {p0 : Int32} {h : PH} {Q : Res → PH → Prop}
    (T : MetPM m_X3_add [.ref (a + 5), .int (gi (si h a 2 p0) a 1), .int (nI 7), .int (-(nI 1)), .int p0] (si h a 2 p0) (rV (hnd Q (At m_X8_setFormat Q) 0 [some (.ref a), some (.int p0), some (.int (gi h a 2))] []) (fun h1 => Q (.inl (some (.int (gi h a 2)))) h1))) :
    MetPM m_X8_setFormat [.ref a, .int p0] h Q := by
  rcases ha with rfl | rfl
  all_goals exact met_of o_X8_setFormat (Nat.le_of_ble_eq_true rfl) (fun q => absurd rfl q) (vg_ok k_X8_setFormat (stops := []) 66 0 0 _ [] h T)
end
section
/-! ===== what each method does, step by step, 3 ===== -/
set_option maxRecDepth 100000 in
set_option maxHeartbeats 4000000 in
theorem t_X10_append {p0 : Int32} {h : PH} {Q : Res → PH → Prop}
    (T : At m_X10_append Q 3 0 [some (.ref 1), some (.int p0), some (.int (nI 24))] [] h) :
    MetPM m_X10_append [.ref 1, .int p0] h Q := by
  exact met_of o_X10_append (Nat.le_of_ble_eq_true rfl) (fun q => absurd rfl q) (vg_ok k_X10_append (stops := [3]) 78 0 0 _ [] h T)
set_option maxRecDepth 100000 in
set_option maxHeartbeats 4000000 in
theorem u_X10_append_3 {v1 : Int32} {v2 : Int32} {h : PH} {Q : Res → PH → Prop}
    (T : ((v2 < 0 → Q (.inl none) h) ∧ (¬ v2 < 0 → (((nI 900) ≤ (gi h 1 1) → Q (.inl none) h) ∧ (¬ (nI 900) ≤ (gi h 1 1) → (vp_in (gi h 1 1) 900 ∧ (let y1 : Int32 := (gi (si h 2 (gi h 1 1).toNatClampNeg ((v1 >>> (v2 &&& 31)).toInt8.toInt32).toInt8.toInt32) 1 1); (let h2 : PH := (si (si h 2 (gi h 1 1).toNatClampNeg ((v1 >>> (v2 &&& 31)).toInt8.toInt32).toInt8.toInt32) 1 1 (y1 + (nI 1))); At m_X10_append Q 3 0 [some (.ref 1), some (.int v1), some (.int (v2 + (-(nI 8))))] [] h2)))))))) :
    At m_X10_append Q 3 0 [some (.ref 1), some (.int v1), some (.int v2)] [] h := by
  exact vg_ok k_X10_append (stops := [3]) 78 3 0 _ _ h T
set_option maxRecDepth 100000 in
set_option maxHeartbeats 4000000 in
theorem t_X10_scanWord {h : PH} {Q : Res → PH → Prop}
    (T : At m_X10_scanWord Q 5 0 [some (.ref 1)] [] (sl h 1 6 (lN 0))) :
    MetPM m_X10_scanWord [.ref 1] h Q := by
  exact met_of o_X10_scanWord (Nat.le_of_ble_eq_true rfl) (fun q => absurd rfl q) (vg_ok k_X10_scanWord (stops := [5]) 105 0 0 _ [] h T)
set_option maxRecDepth 100000 in
set_option maxHeartbeats 4000000 in
theorem u_X10_scanWord_5 {h : PH} {Q : Res → PH → Prop}
    (T : (((gi h 1 1) ≤ (gi h 1 8) → (((nI 8) < ((gi h 1 8) - (gi h 1 5)) → Q (.inl none) (si h 1 4 (nI 6))) ∧ (¬ (nI 8) < ((gi h 1 8) - (gi h 1 5)) → Q (.inl none) (si h 1 4 (nI 1))))) ∧ (¬ (gi h 1 1) ≤ (gi h 1 8) → (vp_in (gi h 1 8) 900 ∧ (((gi h 2 (gi h 1 8).toNatClampNeg) < (nI 97) → (((nI 8) < ((gi h 1 8) - (gi h 1 5)) → Q (.inl none) (si h 1 4 (nI 6))) ∧ (¬ (nI 8) < ((gi h 1 8) - (gi h 1 5)) → Q (.inl none) (si h 1 4 (nI 1))))) ∧ (¬ (gi h 2 (gi h 1 8).toNatClampNeg) < (nI 97) → (vp_in (gi h 1 8) 900 ∧ (((nI 122) < (gi h 2 (gi h 1 8).toNatClampNeg) → (((nI 8) < ((gi h 1 8) - (gi h 1 5)) → Q (.inl none) (si h 1 4 (nI 6))) ∧ (¬ (nI 8) < ((gi h 1 8) - (gi h 1 5)) → Q (.inl none) (si h 1 4 (nI 1))))) ∧ (¬ (nI 122) < (gi h 2 (gi h 1 8).toNatClampNeg) → (vp_in (gi h 1 8) 900 ∧ (let h1 : PH := (sl h 1 6 (((gl h 1 6) <<< ((nI 8).toInt64 &&& 63)) ||| ((gi h 2 (gi h 1 8).toNatClampNeg).toInt64))); At m_X10_scanWord Q 5 0 [some (.ref 1)] [] (si h1 1 8 ((gi h1 1 8) + (nI 1)))))))))))))) :
    At m_X10_scanWord Q 5 0 [some (.ref 1)] [] h := by
  exact vg_ok k_X10_scanWord (stops := [5]) 105 5 0 _ _ h T
set_option maxRecDepth 100000 in
set_option maxHeartbeats 4000000 in
theorem t_X10_scanNumber {h : PH} {Q : Res → PH → Prop}
    (T : At m_X10_scanNumber Q 5 0 [some (.ref 1)] [] (si h 1 7 (nI 0))) :
    MetPM m_X10_scanNumber [.ref 1] h Q := by
  exact met_of o_X10_scanNumber (Nat.le_of_ble_eq_true rfl) (fun q => absurd rfl q) (vg_ok k_X10_scanNumber (stops := [5]) 106 0 0 _ [] h T)
set_option maxRecDepth 100000 in
set_option maxHeartbeats 4000000 in
theorem u_X10_scanNumber_5 {h : PH} {Q : Res → PH → Prop}
    (T : (((gi h 1 1) ≤ (gi h 1 8) → (((nI 3) < ((gi h 1 8) - (gi h 1 5)) → Q (.inl none) (si h 1 4 (nI 6))) ∧ (¬ (nI 3) < ((gi h 1 8) - (gi h 1 5)) → Q (.inl none) (si h 1 4 (nI 2))))) ∧ (¬ (gi h 1 1) ≤ (gi h 1 8) → (vp_in (gi h 1 8) 900 ∧ (((gi h 2 (gi h 1 8).toNatClampNeg) < (nI 48) → (((nI 3) < ((gi h 1 8) - (gi h 1 5)) → Q (.inl none) (si h 1 4 (nI 6))) ∧ (¬ (nI 3) < ((gi h 1 8) - (gi h 1 5)) → Q (.inl none) (si h 1 4 (nI 2))))) ∧ (¬ (gi h 2 (gi h 1 8).toNatClampNeg) < (nI 48) → (vp_in (gi h 1 8) 900 ∧ (((nI 57) < (gi h 2 (gi h 1 8).toNatClampNeg) → (((nI 3) < ((gi h 1 8) - (gi h 1 5)) → Q (.inl none) (si h 1 4 (nI 6))) ∧ (¬ (nI 3) < ((gi h 1 8) - (gi h 1 5)) → Q (.inl none) (si h 1 4 (nI 2))))) ∧ (¬ (nI 57) < (gi h 2 (gi h 1 8).toNatClampNeg) → (vp_in (gi h 1 8) 900 ∧ (let y1 : Int32 := (gi (si h 1 7 (((gi h 1 7) * (nI 10)) + ((gi h 2 (gi h 1 8).toNatClampNeg) - (nI 48)))) 1 8); (let h2 : PH := (si (si h 1 7 (((gi h 1 7) * (nI 10)) + ((gi h 2 (gi h 1 8).toNatClampNeg) - (nI 48)))) 1 8 (y1 + (nI 1))); At m_X10_scanNumber Q 5 0 [some (.ref 1)] [] h2)))))))))))) :
    At m_X10_scanNumber Q 5 0 [some (.ref 1)] [] h := by
  exact vg_ok k_X10_scanNumber (stops := [5]) 106 5 0 _ _ h T
set_option maxRecDepth 100000 in
set_option maxHeartbeats 4000000 in
theorem t_X10_advance {h : PH} {Q : Res → PH → Prop}
    (T : (((gi h 1 1) ≤ (gi h 1 8) → At m_X10_advance Q 52 0 [some (.ref 1), none] [] h) ∧ (¬ (gi h 1 1) ≤ (gi h 1 8) → (vp_in (gi h 1 8) 900 ∧ (((gi h 2 (gi h 1 8).toNatClampNeg) = (nI 32) → At m_X10_advance Q 39 0 [some (.ref 1), none] [] h) ∧ (¬ (gi h 2 (gi h 1 8).toNatClampNeg) = (nI 32) → (vp_in (gi h 1 8) 900 ∧ ((¬ (gi h 2 (gi h 1 8).toNatClampNeg) = (nI 10) → At m_X10_advance Q 52 0 [some (.ref 1), none] [] h) ∧ ((gi h 2 (gi h 1 8).toNatClampNeg) = (nI 10) → At m_X10_advance Q 39 0 [some (.ref 1), none] [] h))))))))) :
    MetPM m_X10_advance [.ref 1] h Q := by
  exact met_of o_X10_advance (Nat.le_of_ble_eq_true rfl) (fun q => absurd rfl q) (vg_ok k_X10_advance (stops := [0, 39, 52, 106, 125, 171]) 138 0 0 _ [] h T)
set_option maxRecDepth 100000 in
set_option maxHeartbeats 4000000 in
theorem u_X10_advance_0 {h : PH} {Q : Res → PH → Prop}
    (T : (((gi h 1 1) ≤ (gi h 1 8) → At m_X10_advance Q 52 0 [some (.ref 1), none] [] h) ∧ (¬ (gi h 1 1) ≤ (gi h 1 8) → (vp_in (gi h 1 8) 900 ∧ (((gi h 2 (gi h 1 8).toNatClampNeg) = (nI 32) → At m_X10_advance Q 39 0 [some (.ref 1), none] [] h) ∧ (¬ (gi h 2 (gi h 1 8).toNatClampNeg) = (nI 32) → (vp_in (gi h 1 8) 900 ∧ ((¬ (gi h 2 (gi h 1 8).toNatClampNeg) = (nI 10) → At m_X10_advance Q 52 0 [some (.ref 1), none] [] h) ∧ ((gi h 2 (gi h 1 8).toNatClampNeg) = (nI 10) → At m_X10_advance Q 39 0 [some (.ref 1), none] [] h))))))))) :
    At m_X10_advance Q 0 0 [some (.ref 1), none] [] h := by
  exact vg_ok k_X10_advance (stops := [0, 39, 52, 106, 125, 171]) 138 0 0 _ _ h T
set_option maxRecDepth 100000 in
set_option maxHeartbeats 4000000 in
theorem u_X10_advance_39 {h : PH} {Q : Res → PH → Prop}
    (T : At m_X10_advance Q 0 0 [some (.ref 1), none] [] (si h 1 8 ((gi h 1 8) + (nI 1)))) :
    At m_X10_advance Q 39 0 [some (.ref 1), none] [] h := by
  exact vg_ok k_X10_advance (stops := [0, 39, 52, 106, 125, 171]) 138 39 0 _ _ h T
set_option maxRecDepth 100000 in
set_option maxHeartbeats 4000000 in
theorem u_X10_advance_52 {h : PH} {Q : Res → PH → Prop}
    (T : (((gi (si h 1 5 (gi h 1 8)) 1 8) < (gi (si h 1 5 (gi h 1 8)) 1 1) → (vp_in (gi (si h 1 5 (gi h 1 8)) 1 8) 900 ∧ (((gi (si h 1 5 (gi h 1 8)) 2 (gi (si h 1 5 (gi h 1 8)) 1 8).toNatClampNeg) < (nI 97) → At m_X10_advance Q 106 0 [some (.ref 1), some (.int (gi (si h 1 5 (gi h 1 8)) 2 (gi (si h 1 5 (gi h 1 8)) 1 8).toNatClampNeg))] [] (si h 1 5 (gi h 1 8))) ∧ (¬ (gi (si h 1 5 (gi h 1 8)) 2 (gi (si h 1 5 (gi h 1 8)) 1 8).toNatClampNeg) < (nI 97) → (((nI 122) < (gi (si h 1 5 (gi h 1 8)) 2 (gi (si h 1 5 (gi h 1 8)) 1 8).toNatClampNeg) → At m_X10_advance Q 106 0 [some (.ref 1), some (.int (gi (si h 1 5 (gi h 1 8)) 2 (gi (si h 1 5 (gi h 1 8)) 1 8).toNatClampNeg))] [] (si h 1 5 (gi h 1 8))) ∧ (¬ (nI 122) < (gi (si h 1 5 (gi h 1 8)) 2 (gi (si h 1 5 (gi h 1 8)) 1 8).toNatClampNeg) → MetPM m_X10_scanWord [.ref 1] (si h 1 5 (gi h 1 8)) (rV (hnd Q (At m_X10_advance Q) 0 [some (.ref 1), some (.int (gi (si h 1 5 (gi h 1 8)) 2 (gi (si h 1 5 (gi h 1 8)) 1 8).toNatClampNeg))] []) (fun h1 => At m_X10_advance Q 171 0 [some (.ref 1), some (.int (gi (si h 1 5 (gi h 1 8)) 2 (gi (si h 1 5 (gi h 1 8)) 1 8).toNatClampNeg))] [] h1)))))))) ∧ (¬ (gi (si h 1 5 (gi h 1 8)) 1 8) < (gi (si h 1 5 (gi h 1 8)) 1 1) → Q (.inl none) (si (si h 1 5 (gi h 1 8)) 1 4 (nI 0))))) :
    At m_X10_advance Q 52 0 [some (.ref 1), none] [] h := by
  exact vg_ok k_X10_advance (stops := [0, 39, 52, 106, 125, 171]) 138 52 0 _ _ h T
set_option maxRecDepth 100000 in
set_option maxHeartbeats 4000000 in
theorem u_X10_advance_106 {v1 : Int32} {h : PH} {Q : Res → PH → Prop}
    (T : ((v1 < (nI 48) → At m_X10_advance Q 125 0 [some (.ref 1), some (.int v1)] [] h) ∧ (¬ v1 < (nI 48) → (((nI 57) < v1 → At m_X10_advance Q 125 0 [some (.ref 1), some (.int v1)] [] h) ∧ (¬ (nI 57) < v1 → MetPM m_X10_scanNumber [.ref 1] h (rV (hnd Q (At m_X10_advance Q) 0 [some (.ref 1), some (.int v1)] []) (fun h1 => At m_X10_advance Q 171 0 [some (.ref 1), some (.int v1)] [] h1))))))) :
    At m_X10_advance Q 106 0 [some (.ref 1), some (.int v1)] [] h := by
  exact vg_ok k_X10_advance (stops := [0, 39, 52, 106, 125, 171]) 138 106 0 _ _ h T
set_option maxRecDepth 100000 in
set_option maxHeartbeats 4000000 in
theorem u_X10_advance_125 {v1 : Int32} {h : PH} {Q : Res → PH → Prop}
    (T : ((¬ v1 = (nI 59) → ((¬ v1 = (nI 40) → ((¬ v1 = (nI 41) → At m_X10_advance Q 171 0 [some (.ref 1), some (.int v1)] [] (si (si h 1 4 (nI 6)) 1 8 ((gi (si h 1 4 (nI 6)) 1 8) + (nI 1)))) ∧ (v1 = (nI 41) → At m_X10_advance Q 171 0 [some (.ref 1), some (.int v1)] [] (si (si h 1 4 (nI 5)) 1 8 ((gi (si h 1 4 (nI 5)) 1 8) + (nI 1)))))) ∧ (v1 = (nI 40) → At m_X10_advance Q 171 0 [some (.ref 1), some (.int v1)] [] (si (si h 1 4 (nI 4)) 1 8 ((gi (si h 1 4 (nI 4)) 1 8) + (nI 1)))))) ∧ (v1 = (nI 59) → At m_X10_advance Q 171 0 [some (.ref 1), some (.int v1)] [] (si (si h 1 4 (nI 3)) 1 8 ((gi (si h 1 4 (nI 3)) 1 8) + (nI 1)))))) :
    At m_X10_advance Q 125 0 [some (.ref 1), some (.int v1)] [] h := by
  exact vg_ok k_X10_advance (stops := [0, 39, 52, 106, 125, 171]) 138 125 0 _ _ h T
set_option maxRecDepth 100000 in
set_option maxHeartbeats 4000000 in
theorem u_X10_advance_171 {v1 : Int32} {h : PH} {Q : Res → PH → Prop}
    (T : Q (.inl none) h) :
    At m_X10_advance Q 171 0 [some (.ref 1), some (.int v1)] [] h := by
  exact vg_ok k_X10_advance (stops := [0, 39, 52, 106, 125, 171]) 138 171 0 _ _ h T
set_option maxRecDepth 100000 in
set_option maxHeartbeats 4000000 in
theorem t_X10_begin {h : PH} {Q : Res → PH → Prop}
    (T : MetPM m_X10_advance [.ref 1] (si (si (si h 1 2 (nI 0)) 1 3 (-(nI 1))) 1 8 (nI 0)) (rV (hnd Q (At m_X10_begin Q) 0 [some (.ref 1)] []) (fun h1 => Q (.inl none) h1))) :
    MetPM m_X10_begin [.ref 1] h Q := by
  exact met_of o_X10_begin (Nat.le_of_ble_eq_true rfl) (fun q => absurd rfl q) (vg_ok k_X10_begin (stops := []) 62 0 0 _ [] h T)
set_option maxRecDepth 100000 in
set_option maxHeartbeats 4000000 in
theorem t_X10_isWord {b0 : Nat} {h : PH} {Q : Res → PH → Prop}
    (T : At m_X10_isWord Q 5 0 [some (.ref 1), some (.ref b0), some (.long (lN 0)), none, some (.int (nI 0))] [] h) :
    MetPM m_X10_isWord [.ref 1, .ref b0] h Q := by
  exact met_of o_X10_isWord (Nat.le_of_ble_eq_true rfl) (fun q => absurd rfl q) (vg_ok k_X10_isWord (stops := [5]) 82 0 0 _ [] h T)
set_option maxRecDepth 100000 in
set_option maxHeartbeats 4000000 in
theorem u_X10_isWord_5 {b0 : Nat} {v2 : Int64} {v4 : Int32} {h : PH} {Q : Res → PH → Prop}
    (T : (cOk b0 22 ∧ MetPM m_J0_length_8abf5 [.ref b0] h (rI (hnd Q (At m_X10_isWord Q) 0 [some (.ref 1), some (.ref b0), some (.long v2), none, some (.int v4)] []) (fun x2 h1 => ((x2 ≤ v4 → ((¬ (gi h1 1 4) = (nI 1) → (isB (nI 0) ∧ Q (.inl (some (.int (nI 0)))) h1)) ∧ ((gi h1 1 4) = (nI 1) → ((¬ (lg_cmp (gl h1 1 6) v2) = 0 → (isB (nI 0) ∧ Q (.inl (some (.int (nI 0)))) h1)) ∧ ((lg_cmp (gl h1 1 6) v2) = 0 → (isB (nI 1) ∧ Q (.inl (some (.int (nI 1)))) h1)))))) ∧ (¬ x2 ≤ v4 → (cOk b0 22 ∧ MetPM m_J0_charAt_5068e [.ref b0, .int v4] h1 (rI (hnd Q (At m_X10_isWord Q) 0 [some (.ref 1), some (.ref b0), some (.long v2), none, some (.int v4)] []) (fun x4 h3 => At m_X10_isWord Q 5 0 [some (.ref 1), some (.ref b0), some (.long ((v2 <<< ((nI 8).toInt64 &&& 63)) ||| (x4.toInt64))), none, some (.int (v4 + (nI 1)))] [] h3))))))))) :
    At m_X10_isWord Q 5 0 [some (.ref 1), some (.ref b0), some (.long v2), none, some (.int v4)] [] h := by
  exact vg_ok k_X10_isWord (stops := [5]) 82 5 0 _ _ h T
set_option maxRecDepth 100000 in
set_option maxHeartbeats 4000000 in
theorem t_X9_at {h : PH} {Q : Res → PH → Prop}
    (T : (cAr 1080 4 ∧ At m_X9_at Q 9 0 [some (.ref 1), some (.ref 1080), some (.int (nI (cln 1080))), some (.int (nI 0)), none] [] h)) :
    MetPM m_X9_at [.ref 1] h Q := by
  exact met_of o_X9_at (Nat.le_of_ble_eq_true rfl) (fun q => absurd rfl q) (vg_ok k_X9_at (stops := [9]) 75 0 0 _ [] h T)
set_option maxRecDepth 100000 in
set_option maxHeartbeats 4000000 in
theorem u_X9_at_9 {v2 : Int32} {v3 : Int32} {o4 : Option Value} {h : PH} {Q : Res → PH → Prop}
    (T : ((v2 ≤ v3 → Q (.inl (some (.null))) h) ∧ (¬ v2 ≤ v3 → (cAr 1080 4 ∧ vp_in v3 (cln 1080) ∧ (cOk (cel 1080 v3.toNatClampNeg) 20 ∧ MetPM m_X10_isWord [.ref 1, .ref (cfr (cel 1080 v3.toNatClampNeg))] h (rI (hnd Q (At m_X9_at Q) 0 [some (.ref 1), some (.ref 1080), some (.int v2), some (.int v3), some (.ref (cel 1080 v3.toNatClampNeg))] []) (fun x2 h1 => ((x2 = 0 → At m_X9_at Q 9 0 [some (.ref 1), some (.ref 1080), some (.int v2), some (.int (v3 + (nI 1))), some (.ref (cel 1080 v3.toNatClampNeg))] [] h1) ∧ (¬ x2 = 0 → Q (.inl (some (.ref (cel 1080 v3.toNatClampNeg)))) h1))))))))) :
    At m_X9_at Q 9 0 [some (.ref 1), some (.ref 1080), some (.int v2), some (.int v3), o4] [] h := by
  exact vg_ok k_X9_at (stops := [9]) 75 9 0 _ _ h T
set_option maxRecDepth 100000 in
set_option maxHeartbeats 4000000 in
theorem t_X10_fail {p0 : Int32} {h : PH} {Q : Res → PH → Prop}
    (T : (isB (nI 0) ∧ Q (.inl (some (.int (nI 0)))) (si (si h 1 2 p0) 1 3 (gi (si h 1 2 p0) 1 5)))) :
    MetPM m_X10_fail [.ref 1, .int p0] h Q := by
  exact met_of o_X10_fail (Nat.le_of_ble_eq_true rfl) (fun q => absurd rfl q) (vg_ok k_X10_fail (stops := []) 59 0 0 _ [] h T)
set_option maxRecDepth 100000 in
set_option maxHeartbeats 4000000 in
theorem t_X1_errorOfFirstWord {b0 : Nat} {h : PH} {Q : Res → PH → Prop}
    (T : (cOk b0 20 ∧ (cAr 1082 0 ∧ vp_in (cfv b0 9) (cln 1082) ∧ (((∀ j : Nat, 1 ≤ j → j < 8 → ¬ (csw 1082 (cfv b0 9).toNatClampNeg) = nI j) → (cOk b0 20 ∧ ((((gi h 4 3) &&& (cfv b0 1)) = 0 → Q (.inl (some (.int (nI 0)))) h) ∧ (¬ ((gi h 4 3) &&& (cfv b0 1)) = 0 → Q (.inl (some (.int (nI 4)))) h)))) ∧ ((csw 1082 (cfv b0 9).toNatClampNeg) = nI 1 → MetPM m_X6_isFull [.ref 31] h (rI (hnd Q (At m_X1_errorOfFirstWord Q) 0 [some (.ref 4), some (.ref b0)] []) (fun x2 h1 => ((x2 = 0 → Q (.inl (some (.int (nI 0)))) h1) ∧ (¬ x2 = 0 → Q (.inl (some (.int (nI 6)))) h1))))) ∧ ((csw 1082 (cfv b0 9).toNatClampNeg) = nI 2 → MetPM m_X6_isFull [.ref 36] h (rI (hnd Q (At m_X1_errorOfFirstWord Q) 0 [some (.ref 4), some (.ref b0)] []) (fun x4 h3 => ((x4 = 0 → Q (.inl (some (.int (nI 0)))) h3) ∧ (¬ x4 = 0 → Q (.inl (some (.int (nI 6)))) h3))))) ∧ ((csw 1082 (cfv b0 9).toNatClampNeg) = nI 3 → MetPM m_X6_isFull [.ref 41] h (rI (hnd Q (At m_X1_errorOfFirstWord Q) 0 [some (.ref 4), some (.ref b0)] []) (fun x6 h5 => ((x6 = 0 → Q (.inl (some (.int (nI 0)))) h5) ∧ (¬ x6 = 0 → Q (.inl (some (.int (nI 6)))) h5))))) ∧ ((csw 1082 (cfv b0 9).toNatClampNeg) = nI 4 → (((gi h 30 12) < (nI 5) → Q (.inl (some (.int (nI 0)))) h) ∧ (¬ (gi h 30 12) < (nI 5) → Q (.inl (some (.int (nI 6)))) h))) ∧ ((csw 1082 (cfv b0 9).toNatClampNeg) = nI 5 → (((gi h 30 11) < (nI 20) → Q (.inl (some (.int (nI 0)))) h) ∧ (¬ (gi h 30 11) < (nI 20) → Q (.inl (some (.int (nI 6)))) h))) ∧ ((csw 1082 (cfv b0 9).toNatClampNeg) = nI 6 → (cOk b0 20 ∧ ((¬ ((gi h 4 3) &&& (cfv b0 1)) = 0 → Q (.inl (some (.int (nI 4)))) h) ∧ (((gi h 4 3) &&& (cfv b0 1)) = 0 → (((gi h 41 1) ≤ 0 → Q (.inl (some (.int (nI 0)))) h) ∧ (¬ (gi h 41 1) ≤ 0 → Q (.inl (some (.int (nI 4)))) h)))))) ∧ ((csw 1082 (cfv b0 9).toNatClampNeg) = nI 7 → (cOk b0 20 ∧ ((¬ ((gi h 4 3) &&& (cfv b0 1)) = 0 → Q (.inl (some (.int (nI 4)))) h) ∧ (((gi h 4 3) &&& (cfv b0 1)) = 0 → (((gi h 41 1) ≤ 0 → Q (.inl (some (.int (nI 0)))) h) ∧ (¬ (gi h 41 1) ≤ 0 → Q (.inl (some (.int (nI 4)))) h)))))) ∧ True)))) :
    MetPM m_X1_errorOfFirstWord [.ref 4, .ref b0] h Q := by
  exact met_of o_X1_errorOfFirstWord (Nat.le_of_ble_eq_true rfl) (fun q => absurd rfl q) (vg_ok k_X1_errorOfFirstWord (stops := []) 125 0 0 _ [] h T)
set_option maxRecDepth 100000 in
set_option maxHeartbeats 4000000 in
theorem t_X10_takeNewName {b0 : Nat} (hb0 : b0 = 31 ∨ b0 = 36 ∨ b0 = 41) {h : PH} {Q : Res → PH → Prop}
    (T : (((gi h 1 4) = (nI 1) → MetPM m_X6_numberOf [.ref b0, .long (gl h 1 6)] h (rI (hnd Q (At m_X10_takeNewName Q) 0 [some (.ref 1), some (.ref b0), none, none] []) (fun x2 h1 => ((x2 = (-(nI 1)) → MetPM m_X10_advance [.ref 1] h1 (rV (hnd Q (At m_X10_takeNewName Q) 0 [some (.ref 1), some (.ref b0), some (.long (gl h1 1 6)), none] []) (fun h3 => Q (.inl (some (.long (gl h1 1 6)))) h3))) ∧ (¬ x2 = (-(nI 1)) → MetPM m_X10_fail [.ref 1, .int (nI 3)] h1 (rI (hnd Q (At m_X10_takeNewName Q) 0 [some (.ref 1), some (.ref b0), none, none] []) (fun x5 h4 => Q (.inl (some (.long (lN 0)))) h4))))))) ∧ (¬ (gi h 1 4) = (nI 1) → MetPM m_X10_fail [.ref 1, .int (nI 1)] h (rI (hnd Q (At m_X10_takeNewName Q) 0 [some (.ref 1), some (.ref b0), none, none] []) (fun x7 h6 => Q (.inl (some (.long (lN 0)))) h6))))) :
    MetPM m_X10_takeNewName [.ref 1, .ref b0] h Q := by
  rcases hb0 with rfl | rfl | rfl
  all_goals exact met_of o_X10_takeNewName (Nat.le_of_ble_eq_true rfl) (fun q => absurd rfl q) (vg_ok k_X10_takeNewName (stops := []) 79 0 0 _ [] h T)
set_option maxRecDepth 100000 in
set_option maxHeartbeats 4000000 in
theorem t_X10_takeNumber {p0 : Int32} {p1 : Int32} {h : PH} {Q : Res → PH → Prop}
    (T : (((gi h 1 4) = (nI 2) → (((gi h 1 7) < p0 → MetPM m_X10_fail [.ref 1, .int (nI 2)] h (rI (hnd Q (At m_X10_takeNumber Q) 0 [some (.ref 1), some (.int p0), some (.int p1), none] []) (fun x2 h1 => Q (.inl (some (.int (-(nI 1))))) h1))) ∧ (¬ (gi h 1 7) < p0 → (((gi h 1 7) ≤ p1 → MetPM m_X10_advance [.ref 1] h (rV (hnd Q (At m_X10_takeNumber Q) 0 [some (.ref 1), some (.int p0), some (.int p1), some (.int (gi h 1 7))] []) (fun h3 => Q (.inl (some (.int (gi h 1 7)))) h3))) ∧ (¬ (gi h 1 7) ≤ p1 → MetPM m_X10_fail [.ref 1, .int (nI 2)] h (rI (hnd Q (At m_X10_takeNumber Q) 0 [some (.ref 1), some (.int p0), some (.int p1), none] []) (fun x5 h4 => Q (.inl (some (.int (-(nI 1))))) h4))))))) ∧ (¬ (gi h 1 4) = (nI 2) → MetPM m_X10_fail [.ref 1, .int (nI 1)] h (rI (hnd Q (At m_X10_takeNumber Q) 0 [some (.ref 1), some (.int p0), some (.int p1), none] []) (fun x7 h6 => Q (.inl (some (.int (-(nI 1))))) h6))))) :
    MetPM m_X10_takeNumber [.ref 1, .int p0, .int p1] h Q := by
  exact met_of o_X10_takeNumber (Nat.le_of_ble_eq_true rfl) (fun q => absurd rfl q) (vg_ok k_X10_takeNumber (stops := []) 81 0 0 _ [] h T)
set_option maxRecDepth 100000 in
set_option maxHeartbeats 4000000 in
theorem t_X1_readVersion {h : PH} {Q : Res → PH → Prop}
    (T : MetPM m_X10_takeNewName [.ref 1, .ref 31] h (rL (hnd Q (At m_X1_readVersion Q) 0 [some (.ref 4), none, none, none, none] []) (fun x2 h1 => ((¬ (lg_cmp x2 (lN 0)) = 0 → MetPM m_X10_takeNumber [.ref 1, .int (nI 1), .int (nI 9)] h1 (rI (hnd Q (At m_X1_readVersion Q) 0 [some (.ref 4), some (.long x2), none, none, none] []) (fun x4 h3 => ((¬ x4 = (-(nI 1)) → MetPM m_X10_takeNumber [.ref 1, .int x4, .int (nI 9)] h3 (rI (hnd Q (At m_X1_readVersion Q) 0 [some (.ref 4), some (.long x2), none, some (.int x4), none] []) (fun x6 h5 => ((¬ x6 = (-(nI 1)) → MetPM m_X5_addVersion [.ref 30, .long x2, .int x4, .int x6] h5 (rV (hnd Q (At m_X1_readVersion Q) 0 [some (.ref 4), some (.long x2), none, some (.int x4), some (.int x6)] []) (fun h7 => (isB (nI 1) ∧ Q (.inl (some (.int (nI 1)))) h7)))) ∧ (x6 = (-(nI 1)) → (isB (nI 0) ∧ Q (.inl (some (.int (nI 0)))) h5)))))) ∧ (x4 = (-(nI 1)) → (isB (nI 0) ∧ Q (.inl (some (.int (nI 0)))) h3)))))) ∧ ((lg_cmp x2 (lN 0)) = 0 → (isB (nI 0) ∧ Q (.inl (some (.int (nI 0)))) h1)))))) :
    MetPM m_X1_readVersion [.ref 4] h Q := by
  exact met_of o_X1_readVersion (Nat.le_of_ble_eq_true rfl) (fun q => absurd rfl q) (vg_ok k_X1_readVersion (stops := []) 93 0 0 _ [] h T)
set_option maxRecDepth 100000 in
set_option maxHeartbeats 4000000 in
theorem t_X10_findName {b0 : Nat} (hb0 : b0 = 16 ∨ b0 = 26 ∨ b0 = 31 ∨ b0 = 36 ∨ b0 = 41) {h : PH} {Q : Res → PH → Prop}
    (T : (((gi h 1 4) = (nI 1) → MetPM m_X6_numberOf [.ref b0, .long (gl h 1 6)] h (rI (hnd Q (At m_X10_findName Q) 0 [some (.ref 1), some (.ref b0), none] []) (fun x2 h1 => ((¬ x2 = (-(nI 1)) → Q (.inl (some (.int x2))) h1) ∧ (x2 = (-(nI 1)) → MetPM m_X10_fail [.ref 1, .int (nI 3)] h1 (rI (hnd Q (At m_X10_findName Q) 0 [some (.ref 1), some (.ref b0), some (.int x2)] []) (fun x4 h3 => Q (.inl (some (.int x2))) h3))))))) ∧ (¬ (gi h 1 4) = (nI 1) → MetPM m_X10_fail [.ref 1, .int (nI 1)] h (rI (hnd Q (At m_X10_findName Q) 0 [some (.ref 1), some (.ref b0), none] []) (fun x6 h5 => Q (.inl (some (.int (-(nI 1))))) h5))))) :
    MetPM m_X10_findName [.ref 1, .ref b0] h Q := by
  rcases hb0 with rfl | rfl | rfl | rfl | rfl
  all_goals exact met_of o_X10_findName (Nat.le_of_ble_eq_true rfl) (fun q => absurd rfl q) (vg_ok k_X10_findName (stops := []) 74 0 0 _ [] h T)
set_option maxRecDepth 100000 in
set_option maxHeartbeats 4000000 in
theorem t_X1_readTalks {h : PH} {Q : Res → PH → Prop}
    (T : MetPM m_X10_findName [.ref 1, .ref 31] h (rI (hnd Q (At m_X1_readTalks Q) 0 [some (.ref 4), none, none] []) (fun x2 h1 => ((¬ x2 = (-(nI 1)) → MetPM m_X10_advance [.ref 1] h1 (rV (hnd Q (At m_X1_readTalks Q) 0 [some (.ref 4), some (.int x2), none] []) (fun h3 => MetPM m_X10_findName [.ref 1, .ref 31] h3 (rI (hnd Q (At m_X1_readTalks Q) 0 [some (.ref 4), some (.int x2), none] []) (fun x5 h4 => ((¬ x5 = (-(nI 1)) → ((¬ x5 = x2 → MetPM m_X5_talkersOf [.ref 30, .int x2] h4 (rI (hnd Q (At m_X1_readTalks Q) 0 [some (.ref 4), some (.int x2), some (.int x5)] []) (fun x7 h6 => MetPM m_X11_isIn [.int x7, .int x5] h6 (rI (hnd Q (At m_X1_readTalks Q) 0 [some (.ref 4), some (.int x2), some (.int x5)] []) (fun x9 h8 => ((x9 = 0 → MetPM m_X10_advance [.ref 1] h8 (rV (hnd Q (At m_X1_readTalks Q) 0 [some (.ref 4), some (.int x2), some (.int x5)] []) (fun h10 => MetPM m_X5_addTalk [.ref 30, .int x2, .int x5] h10 (rV (hnd Q (At m_X1_readTalks Q) 0 [some (.ref 4), some (.int x2), some (.int x5)] []) (fun h11 => (isB (nI 1) ∧ Q (.inl (some (.int (nI 1)))) h11)))))) ∧ (¬ x9 = 0 → MetPM m_X10_fail [.ref 1, .int (nI 4)] h8 (rI (hnd Q (At m_X1_readTalks Q) 0 [some (.ref 4), some (.int x2), some (.int x5)] []) (fun x13 h12 => (isB x13 ∧ Q (.inl (some (.int x13))) h12)))))))))) ∧ (x5 = x2 → MetPM m_X10_fail [.ref 1, .int (nI 3)] h4 (rI (hnd Q (At m_X1_readTalks Q) 0 [some (.ref 4), some (.int x2), some (.int x5)] []) (fun x15 h14 => (isB x15 ∧ Q (.inl (some (.int x15))) h14)))))) ∧ (x5 = (-(nI 1)) → (isB (nI 0) ∧ Q (.inl (some (.int (nI 0)))) h4)))))))) ∧ (x2 = (-(nI 1)) → (isB (nI 0) ∧ Q (.inl (some (.int (nI 0)))) h1)))))) :
    MetPM m_X1_readTalks [.ref 4] h Q := by
  exact met_of o_X1_readTalks (Nat.le_of_ble_eq_true rfl) (fun q => absurd rfl q) (vg_ok k_X1_readTalks (stops := []) 107 0 0 _ [] h T)
set_option maxRecDepth 100000 in
set_option maxHeartbeats 4000000 in
theorem t_X1_readPlace {h : PH} {Q : Res → PH → Prop}
    (T : MetPM m_X10_takeNewName [.ref 1, .ref 36] h (rL (hnd Q (At m_X1_readPlace Q) 0 [some (.ref 4), none, none] []) (fun x2 h1 => ((¬ (lg_cmp x2 (lN 0)) = 0 → MetPM m_X5_addPlace [.ref 30, .long x2] h1 (rV (hnd Q (At m_X1_readPlace Q) 0 [some (.ref 4), some (.long x2), none] []) (fun h3 => (isB (nI 1) ∧ Q (.inl (some (.int (nI 1)))) h3)))) ∧ ((lg_cmp x2 (lN 0)) = 0 → (isB (nI 0) ∧ Q (.inl (some (.int (nI 0)))) h1)))))) :
    MetPM m_X1_readPlace [.ref 4] h Q := by
  exact met_of o_X1_readPlace (Nat.le_of_ble_eq_true rfl) (fun q => absurd rfl q) (vg_ok k_X1_readPlace (stops := []) 69 0 0 _ [] h T)
set_option maxRecDepth 100000 in
set_option maxHeartbeats 4000000 in
theorem t_X1_readMember {h : PH} {Q : Res → PH → Prop}
    (T : MetPM m_X10_takeNewName [.ref 1, .ref 41] h (rL (hnd Q (At m_X1_readMember Q) 0 [some (.ref 4), none, none, none, none, none] []) (fun x2 h1 => ((¬ (lg_cmp x2 (lN 0)) = 0 → MetPM m_X10_findName [.ref 1, .ref 36] h1 (rI (hnd Q (At m_X1_readMember Q) 0 [some (.ref 4), some (.long x2), none, none, none, none] []) (fun x4 h3 => ((¬ x4 = (-(nI 1)) → MetPM m_X10_advance [.ref 1] h3 (rV (hnd Q (At m_X1_readMember Q) 0 [some (.ref 4), some (.long x2), none, some (.int x4), none, none] []) (fun h5 => MetPM m_X10_findName [.ref 1, .ref 31] h5 (rI (hnd Q (At m_X1_readMember Q) 0 [some (.ref 4), some (.long x2), none, some (.int x4), none, none] []) (fun x7 h6 => ((¬ x7 = (-(nI 1)) → MetPM m_X8_canJoin [.ref 74, .int x4, .int x7] h6 (rI (hnd Q (At m_X1_readMember Q) 0 [some (.ref 4), some (.long x2), none, some (.int x4), some (.int x7), none] []) (fun x9 h8 => ((¬ x9 = 0 → MetPM m_X10_advance [.ref 1] h8 (rV (hnd Q (At m_X1_readMember Q) 0 [some (.ref 4), some (.long x2), none, some (.int x4), some (.int x7), none] []) (fun h10 => MetPM m_X10_isWord [.ref 1, .ref 1084] h10 (rI (hnd Q (At m_X1_readMember Q) 0 [some (.ref 4), some (.long x2), none, some (.int x4), some (.int x7), none] []) (fun x12 h11 => ((x12 = 0 → At m_X1_readMember Q 128 0 [some (.ref 4), some (.long x2), none, some (.int x4), some (.int x7), some (.int x12)] [] h11) ∧ (¬ x12 = 0 → MetPM m_X10_advance [.ref 1] h11 (rV (hnd Q (At m_X1_readMember Q) 0 [some (.ref 4), some (.long x2), none, some (.int x4), some (.int x7), some (.int x12)] []) (fun h13 => At m_X1_readMember Q 128 0 [some (.ref 4), some (.long x2), none, some (.int x4), some (.int x7), some (.int x12)] [] h13))))))))) ∧ (x9 = 0 → MetPM m_X10_fail [.ref 1, .int (nI 5)] h8 (rI (hnd Q (At m_X1_readMember Q) 0 [some (.ref 4), some (.long x2), none, some (.int x4), some (.int x7), none] []) (fun x15 h14 => (isB x15 ∧ Q (.inl (some (.int x15))) h14)))))))) ∧ (x7 = (-(nI 1)) → (isB (nI 0) ∧ Q (.inl (some (.int (nI 0)))) h6)))))))) ∧ (x4 = (-(nI 1)) → (isB (nI 0) ∧ Q (.inl (some (.int (nI 0)))) h3)))))) ∧ ((lg_cmp x2 (lN 0)) = 0 → (isB (nI 0) ∧ Q (.inl (some (.int (nI 0)))) h1)))))) :
    MetPM m_X1_readMember [.ref 4] h Q := by
  exact met_of o_X1_readMember (Nat.le_of_ble_eq_true rfl) (fun q => absurd rfl q) (vg_ok k_X1_readMember (stops := [128]) 123 0 0 _ [] h T)
set_option maxRecDepth 100000 in
set_option maxHeartbeats 4000000 in
theorem u_X1_readMember_128 {v1 : Int64} {v3 : Int32} {v4 : Int32} {v5 : Int32} {h : PH} {Q : Res → PH → Prop}
    (T : MetPM m_X8_addMember [.ref 74, .long v1, .int v3, .int v4, .int v5] h (rV (hnd Q (At m_X1_readMember Q) 0 [some (.ref 4), some (.long v1), none, some (.int v3), some (.int v4), some (.int v5)] []) (fun h1 => (isB (nI 1) ∧ Q (.inl (some (.int (nI 1)))) h1)))) :
    At m_X1_readMember Q 128 0 [some (.ref 4), some (.long v1), none, some (.int v3), some (.int v4), some (.int v5)] [] h := by
  exact vg_ok k_X1_readMember (stops := [128]) 123 128 0 _ _ h T
set_option maxRecDepth 100000 in
set_option maxHeartbeats 4000000 in
theorem t_X1_readLink {h : PH} {Q : Res → PH → Prop}
    (T : MetPM m_X10_findName [.ref 1, .ref 41] h (rI (hnd Q (At m_X1_readLink Q) 0 [some (.ref 4), none, none] []) (fun x2 h1 => ((¬ x2 = (-(nI 1)) → MetPM m_X10_advance [.ref 1] h1 (rV (hnd Q (At m_X1_readLink Q) 0 [some (.ref 4), some (.int x2), none] []) (fun h3 => MetPM m_X10_findName [.ref 1, .ref 41] h3 (rI (hnd Q (At m_X1_readLink Q) 0 [some (.ref 4), some (.int x2), none] []) (fun x5 h4 => ((¬ x5 = (-(nI 1)) → (vp_in x2 12 ∧ (vp_in x5 12 ∧ ((¬ (gi h4 43 x2.toNatClampNeg) = (gi h4 43 x5.toNatClampNeg) → (vp_in x2 12 ∧ MetPM m_X11_isIn [.int (gi h4 44 x2.toNatClampNeg), .int x5] h4 (rI (hnd Q (At m_X1_readLink Q) 0 [some (.ref 4), some (.int x2), some (.int x5)] []) (fun x7 h6 => ((x7 = 0 → (vp_in x2 12 ∧ MetPM m_X5_talkersOf [.ref 30, .int (gi h6 75 x2.toNatClampNeg)] h6 (rI (hnd Q (At m_X1_readLink Q) 0 [some (.ref 4), some (.int x2), some (.int x5)] []) (fun x9 h8 => (vp_in x5 12 ∧ MetPM m_X11_isIn [.int x9, .int (gi h8 75 x5.toNatClampNeg)] h8 (rI (hnd Q (At m_X1_readLink Q) 0 [some (.ref 4), some (.int x2), some (.int x5)] []) (fun x11 h10 => ((¬ x11 = 0 → MetPM m_X10_advance [.ref 1] h10 (rV (hnd Q (At m_X1_readLink Q) 0 [some (.ref 4), some (.int x2), some (.int x5)] []) (fun h12 => MetPM m_X5_addLink [.ref 30, .int x2, .int x5] h12 (rV (hnd Q (At m_X1_readLink Q) 0 [some (.ref 4), some (.int x2), some (.int x5)] []) (fun h13 => (isB (nI 1) ∧ Q (.inl (some (.int (nI 1)))) h13)))))) ∧ (x11 = 0 → MetPM m_X10_fail [.ref 1, .int (nI 5)] h10 (rI (hnd Q (At m_X1_readLink Q) 0 [some (.ref 4), some (.int x2), some (.int x5)] []) (fun x15 h14 => (isB x15 ∧ Q (.inl (some (.int x15))) h14)))))))))))) ∧ (¬ x7 = 0 → MetPM m_X10_fail [.ref 1, .int (nI 4)] h6 (rI (hnd Q (At m_X1_readLink Q) 0 [some (.ref 4), some (.int x2), some (.int x5)] []) (fun x17 h16 => (isB x17 ∧ Q (.inl (some (.int x17))) h16))))))))) ∧ ((gi h4 43 x2.toNatClampNeg) = (gi h4 43 x5.toNatClampNeg) → MetPM m_X10_fail [.ref 1, .int (nI 3)] h4 (rI (hnd Q (At m_X1_readLink Q) 0 [some (.ref 4), some (.int x2), some (.int x5)] []) (fun x19 h18 => (isB x19 ∧ Q (.inl (some (.int x19))) h18)))))))) ∧ (x5 = (-(nI 1)) → (isB (nI 0) ∧ Q (.inl (some (.int (nI 0)))) h4)))))))) ∧ (x2 = (-(nI 1)) → (isB (nI 0) ∧ Q (.inl (some (.int (nI 0)))) h1)))))) :
    MetPM m_X1_readLink [.ref 4] h Q := by
  exact met_of o_X1_readLink (Nat.le_of_ble_eq_true rfl) (fun q => absurd rfl q) (vg_ok k_X1_readLink (stops := []) 136 0 0 _ [] h T)
set_option maxRecDepth 100000 in
set_option maxHeartbeats 4000000 in
theorem t_X1_readPlaceOfWave {p0 : Int32} {h : PH} {Q : Res → PH → Prop}
    (T : MetPM m_X10_findName [.ref 1, .ref 36] h (rI (hnd Q (At m_X1_readPlaceOfWave Q) 0 [some (.ref 4), some (.int p0), none] []) (fun x2 h1 => ((¬ x2 = (-(nI 1)) → (vp_in x2 5 ∧ (((gi h1 38 x2.toNatClampNeg) = (-(nI 1)) → MetPM m_X10_advance [.ref 1] h1 (rV (hnd Q (At m_X1_readPlaceOfWave Q) 0 [some (.ref 4), some (.int p0), some (.int x2)] []) (fun h3 => MetPM m_X5_addToWave [.ref 30, .int x2, .int p0] h3 (rV (hnd Q (At m_X1_readPlaceOfWave Q) 0 [some (.ref 4), some (.int p0), some (.int x2)] []) (fun h4 => (isB (nI 1) ∧ Q (.inl (some (.int (nI 1)))) h4)))))) ∧ (¬ (gi h1 38 x2.toNatClampNeg) = (-(nI 1)) → MetPM m_X10_fail [.ref 1, .int (nI 4)] h1 (rI (hnd Q (At m_X1_readPlaceOfWave Q) 0 [some (.ref 4), some (.int p0), some (.int x2)] []) (fun x6 h5 => (isB x6 ∧ Q (.inl (some (.int x6))) h5))))))) ∧ (x2 = (-(nI 1)) → (isB (nI 0) ∧ Q (.inl (some (.int (nI 0)))) h1)))))) :
    MetPM m_X1_readPlaceOfWave [.ref 4, .int p0] h Q := by
  exact met_of o_X1_readPlaceOfWave (Nat.le_of_ble_eq_true rfl) (fun q => absurd rfl q) (vg_ok k_X1_readPlaceOfWave (stops := []) 84 0 0 _ [] h T)
set_option maxRecDepth 100000 in
set_option maxHeartbeats 4000000 in
theorem t_X1_readWave {h : PH} {Q : Res → PH → Prop}
    (T : MetPM m_X5_addWave [.ref 30] h (rV (hnd Q (At m_X1_readWave Q) 0 [some (.ref 4), some (.int (gi h 30 12)), none, none] []) (fun h1 => MetPM m_X1_readPlaceOfWave [.ref 4, .int (gi h 30 12)] h1 (rI (hnd Q (At m_X1_readWave Q) 0 [some (.ref 4), some (.int (gi h 30 12)), none, none] []) (fun x3 h2 => At m_X1_readWave Q 23 0 [some (.ref 4), some (.int (gi h 30 12)), some (.int x3), some (.int (nI 0))] [] h2))))) :
    MetPM m_X1_readWave [.ref 4] h Q := by
  exact met_of o_X1_readWave (Nat.le_of_ble_eq_true rfl) (fun q => absurd rfl q) (vg_ok k_X1_readWave (stops := [23]) 81 0 0 _ [] h T)
set_option maxRecDepth 100000 in
set_option maxHeartbeats 4000000 in
theorem u_X1_readWave_23 {v1 : Int32} {v2 : Int32} {v3 : Int32} {h : PH} {Q : Res → PH → Prop}
    (T : (((nI 5) ≤ v3 → (isB v2 ∧ Q (.inl (some (.int v2))) h)) ∧ (¬ (nI 5) ≤ v3 → ((v2 = 0 → (isB v2 ∧ Q (.inl (some (.int v2))) h)) ∧ (¬ v2 = 0 → ((¬ (gi h 1 4) = (nI 1) → (isB v2 ∧ Q (.inl (some (.int v2))) h)) ∧ ((gi h 1 4) = (nI 1) → MetPM m_X1_readPlaceOfWave [.ref 4, .int v1] h (rI (hnd Q (At m_X1_readWave Q) 0 [some (.ref 4), some (.int v1), some (.int v2), some (.int v3)] []) (fun x2 h1 => At m_X1_readWave Q 23 0 [some (.ref 4), some (.int v1), some (.int x2), some (.int (v3 + (nI 1)))] [] h1))))))))) :
    At m_X1_readWave Q 23 0 [some (.ref 4), some (.int v1), some (.int v2), some (.int v3)] [] h := by
  exact vg_ok k_X1_readWave (stops := [23]) 81 23 0 _ _ h T
set_option maxRecDepth 100000 in
set_option maxHeartbeats 4000000 in
theorem t_X1_readSetting {b0 : Nat} {h : PH} {Q : Res → PH → Prop}
    (T : (cOk b0 20 ∧ (cOk b0 20 ∧ MetPM m_X10_takeNumber [.ref 1, .int (cfv b0 2), .int (cfv b0 3)] h (rI (hnd Q (At m_X1_readSetting Q) 0 [some (.ref 4), some (.ref b0), none] []) (fun x2 h1 => ((¬ x2 = (-(nI 1)) → (cOk b0 20 ∧ (cOk b0 20 ∧ (cAr 1082 0 ∧ vp_in (cfv b0 9) (cln 1082) ∧ (((∀ j : Nat, 6 ≤ j → j < 12 → ¬ (csw 1082 (cfv b0 9).toNatClampNeg) = nI j) → (isB (nI 1) ∧ Q (.inl (some (.int (nI 1)))) (si (si h1 4 3 ((gi h1 4 3) ||| (cfv b0 1))) 30 17 x2))) ∧ ((csw 1082 (cfv b0 9).toNatClampNeg) = nI 6 → (isB (nI 1) ∧ Q (.inl (some (.int (nI 1)))) (si (si h1 4 3 ((gi h1 4 3) ||| (cfv b0 1))) 74 2 x2))) ∧ ((csw 1082 (cfv b0 9).toNatClampNeg) = nI 7 → (isB (nI 1) ∧ Q (.inl (some (.int (nI 1)))) (si (si h1 4 3 ((gi h1 4 3) ||| (cfv b0 1))) 30 13 x2))) ∧ ((csw 1082 (cfv b0 9).toNatClampNeg) = nI 8 → (isB (nI 1) ∧ Q (.inl (some (.int (nI 1)))) (si (si h1 4 3 ((gi h1 4 3) ||| (cfv b0 1))) 30 17 x2))) ∧ ((csw 1082 (cfv b0 9).toNatClampNeg) = nI 9 → (isB (nI 1) ∧ Q (.inl (some (.int (nI 1)))) (si (si h1 4 3 ((gi h1 4 3) ||| (cfv b0 1))) 30 14 x2))) ∧ ((csw 1082 (cfv b0 9).toNatClampNeg) = nI 10 → (isB (nI 1) ∧ Q (.inl (some (.int (nI 1)))) (si (si h1 4 3 ((gi h1 4 3) ||| (cfv b0 1))) 30 15 x2))) ∧ ((csw 1082 (cfv b0 9).toNatClampNeg) = nI 11 → (isB (nI 1) ∧ Q (.inl (some (.int (nI 1)))) (si (si h1 4 3 ((gi h1 4 3) ||| (cfv b0 1))) 30 16 x2))) ∧ True))))) ∧ (x2 = (-(nI 1)) → (isB (nI 0) ∧ Q (.inl (some (.int (nI 0)))) h1)))))))) :
    MetPM m_X1_readSetting [.ref 4, .ref b0] h Q := by
  exact met_of o_X1_readSetting (Nat.le_of_ble_eq_true rfl) (fun q => absurd rfl q) (vg_ok k_X1_readSetting (stops := []) 106 0 0 _ [] h T)
set_option maxRecDepth 100000 in
set_option maxHeartbeats 4000000 in
theorem t_X1_readRest {b0 : Nat} {h : PH} {Q : Res → PH → Prop}
    (T : (cOk b0 20 ∧ (cAr 1082 0 ∧ vp_in (cfv b0 9) (cln 1082) ∧ (((∀ j : Nat, 1 ≤ j → j < 9 → ¬ (csw 1082 (cfv b0 9).toNatClampNeg) = nI j) → MetPM m_X1_readSetting [.ref 4, .ref b0] h (rI (hnd Q (At m_X1_readRest Q) 0 [some (.ref 4), some (.ref b0)] []) (fun x2 h1 => (isB x2 ∧ Q (.inl (some (.int x2))) h1)))) ∧ ((csw 1082 (cfv b0 9).toNatClampNeg) = nI 1 → MetPM m_X1_readVersion [.ref 4] h (rI (hnd Q (At m_X1_readRest Q) 0 [some (.ref 4), some (.ref b0)] []) (fun x4 h3 => (isB x4 ∧ Q (.inl (some (.int x4))) h3)))) ∧ ((csw 1082 (cfv b0 9).toNatClampNeg) = nI 2 → MetPM m_X1_readPlace [.ref 4] h (rI (hnd Q (At m_X1_readRest Q) 0 [some (.ref 4), some (.ref b0)] []) (fun x6 h5 => (isB x6 ∧ Q (.inl (some (.int x6))) h5)))) ∧ ((csw 1082 (cfv b0 9).toNatClampNeg) = nI 3 → MetPM m_X1_readMember [.ref 4] h (rI (hnd Q (At m_X1_readRest Q) 0 [some (.ref 4), some (.ref b0)] []) (fun x8 h7 => (isB x8 ∧ Q (.inl (some (.int x8))) h7)))) ∧ ((csw 1082 (cfv b0 9).toNatClampNeg) = nI 4 → MetPM m_X1_readWave [.ref 4] h (rI (hnd Q (At m_X1_readRest Q) 0 [some (.ref 4), some (.ref b0)] []) (fun x10 h9 => (isB x10 ∧ Q (.inl (some (.int x10))) h9)))) ∧ ((csw 1082 (cfv b0 9).toNatClampNeg) = nI 5 → MetPM m_X1_readLink [.ref 4] h (rI (hnd Q (At m_X1_readRest Q) 0 [some (.ref 4), some (.ref b0)] []) (fun x12 h11 => (isB x12 ∧ Q (.inl (some (.int x12))) h11)))) ∧ ((csw 1082 (cfv b0 9).toNatClampNeg) = nI 6 → MetPM m_X1_readSetting [.ref 4, .ref b0] h (rI (hnd Q (At m_X1_readRest Q) 0 [some (.ref 4), some (.ref b0)] []) (fun x14 h13 => (isB x14 ∧ Q (.inl (some (.int x14))) h13)))) ∧ ((csw 1082 (cfv b0 9).toNatClampNeg) = nI 7 → MetPM m_X1_readSetting [.ref 4, .ref b0] h (rI (hnd Q (At m_X1_readRest Q) 0 [some (.ref 4), some (.ref b0)] []) (fun x16 h15 => (isB x16 ∧ Q (.inl (some (.int x16))) h15)))) ∧ ((csw 1082 (cfv b0 9).toNatClampNeg) = nI 8 → MetPM m_X1_readTalks [.ref 4] h (rI (hnd Q (At m_X1_readRest Q) 0 [some (.ref 4), some (.ref b0)] []) (fun x18 h17 => (isB x18 ∧ Q (.inl (some (.int x18))) h17)))) ∧ True)))) :
    MetPM m_X1_readRest [.ref 4, .ref b0] h Q := by
  exact met_of o_X1_readRest (Nat.le_of_ble_eq_true rfl) (fun q => absurd rfl q) (vg_ok k_X1_readRest (stops := []) 77 0 0 _ [] h T)
set_option maxRecDepth 100000 in
set_option maxHeartbeats 4000000 in
theorem t_X10_takeSign {p0 : Int32} {h : PH} {Q : Res → PH → Prop}
    (T : (((gi h 1 4) = p0 → MetPM m_X10_advance [.ref 1] h (rV (hnd Q (At m_X10_takeSign Q) 0 [some (.ref 1), some (.int p0)] []) (fun h1 => (isB (nI 1) ∧ Q (.inl (some (.int (nI 1)))) h1)))) ∧ (¬ (gi h 1 4) = p0 → MetPM m_X10_fail [.ref 1, .int (nI 1)] h (rI (hnd Q (At m_X10_takeSign Q) 0 [some (.ref 1), some (.int p0)] []) (fun x3 h2 => (isB x3 ∧ Q (.inl (some (.int x3))) h2)))))) :
    MetPM m_X10_takeSign [.ref 1, .int p0] h Q := by
  exact met_of o_X10_takeSign (Nat.le_of_ble_eq_true rfl) (fun q => absurd rfl q) (vg_ok k_X10_takeSign (stops := []) 62 0 0 _ [] h T)
set_option maxRecDepth 100000 in
set_option maxHeartbeats 4000000 in
theorem t_X1_readStatement {h : PH} {Q : Res → PH → Prop}
    (T : MetPM m_X9_at [.ref 1] h (rA (hnd Q (At m_X1_readStatement Q) 0 [some (.ref 4), none, none] []) (fun b2 h1 => MetPM m_X1_errorOfFirstWord [.ref 4, .ref b2] h1 (rI (hnd Q (At m_X1_readStatement Q) 0 [some (.ref 4), some (.ref b2), none] []) (fun x4 h3 => ((x4 = 0 → MetPM m_X10_advance [.ref 1] h3 (rV (hnd Q (At m_X1_readStatement Q) 0 [some (.ref 4), some (.ref b2), some (.int x4)] []) (fun h5 => MetPM m_X1_readRest [.ref 4, .ref b2] h5 (rI (hnd Q (At m_X1_readStatement Q) 0 [some (.ref 4), some (.ref b2), some (.int x4)] []) (fun x7 h6 => ((x7 = 0 → (isB (nI 0) ∧ Q (.inl (some (.int (nI 0)))) h6)) ∧ (¬ x7 = 0 → MetPM m_X10_takeSign [.ref 1, .int (nI 3)] h6 (rI (hnd Q (At m_X1_readStatement Q) 0 [some (.ref 4), some (.ref b2), some (.int x4)] []) (fun x9 h8 => ((x9 = 0 → (isB (nI 0) ∧ Q (.inl (some (.int (nI 0)))) h8)) ∧ (¬ x9 = 0 → (isB (nI 1) ∧ Q (.inl (some (.int (nI 1)))) h8)))))))))))) ∧ (¬ x4 = 0 → MetPM m_X10_fail [.ref 1, .int x4] h3 (rI (hnd Q (At m_X1_readStatement Q) 0 [some (.ref 4), some (.ref b2), some (.int x4)] []) (fun x11 h10 => (isB x11 ∧ Q (.inl (some (.int x11))) h10)))))))) (fun h1 => MetPM m_X10_fail [.ref 1, .int (nI 1)] h1 (rI (hnd Q (At m_X1_readStatement Q) 0 [some (.ref 4), some (.null), none] []) (fun x13 h12 => (isB x13 ∧ Q (.inl (some (.int x13))) h12)))))) :
    MetPM m_X1_readStatement [.ref 4] h Q := by
  exact met_of o_X1_readStatement (Nat.le_of_ble_eq_true rfl) (fun q => absurd rfl q) (vg_ok k_X1_readStatement (stops := []) 88 0 0 _ [] h T)
set_option maxRecDepth 100000 in
set_option maxHeartbeats 4000000 in
theorem t_X1_readAll {h : PH} {Q : Res → PH → Prop}
    (T : MetPM m_X5_reset [.ref 30] h (rV (hnd Q (At m_X1_readAll Q) 0 [some (.ref 4), none] []) (fun h1 => MetPM m_X8_reset [.ref 74] h1 (rV (hnd Q (At m_X1_readAll Q) 0 [some (.ref 4), none] []) (fun h2 => MetPM m_X10_begin [.ref 1] (si h2 4 3 (nI 0)) (rV (hnd Q (At m_X1_readAll Q) 0 [some (.ref 4), none] []) (fun h3 => At m_X1_readAll Q 28 0 [some (.ref 4), some (.int (nI 0))] [] h3))))))) :
    MetPM m_X1_readAll [.ref 4] h Q := by
  exact met_of o_X1_readAll (Nat.le_of_ble_eq_true rfl) (fun q => absurd rfl q) (vg_ok k_X1_readAll (stops := [28]) 80 0 0 _ [] h T)
set_option maxRecDepth 100000 in
set_option maxHeartbeats 4000000 in
theorem u_X1_readAll_28 {v1 : Int32} {h : PH} {Q : Res → PH → Prop}
    (T : (((nI 900) ≤ v1 → (isB (nI 1) ∧ Q (.inl (some (.int (nI 1)))) h)) ∧ (¬ (nI 900) ≤ v1 → (((gi h 1 4) = 0 → (isB (nI 1) ∧ Q (.inl (some (.int (nI 1)))) h)) ∧ (¬ (gi h 1 4) = 0 → MetPM m_X1_readStatement [.ref 4] h (rI (hnd Q (At m_X1_readAll Q) 0 [some (.ref 4), some (.int v1)] []) (fun x2 h1 => ((¬ x2 = 0 → At m_X1_readAll Q 28 0 [some (.ref 4), some (.int (v1 + (nI 1)))] [] h1) ∧ (x2 = 0 → (isB (nI 0) ∧ Q (.inl (some (.int (nI 0)))) h1)))))))))) :
    At m_X1_readAll Q 28 0 [some (.ref 4), some (.int v1)] [] h := by
  exact vg_ok k_X1_readAll (stops := [28]) 80 28 0 _ _ h T
set_option maxRecDepth 100000 in
set_option maxHeartbeats 4000000 in
theorem t_X4_forget {h : PH} {Q : Res → PH → Prop}
    (T : Q (.inl none) (si h 13 1 (nI 0))) :
    MetPM m_X4_forget [.ref 13] h Q := by
  exact met_of o_X4_forget (Nat.le_of_ble_eq_true rfl) (fun q => absurd rfl q) (vg_ok k_X4_forget (stops := []) 54 0 0 _ [] h T)
set_option maxRecDepth 100000 in
set_option maxHeartbeats 4000000 in
theorem t_X4_keep {h : PH} {Q : Res → PH → Prop}
    (T : ((¬ (nI 6) = 0) ∧ (vp_in (gi (si h 13 2 (((gi h 13 2) + (nI 1)) - ((gi h 13 2) + (nI 1)) / (nI 6) * (nI 6))) 13 2) 6 ∧ ((∀ b1 : Nat, gr (si h 13 2 (((gi h 13 2) + (nI 1)) - ((gi h 13 2) + (nI 1)) / (nI 6) * (nI 6))) 14 (gi (si h 13 2 (((gi h 13 2) + (nI 1)) - ((gi h 13 2) + (nI 1)) / (nI 6) * (nI 6))) 13 2).toNatClampNeg = some b1 → obIf b1 6 (MetPM m_X8_copyFrom [.ref b1, .ref 60] (si h 13 2 (((gi h 13 2) + (nI 1)) - ((gi h 13 2) + (nI 1)) / (nI 6) * (nI 6))) (rV (hnd Q (At m_X4_keep Q) 0 [some (.ref 13), some (.ref 60), some (.ref b1)] []) (fun h2 => (let h3 : PH := (si h2 13 1 (if (nI 6) < ((gi h2 13 1) + (nI 1)) then (nI 6) else ((gi h2 13 1) + (nI 1)))); Q (.inl none) h3))))) ∧ (gr (si h 13 2 (((gi h 13 2) + (nI 1)) - ((gi h 13 2) + (nI 1)) / (nI 6) * (nI 6))) 14 (gi (si h 13 2 (((gi h 13 2) + (nI 1)) - ((gi h 13 2) + (nI 1)) / (nI 6) * (nI 6))) 13 2).toNatClampNeg = none → Q (.inl none) (si h 13 2 (((gi h 13 2) + (nI 1)) - ((gi h 13 2) + (nI 1)) / (nI 6) * (nI 6)))))))) :
    MetPM m_X4_keep [.ref 13, .ref 60] h Q := by
  exact met_of o_X4_keep (Nat.le_of_ble_eq_true rfl) (fun q => absurd rfl q) (vg_ok k_X4_keep (stops := []) 78 0 0 _ [] h T)
set_option maxRecDepth 100000 in
set_option maxHeartbeats 4000000 in
theorem t_X4_takeBack {h : PH} {Q : Res → PH → Prop}
    (T : (vp_in (gi h 13 2) 6 ∧ ((∀ b1 : Nat, gr h 14 (gi h 13 2).toNatClampNeg = some b1 → (((gi h 13 1) ≤ 0 → Q (.inl none) h) ∧ (¬ (gi h 13 1) ≤ 0 → MetPM m_X8_copyFrom [.ref 60, .ref b1] h (rV (hnd Q (At m_X4_takeBack Q) 0 [some (.ref 13), some (.ref 60), some (.ref b1)] []) (fun h2 => ((¬ (nI 6) = 0) ∧ (let h3 : PH := (si (si h2 13 2 (fmV ((gi h2 13 2) - (nI 1)) (nI 6))) 13 1 ((gi (si h2 13 2 (fmV ((gi h2 13 2) - (nI 1)) (nI 6))) 13 1) - (nI 1))); Q (.inl none) h3))))))) ∧ (gr h 14 (gi h 13 2).toNatClampNeg = none → Q (.inl none) h)))) :
    MetPM m_X4_takeBack [.ref 13, .ref 60] h Q := by
  exact met_of o_X4_takeBack (Nat.le_of_ble_eq_true rfl) (fun q => absurd rfl q) (vg_ok k_X4_takeBack (stops := []) 79 0 0 _ [] h T)
end
section
/-! ===== what each method does, step by step, 4 ===== -/
set_option maxRecDepth 100000 in
set_option maxHeartbeats 4000000 in
theorem t_X11_feed {p0 : Int32} {p1 : Int32} {p2 : Int32} {p3 : Int32} {p4 : Int32} {h : PH} {Q : Res → PH → Prop}
    (T : ((((gi h 1 1) + (nI 20)) ≤ (nI 900) → MetPM m_X10_append [.ref 1, .int p0] h (rV (hnd Q (At m_X11_feed Q) 0 [some (.ref 0), some (.int p0), some (.int p1), some (.int p2), some (.int p3), some (.int p4)] []) (fun h1 => MetPM m_X10_append [.ref 1, .int p1] h1 (rV (hnd Q (At m_X11_feed Q) 0 [some (.ref 0), some (.int p0), some (.int p1), some (.int p2), some (.int p3), some (.int p4)] []) (fun h2 => MetPM m_X10_append [.ref 1, .int p2] h2 (rV (hnd Q (At m_X11_feed Q) 0 [some (.ref 0), some (.int p0), some (.int p1), some (.int p2), some (.int p3), some (.int p4)] []) (fun h3 => MetPM m_X10_append [.ref 1, .int p3] h3 (rV (hnd Q (At m_X11_feed Q) 0 [some (.ref 0), some (.int p0), some (.int p1), some (.int p2), some (.int p3), some (.int p4)] []) (fun h4 => MetPM m_X10_append [.ref 1, .int p4] h4 (rV (hnd Q (At m_X11_feed Q) 0 [some (.ref 0), some (.int p0), some (.int p1), some (.int p2), some (.int p3), some (.int p4)] []) (fun h5 => Q (.inl (some (.int (gi h5 1 1)))) h5))))))))))) ∧ (¬ ((gi h 1 1) + (nI 20)) ≤ (nI 900) → (0 + 1 ≤ m_X11_feed.cap ∧ Q (.inr 0) h)))) :
    MetPM m_X11_feed [.ref 0, .int p0, .int p1, .int p2, .int p3, .int p4] h Q := by
  exact met_of o_X11_feed (Nat.le_of_ble_eq_true rfl) (fun q => absurd rfl q) (vg_ok k_X11_feed (stops := []) 85 0 0 _ [] h T)
set_option maxRecDepth 100000 in
set_option maxHeartbeats 4000000 in
theorem t_X11_truncate {p0 : Int32} {h : PH} {Q : Res → PH → Prop}
    (T : ((p0 < 0 → (0 + 1 ≤ m_X11_truncate.cap ∧ Q (.inr 1) h)) ∧ (¬ p0 < 0 → ((p0 ≤ (gi h 1 1) → Q (.inl (some (.int p0))) (si h 1 1 p0)) ∧ (¬ p0 ≤ (gi h 1 1) → (0 + 1 ≤ m_X11_truncate.cap ∧ Q (.inr 1) h)))))) :
    MetPM m_X11_truncate [.ref 0, .int p0] h Q := by
  exact met_of o_X11_truncate (Nat.le_of_ble_eq_true rfl) (fun q => absurd rfl q) (vg_ok k_X11_truncate (stops := []) 67 0 0 _ [] h T)
set_option maxRecDepth 100000 in
set_option maxHeartbeats 4000000 in
theorem t_X11_readText {h : PH} {Q : Res → PH → Prop}
    (T : MetPM m_X1_readAll [.ref 4] h (rI (hnd Q (At m_X11_readText Q) 0 [some (.ref 0), none] []) (fun x2 h1 => ((¬ x2 = 0 → MetPM m_X8_replaceBy [.ref 60, .ref 74] (si h1 1 1 (nI 0)) (rV (hnd Q (At m_X11_readText Q) 0 [some (.ref 0), some (.int x2)] []) (fun h3 => MetPM m_X4_forget [.ref 13] h3 (rV (hnd Q (At m_X11_readText Q) 0 [some (.ref 0), some (.int x2)] []) (fun h4 => Q (.inl (some (.int (gi h4 26 1)))) h4))))) ∧ (x2 = 0 → (0 + 1 ≤ m_X11_readText.cap ∧ Q (.inr 1) (si h1 1 1 (nI 0)))))))) :
    MetPM m_X11_readText [.ref 0] h Q := by
  exact met_of o_X11_readText (Nat.le_of_ble_eq_true rfl) (fun q => absurd rfl q) (vg_ok k_X11_readText (stops := []) 78 0 0 _ [] h T)
set_option maxRecDepth 100000 in
set_option maxHeartbeats 4000000 in
theorem t_X11_setting {p0 : Int32} {h : PH} {Q : Res → PH → Prop}
    (T : ((p0 < 0 → (0 + 1 ≤ m_X11_setting.cap ∧ Q (.inr 1) h)) ∧ (¬ p0 < 0 → ((p0 ≤ (nI 11) → ((¬ p0 = (nI 5) → ((¬ p0 = (nI 11) → MetPM m_X5_numberOf [.ref 15, .int p0] h (rI (hnd Q (At m_X11_setting Q) 0 [some (.ref 0), some (.int p0)] []) (fun x2 h1 => Q (.inl (some (.int x2))) h1))) ∧ (p0 = (nI 11) → Q (.inl (some (.int (gi h 60 1)))) h))) ∧ (p0 = (nI 5) → Q (.inl (some (.int (gi h 60 2)))) h))) ∧ (¬ p0 ≤ (nI 11) → (0 + 1 ≤ m_X11_setting.cap ∧ Q (.inr 1) h)))))) :
    MetPM m_X11_setting [.ref 0, .int p0] h Q := by
  exact met_of o_X11_setting (Nat.le_of_ble_eq_true rfl) (fun q => absurd rfl q) (vg_ok k_X11_setting (stops := []) 79 0 0 _ [] h T)
set_option maxRecDepth 100000 in
set_option maxHeartbeats 4000000 in
theorem t_X11_needVersion {p0 : Int32} {h : PH} {Q : Res → PH → Prop}
    (T : ((p0 < 0 → (0 + 1 ≤ m_X11_needVersion.cap ∧ Q (.inr 2) h)) ∧ (¬ p0 < 0 → ((p0 < (gi h 16 1) → Q (.inl none) h) ∧ (¬ p0 < (gi h 16 1) → (0 + 1 ≤ m_X11_needVersion.cap ∧ Q (.inr 2) h)))))) :
    MetPM m_X11_needVersion [.ref 0, .int p0] h Q := by
  exact met_of o_X11_needVersion (Nat.le_of_ble_eq_true rfl) (fun q => absurd rfl q) (vg_ok k_X11_needVersion (stops := []) 64 0 0 _ [] h T)
set_option maxRecDepth 100000 in
set_option maxHeartbeats 4000000 in
theorem t_X11_mayTalk {p0 : Int32} {p1 : Int32} {h : PH} {Q : Res → PH → Prop}
    (T : (1 ≤ m_X11_mayTalk.cap ∧ MetPM m_X11_needVersion [.ref 0, .int p0] h (rV (hnd Q (At m_X11_mayTalk Q) 1 [some (.ref 0), some (.int p0), some (.int p1)] []) (fun h1 => (2 ≤ m_X11_mayTalk.cap ∧ MetPM m_X11_needVersion [.ref 0, .int p1] h1 (rV (hnd Q (At m_X11_mayTalk Q) 2 [some (.ref 0), some (.int p0), some (.int p1)] []) (fun h2 => MetPM m_X5_talkersOf [.ref 15, .int p0] h2 (rI (hnd Q (At m_X11_mayTalk Q) 2 [some (.ref 0), some (.int p0), some (.int p1)] []) (fun x4 h3 => MetPM m_X11_isIn [.int x4, .int p1] h3 (rI (hnd Q (At m_X11_mayTalk Q) 2 [some (.ref 0), some (.int p0), some (.int p1)] []) (fun x6 h5 => (isB x6 ∧ Q (.inl (some (.int x6))) h5)))))))))))) :
    MetPM m_X11_mayTalk [.ref 0, .int p0, .int p1] h Q := by
  exact met_of o_X11_mayTalk (Nat.le_of_ble_eq_true rfl) (fun q => absurd rfl q) (vg_ok k_X11_mayTalk (stops := []) 64 0 0 _ [] h T)
set_option maxRecDepth 100000 in
set_option maxHeartbeats 4000000 in
theorem t_X11_readers {p0 : Int32} {h : PH} {Q : Res → PH → Prop}
    (T : (1 ≤ m_X11_readers.cap ∧ MetPM m_X11_needFormat [.int p0] h (rV (hnd Q (At m_X11_readers Q) 1 [some (.ref 0), some (.int p0)] []) (fun h1 => MetPM m_X5_readersOf [.ref 15, .int p0] h1 (rI (hnd Q (At m_X11_readers Q) 1 [some (.ref 0), some (.int p0)] []) (fun x3 h2 => Q (.inl (some (.int x3))) h2)))))) :
    MetPM m_X11_readers [.ref 0, .int p0] h Q := by
  exact met_of o_X11_readers (Nat.le_of_ble_eq_true rfl) (fun q => absurd rfl q) (vg_ok k_X11_readers (stops := []) 58 0 0 _ [] h T)
set_option maxRecDepth 100000 in
set_option maxHeartbeats 4000000 in
theorem t_X11_needMember {p0 : Int32} {h : PH} {Q : Res → PH → Prop}
    (T : ((p0 < 0 → (0 + 1 ≤ m_X11_needMember.cap ∧ Q (.inr 2) h)) ∧ (¬ p0 < 0 → ((p0 < (gi h 26 1) → Q (.inl none) h) ∧ (¬ p0 < (gi h 26 1) → (0 + 1 ≤ m_X11_needMember.cap ∧ Q (.inr 2) h)))))) :
    MetPM m_X11_needMember [.ref 0, .int p0] h Q := by
  exact met_of o_X11_needMember (Nat.le_of_ble_eq_true rfl) (fun q => absurd rfl q) (vg_ok k_X11_needMember (stops := []) 64 0 0 _ [] h T)
set_option maxRecDepth 100000 in
set_option maxHeartbeats 4000000 in
theorem t_X11_member {p0 : Int32} {p1 : Int32} {h : PH} {Q : Res → PH → Prop}
    (T : (1 ≤ m_X11_member.cap ∧ MetPM m_X11_needMember [.ref 0, .int p0] h (rV (hnd Q (At m_X11_member Q) 1 [some (.ref 0), some (.int p0), some (.int p1)] []) (fun h1 => ((p1 < 0 → (1 + 1 ≤ m_X11_member.cap ∧ Q (.inr 1) h1)) ∧ (¬ p1 < 0 → ((p1 ≤ (nI 6) → MetPM m_X8_numberOfMember [.ref 60, .int p0, .int p1] h1 (rI (hnd Q (At m_X11_member Q) 1 [some (.ref 0), some (.int p0), some (.int p1)] []) (fun x3 h2 => Q (.inl (some (.int x3))) h2))) ∧ (¬ p1 ≤ (nI 6) → (1 + 1 ≤ m_X11_member.cap ∧ Q (.inr 1) h1))))))))) :
    MetPM m_X11_member [.ref 0, .int p0, .int p1] h Q := by
  exact met_of o_X11_member (Nat.le_of_ble_eq_true rfl) (fun q => absurd rfl q) (vg_ok k_X11_member (stops := []) 68 0 0 _ [] h T)
set_option maxRecDepth 100000 in
set_option maxHeartbeats 4000000 in
theorem t_X11_partners {p0 : Int32} {h : PH} {Q : Res → PH → Prop}
    (T : (1 ≤ m_X11_partners.cap ∧ MetPM m_X11_needMember [.ref 0, .int p0] h (rV (hnd Q (At m_X11_partners Q) 1 [some (.ref 0), some (.int p0)] []) (fun h1 => (vp_in p0 12 ∧ Q (.inl (some (.int (gi h1 29 p0.toNatClampNeg)))) h1))))) :
    MetPM m_X11_partners [.ref 0, .int p0] h Q := by
  exact met_of o_X11_partners (Nat.le_of_ble_eq_true rfl) (fun q => absurd rfl q) (vg_ok k_X11_partners (stops := []) 60 0 0 _ [] h T)
set_option maxRecDepth 100000 in
set_option maxHeartbeats 4000000 in
theorem t_X11_down {p0 : Int32} {h : PH} {Q : Res → PH → Prop}
    (T : ((p0 < 0 → (0 + 1 ≤ m_X11_down.cap ∧ Q (.inr 2) h)) ∧ (¬ p0 < 0 → ((p0 < (gi h 21 1) → (vp_in p0 5 ∧ Q (.inl (some (.int ((gi h 24 p0.toNatClampNeg) &&& (gi h 60 7))))) h)) ∧ (¬ p0 < (gi h 21 1) → (0 + 1 ≤ m_X11_down.cap ∧ Q (.inr 2) h)))))) :
    MetPM m_X11_down [.ref 0, .int p0] h Q := by
  exact met_of o_X11_down (Nat.le_of_ble_eq_true rfl) (fun q => absurd rfl q) (vg_ok k_X11_down (stops := []) 74 0 0 _ [] h T)
set_option maxRecDepth 100000 in
set_option maxHeartbeats 4000000 in
theorem t_X11_skewNow {h : PH} {Q : Res → PH → Prop}
    (T : MetPM m_X5_everyMember [.ref 15] h (rI (hnd Q (At m_X11_skewNow Q) 0 [some (.ref 0), none] []) (fun x2 h1 => ((¬ x2 = 0 → MetPM m_X8_highestComing [.ref 60, .int x2] h1 (rI (hnd Q (At m_X11_skewNow Q) 0 [some (.ref 0), some (.int x2)] []) (fun x4 h3 => MetPM m_X8_lowestComing [.ref 60, .int x2] h3 (rI (hnd Q (At m_X11_skewNow Q) 0 [some (.ref 0), some (.int x2)] []) (fun x6 h5 => Q (.inl (some (.int (x4 - x6)))) h5))))) ∧ (x2 = 0 → Q (.inl (some (.int (nI 0)))) h1))))) :
    MetPM m_X11_skewNow [.ref 0] h Q := by
  exact met_of o_X11_skewNow (Nat.le_of_ble_eq_true rfl) (fun q => absurd rfl q) (vg_ok k_X11_skewNow (stops := []) 69 0 0 _ [] h T)
set_option maxRecDepth 100000 in
set_option maxHeartbeats 4000000 in
theorem t_X11_reason {p0 : Int32} {p1 : Int32} {h : PH} {Q : Res → PH → Prop}
    (T : (1 ≤ m_X11_reason.cap ∧ MetPM m_X11_needMember [.ref 0, .int p0] h (rV (hnd Q (At m_X11_reason Q) 1 [some (.ref 0), some (.int p0), some (.int p1)] []) (fun h1 => (2 ≤ m_X11_reason.cap ∧ MetPM m_X11_needVersion [.ref 0, .int p1] h1 (rV (hnd Q (At m_X11_reason Q) 2 [some (.ref 0), some (.int p0), some (.int p1)] []) (fun h2 => MetPM m_X8_whyNotBegin [.ref 60, .int p0, .int p1] h2 (rI (hnd Q (At m_X11_reason Q) 2 [some (.ref 0), some (.int p0), some (.int p1)] []) (fun x4 h3 => Q (.inl (some (.int x4))) h3))))))))) :
    MetPM m_X11_reason [.ref 0, .int p0, .int p1] h Q := by
  exact met_of o_X11_reason (Nat.le_of_ble_eq_true rfl) (fun q => absurd rfl q) (vg_ok k_X11_reason (stops := []) 62 0 0 _ [] h T)
set_option maxRecDepth 100000 in
set_option maxHeartbeats 4000000 in
theorem t_X11_open {p0 : Int32} {h : PH} {Q : Res → PH → Prop}
    (T : (1 ≤ m_X11_open.cap ∧ MetPM m_X11_needMember [.ref 0, .int p0] h (rV (hnd Q (At m_X11_open Q) 1 [some (.ref 0), some (.int p0), none, none] []) (fun h1 => At m_X11_open Q 9 1 [some (.ref 0), some (.int p0), some (.int (nI 0)), some (.int (nI 0))] [] h1)))) :
    MetPM m_X11_open [.ref 0, .int p0] h Q := by
  exact met_of o_X11_open (Nat.le_of_ble_eq_true rfl) (fun q => absurd rfl q) (vg_ok k_X11_open (stops := [9]) 80 0 0 _ [] h T)
set_option maxRecDepth 100000 in
set_option maxHeartbeats 4000000 in
theorem u_X11_open_9 {v1 : Int32} {v2 : Int32} {v3 : Int32} {h : PH} {Q : Res → PH → Prop}
    (T : (((gi h 16 1) ≤ v3 → Q (.inl (some (.int v2))) h) ∧ (¬ (gi h 16 1) ≤ v3 → MetPM m_X8_whyNotBegin [.ref 60, .int v1, .int v3] h (rI (hnd Q (At m_X11_open Q) 1 [some (.ref 0), some (.int v1), some (.int v2), some (.int v3)] []) (fun x2 h1 => ((¬ x2 = 0 → At m_X11_open Q 9 1 [some (.ref 0), some (.int v1), some (.int v2), some (.int (v3 + (nI 1)))] [] h1) ∧ (x2 = 0 → At m_X11_open Q 9 1 [some (.ref 0), some (.int v1), some (.int (v2 ||| ((nI 1) <<< (v3 &&& 31)))), some (.int (v3 + (nI 1)))] [] h1))))))) :
    At m_X11_open Q 9 1 [some (.ref 0), some (.int v1), some (.int v2), some (.int v3)] [] h := by
  exact vg_ok k_X11_open (stops := [9]) 80 9 1 _ _ h T
set_option maxRecDepth 100000 in
set_option maxHeartbeats 4000000 in
theorem t_X11_plan {p0 : Int32} {h : PH} {Q : Res → PH → Prop}
    (T : ((p0 < 0 → (0 + 1 ≤ m_X11_plan.cap ∧ Q (.inr 1) h)) ∧ (¬ p0 < 0 → ((p0 ≤ (nI 4) → MetPM m_X8_numberOfPlan [.ref 60, .int p0] h (rI (hnd Q (At m_X11_plan Q) 0 [some (.ref 0), some (.int p0)] []) (fun x2 h1 => Q (.inl (some (.int x2))) h1))) ∧ (¬ p0 ≤ (nI 4) → (0 + 1 ≤ m_X11_plan.cap ∧ Q (.inr 1) h)))))) :
    MetPM m_X11_plan [.ref 0, .int p0] h Q := by
  exact met_of o_X11_plan (Nat.le_of_ble_eq_true rfl) (fun q => absurd rfl q) (vg_ok k_X11_plan (stops := []) 64 0 0 _ [] h T)
set_option maxRecDepth 100000 in
set_option maxHeartbeats 4000000 in
theorem t_X11_whyNotCommit {p0 : Int32} {h : PH} {Q : Res → PH → Prop}
    (T : (1 ≤ m_X11_whyNotCommit.cap ∧ MetPM m_X11_needFormat [.int p0] h (rV (hnd Q (At m_X11_whyNotCommit Q) 1 [some (.ref 0), some (.int p0)] []) (fun h1 => MetPM m_X8_whyNotFormat [.ref 60, .int p0] h1 (rI (hnd Q (At m_X11_whyNotCommit Q) 1 [some (.ref 0), some (.int p0)] []) (fun x3 h2 => Q (.inl (some (.int x3))) h2)))))) :
    MetPM m_X11_whyNotCommit [.ref 0, .int p0] h Q := by
  exact met_of o_X11_whyNotCommit (Nat.le_of_ble_eq_true rfl) (fun q => absurd rfl q) (vg_ok k_X11_whyNotCommit (stops := []) 57 0 0 _ [] h T)
set_option maxRecDepth 100000 in
set_option maxHeartbeats 4000000 in
theorem t_X11_wayBack {h : PH} {Q : Res → PH → Prop}
    (T : MetPM m_X8_lowestWayBack [.ref 60] h (rI (hnd Q (At m_X11_wayBack Q) 0 [some (.ref 0)] []) (fun x2 h1 => Q (.inl (some (.int x2))) h1))) :
    MetPM m_X11_wayBack [.ref 0] h Q := by
  exact met_of o_X11_wayBack (Nat.le_of_ble_eq_true rfl) (fun q => absurd rfl q) (vg_ok k_X11_wayBack (stops := []) 54 0 0 _ [] h T)
set_option maxRecDepth 100000 in
set_option maxHeartbeats 4000000 in
theorem t_X11_minutesToEnd {p0 : Int32} {h : PH} {Q : Res → PH → Prop}
    (T : (1 ≤ m_X11_minutesToEnd.cap ∧ MetPM m_X11_needAhead [.int p0] h (rV (hnd Q (At m_X11_minutesToEnd Q) 1 [some (.ref 0), some (.int p0)] []) (fun h1 => MetPM m_X8_copyFrom [.ref 67, .ref 60] h1 (rV (hnd Q (At m_X11_minutesToEnd Q) 1 [some (.ref 0), some (.int p0)] []) (fun h2 => MetPM m_X8_minutesToDone [.ref 67, .int p0] h2 (rI (hnd Q (At m_X11_minutesToEnd Q) 1 [some (.ref 0), some (.int p0)] []) (fun x4 h3 => Q (.inl (some (.int x4))) h3)))))))) :
    MetPM m_X11_minutesToEnd [.ref 0, .int p0] h Q := by
  exact met_of o_X11_minutesToEnd (Nat.le_of_ble_eq_true rfl) (fun q => absurd rfl q) (vg_ok k_X11_minutesToEnd (stops := []) 62 0 0 _ [] h T)
set_option maxRecDepth 100000 in
set_option maxHeartbeats 4000000 in
theorem t_X11_events {h : PH} {Q : Res → PH → Prop}
    (T : Q (.inl (some (.int (gi h 65 1)))) h) :
    MetPM m_X11_events [.ref 0] h Q := by
  exact met_of o_X11_events (Nat.le_of_ble_eq_true rfl) (fun q => absurd rfl q) (vg_ok k_X11_events (stops := []) 55 0 0 _ [] h T)
set_option maxRecDepth 100000 in
set_option maxHeartbeats 4000000 in
theorem t_X11_event {p0 : Int32} {p1 : Int32} {h : PH} {Q : Res → PH → Prop}
    (T : ((p0 < 0 → (0 + 1 ≤ m_X11_event.cap ∧ Q (.inr 2) h)) ∧ (¬ p0 < 0 → ((p0 < (gi h 65 1) → ((p1 < 0 → (0 + 1 ≤ m_X11_event.cap ∧ Q (.inr 1) h)) ∧ (¬ p1 < 0 → ((p1 < (nI 4) → MetPM m_X3_cellOf [.ref 65, .int p0, .int p1] h (rI (hnd Q (At m_X11_event Q) 0 [some (.ref 0), some (.int p0), some (.int p1)] []) (fun x2 h1 => Q (.inl (some (.int x2))) h1))) ∧ (¬ p1 < (nI 4) → (0 + 1 ≤ m_X11_event.cap ∧ Q (.inr 1) h)))))) ∧ (¬ p0 < (gi h 65 1) → (0 + 1 ≤ m_X11_event.cap ∧ Q (.inr 2) h)))))) :
    MetPM m_X11_event [.ref 0, .int p0, .int p1] h Q := by
  exact met_of o_X11_event (Nat.le_of_ble_eq_true rfl) (fun q => absurd rfl q) (vg_ok k_X11_event (stops := []) 78 0 0 _ [] h T)
set_option maxRecDepth 100000 in
set_option maxHeartbeats 4000000 in
theorem t_X11_pass {p0 : Int32} {h : PH} {Q : Res → PH → Prop}
    (T : MetPM m_X8_canPass [.ref 60, .int p0] h (rI (hnd Q (At m_X11_pass Q) 0 [some (.ref 0), some (.int p0)] []) (fun x2 h1 => ((¬ x2 = 0 → MetPM m_X4_keep [.ref 13, .ref 60] h1 (rV (hnd Q (At m_X11_pass Q) 0 [some (.ref 0), some (.int p0)] []) (fun h3 => MetPM m_X8_passMinutes [.ref 60, .int p0] h3 (rI (hnd Q (At m_X11_pass Q) 0 [some (.ref 0), some (.int p0)] []) (fun x5 h4 => Q (.inl (some (.int x5))) h4))))) ∧ (x2 = 0 → (0 + 1 ≤ m_X11_pass.cap ∧ Q (.inr 1) h1)))))) :
    MetPM m_X11_pass [.ref 0, .int p0] h Q := by
  exact met_of o_X11_pass (Nat.le_of_ble_eq_true rfl) (fun q => absurd rfl q) (vg_ok k_X11_pass (stops := []) 69 0 0 _ [] h T)
set_option maxRecDepth 100000 in
set_option maxHeartbeats 4000000 in
theorem t_X11_start {p0 : Int32} {h : PH} {Q : Res → PH → Prop}
    (T : (1 ≤ m_X11_start.cap ∧ MetPM m_X11_needVersion [.ref 0, .int p0] h (rV (hnd Q (At m_X11_start Q) 1 [some (.ref 0), some (.int p0)] []) (fun h1 => MetPM m_X8_canStart [.ref 60] h1 (rI (hnd Q (At m_X11_start Q) 1 [some (.ref 0), some (.int p0)] []) (fun x3 h2 => ((¬ x3 = 0 → MetPM m_X4_keep [.ref 13, .ref 60] h2 (rV (hnd Q (At m_X11_start Q) 1 [some (.ref 0), some (.int p0)] []) (fun h4 => MetPM m_X8_startPlan [.ref 60, .int p0] h4 (rI (hnd Q (At m_X11_start Q) 1 [some (.ref 0), some (.int p0)] []) (fun x6 h5 => Q (.inl (some (.int x6))) h5))))) ∧ (x3 = 0 → (1 + 1 ≤ m_X11_start.cap ∧ Q (.inr 0) h2))))))))) :
    MetPM m_X11_start [.ref 0, .int p0] h Q := by
  exact met_of o_X11_start (Nat.le_of_ble_eq_true rfl) (fun q => absurd rfl q) (vg_ok k_X11_start (stops := []) 71 0 0 _ [] h T)
set_option maxRecDepth 100000 in
set_option maxHeartbeats 4000000 in
theorem t_X11_stop {h : PH} {Q : Res → PH → Prop}
    (T : MetPM m_X8_isActive [.ref 60] h (rI (hnd Q (At m_X11_stop Q) 0 [some (.ref 0)] []) (fun x2 h1 => ((¬ x2 = 0 → MetPM m_X4_keep [.ref 13, .ref 60] h1 (rV (hnd Q (At m_X11_stop Q) 0 [some (.ref 0)] []) (fun h3 => MetPM m_X8_stopPlan [.ref 60] h3 (rI (hnd Q (At m_X11_stop Q) 0 [some (.ref 0)] []) (fun x5 h4 => Q (.inl (some (.int x5))) h4))))) ∧ (x2 = 0 → (0 + 1 ≤ m_X11_stop.cap ∧ Q (.inr 0) h1)))))) :
    MetPM m_X11_stop [.ref 0] h Q := by
  exact met_of o_X11_stop (Nat.le_of_ble_eq_true rfl) (fun q => absurd rfl q) (vg_ok k_X11_stop (stops := []) 67 0 0 _ [] h T)
set_option maxRecDepth 100000 in
set_option maxHeartbeats 4000000 in
theorem t_X11_go {h : PH} {Q : Res → PH → Prop}
    (T : (((gi h 60 9) = (nI 3) → MetPM m_X4_keep [.ref 13, .ref 60] h (rV (hnd Q (At m_X11_go Q) 0 [some (.ref 0)] []) (fun h1 => MetPM m_X8_resumePlan [.ref 60] h1 (rI (hnd Q (At m_X11_go Q) 0 [some (.ref 0)] []) (fun x3 h2 => Q (.inl (some (.int x3))) h2))))) ∧ (¬ (gi h 60 9) = (nI 3) → (0 + 1 ≤ m_X11_go.cap ∧ Q (.inr 0) h)))) :
    MetPM m_X11_go [.ref 0] h Q := by
  exact met_of o_X11_go (Nat.le_of_ble_eq_true rfl) (fun q => absurd rfl q) (vg_ok k_X11_go (stops := []) 68 0 0 _ [] h T)
set_option maxRecDepth 100000 in
set_option maxHeartbeats 4000000 in
theorem t_X11_hold {p0 : Int32} {p1 : Int32} {h : PH} {Q : Res → PH → Prop}
    (T : (1 ≤ m_X11_hold.cap ∧ MetPM m_X11_needMember [.ref 0, .int p0] h (rV (hnd Q (At m_X11_hold Q) 1 [some (.ref 0), some (.int p0), some (.int p1)] []) (fun h1 => MetPM m_X11_isIn [.int (gi h1 60 8), .int p0] h1 (rI (hnd Q (At m_X11_hold Q) 1 [some (.ref 0), some (.int p0), some (.int p1)] []) (fun x3 h2 => ((¬ x3 = p1 → MetPM m_X4_keep [.ref 13, .ref 60] h2 (rV (hnd Q (At m_X11_hold Q) 1 [some (.ref 0), some (.int p0), some (.int p1)] []) (fun h4 => MetPM m_X8_setHeld [.ref 60, .int p0, .int p1] h4 (rI (hnd Q (At m_X11_hold Q) 1 [some (.ref 0), some (.int p0), some (.int p1)] []) (fun x6 h5 => Q (.inl (some (.int x6))) h5))))) ∧ (x3 = p1 → (1 + 1 ≤ m_X11_hold.cap ∧ Q (.inr 0) h2))))))))) :
    MetPM m_X11_hold [.ref 0, .int p0, .int p1] h Q := by
  exact met_of o_X11_hold (Nat.le_of_ble_eq_true rfl) (fun q => absurd rfl q) (vg_ok k_X11_hold (stops := []) 75 0 0 _ [] h T)
set_option maxRecDepth 100000 in
set_option maxHeartbeats 4000000 in
theorem t_X11_report {p0 : Int32} {p1 : Int32} {h : PH} {Q : Res → PH → Prop}
    (T : (1 ≤ m_X11_report.cap ∧ MetPM m_X11_needMember [.ref 0, .int p0] h (rV (hnd Q (At m_X11_report Q) 1 [some (.ref 0), some (.int p0), some (.int p1)] []) (fun h1 => (2 ≤ m_X11_report.cap ∧ MetPM m_X11_needMeasure [.int p1] h1 (rV (hnd Q (At m_X11_report Q) 2 [some (.ref 0), some (.int p0), some (.int p1)] []) (fun h2 => MetPM m_X8_isUp [.ref 60, .int p0] h2 (rI (hnd Q (At m_X11_report Q) 2 [some (.ref 0), some (.int p0), some (.int p1)] []) (fun x4 h3 => ((¬ x4 = 0 → MetPM m_X4_keep [.ref 13, .ref 60] h3 (rV (hnd Q (At m_X11_report Q) 2 [some (.ref 0), some (.int p0), some (.int p1)] []) (fun h5 => MetPM m_X8_setMeasure [.ref 60, .int p0, .int p1] h5 (rI (hnd Q (At m_X11_report Q) 2 [some (.ref 0), some (.int p0), some (.int p1)] []) (fun x7 h6 => Q (.inl (some (.int x7))) h6))))) ∧ (x4 = 0 → (2 + 1 ≤ m_X11_report.cap ∧ Q (.inr 0) h3)))))))))))) :
    MetPM m_X11_report [.ref 0, .int p0, .int p1] h Q := by
  exact met_of o_X11_report (Nat.le_of_ble_eq_true rfl) (fun q => absurd rfl q) (vg_ok k_X11_report (stops := []) 75 0 0 _ [] h T)
set_option maxRecDepth 100000 in
set_option maxHeartbeats 4000000 in
theorem t_X11_change {p0 : Int32} {p1 : Int32} {h : PH} {Q : Res → PH → Prop}
    (T : (1 ≤ m_X11_change.cap ∧ MetPM m_X11_needMember [.ref 0, .int p0] h (rV (hnd Q (At m_X11_change Q) 1 [some (.ref 0), some (.int p0), some (.int p1)] []) (fun h1 => (2 ≤ m_X11_change.cap ∧ MetPM m_X11_needVersion [.ref 0, .int p1] h1 (rV (hnd Q (At m_X11_change Q) 2 [some (.ref 0), some (.int p0), some (.int p1)] []) (fun h2 => MetPM m_X8_whyNotBegin [.ref 60, .int p0, .int p1] h2 (rI (hnd Q (At m_X11_change Q) 2 [some (.ref 0), some (.int p0), some (.int p1)] []) (fun x4 h3 => ((x4 = 0 → MetPM m_X4_keep [.ref 13, .ref 60] h3 (rV (hnd Q (At m_X11_change Q) 2 [some (.ref 0), some (.int p0), some (.int p1)] []) (fun h5 => MetPM m_X8_beginChange [.ref 60, .int p0, .int p1] h5 (rI (hnd Q (At m_X11_change Q) 2 [some (.ref 0), some (.int p0), some (.int p1)] []) (fun x7 h6 => Q (.inl (some (.int x7))) h6))))) ∧ (¬ x4 = 0 → (2 + 1 ≤ m_X11_change.cap ∧ Q (.inr 0) h3)))))))))))) :
    MetPM m_X11_change [.ref 0, .int p0, .int p1] h Q := by
  exact met_of o_X11_change (Nat.le_of_ble_eq_true rfl) (fun q => absurd rfl q) (vg_ok k_X11_change (stops := []) 77 0 0 _ [] h T)
set_option maxRecDepth 100000 in
set_option maxHeartbeats 4000000 in
theorem t_X11_commit {p0 : Int32} {h : PH} {Q : Res → PH → Prop}
    (T : (1 ≤ m_X11_commit.cap ∧ MetPM m_X11_needFormat [.int p0] h (rV (hnd Q (At m_X11_commit Q) 1 [some (.ref 0), some (.int p0)] []) (fun h1 => MetPM m_X8_whyNotFormat [.ref 60, .int p0] h1 (rI (hnd Q (At m_X11_commit Q) 1 [some (.ref 0), some (.int p0)] []) (fun x3 h2 => ((x3 = 0 → MetPM m_X4_keep [.ref 13, .ref 60] h2 (rV (hnd Q (At m_X11_commit Q) 1 [some (.ref 0), some (.int p0)] []) (fun h4 => MetPM m_X8_setFormat [.ref 60, .int p0] h4 (rI (hnd Q (At m_X11_commit Q) 1 [some (.ref 0), some (.int p0)] []) (fun x6 h5 => Q (.inl (some (.int x6))) h5))))) ∧ (¬ x3 = 0 → (1 + 1 ≤ m_X11_commit.cap ∧ Q (.inr 0) h2))))))))) :
    MetPM m_X11_commit [.ref 0, .int p0] h Q := by
  exact met_of o_X11_commit (Nat.le_of_ble_eq_true rfl) (fun q => absurd rfl q) (vg_ok k_X11_commit (stops := []) 71 0 0 _ [] h T)
set_option maxRecDepth 100000 in
set_option maxHeartbeats 4000000 in
theorem t_X11_undo {h : PH} {Q : Res → PH → Prop}
    (T : ((¬ (gi h 13 1) = 0 → MetPM m_X4_takeBack [.ref 13, .ref 60] h (rV (hnd Q (At m_X11_undo Q) 0 [some (.ref 0)] []) (fun h1 => Q (.inl (some (.int (gi h1 13 1)))) h1))) ∧ ((gi h 13 1) = 0 → Q (.inl (some (.int (-(nI 1))))) h))) :
    MetPM m_X11_undo [.ref 0] h Q := by
  exact met_of o_X11_undo (Nat.le_of_ble_eq_true rfl) (fun q => absurd rfl q) (vg_ok k_X11_undo (stops := []) 65 0 0 _ [] h T)
end
section
/-! ===== THE LAW'S MACHINE: a number from 2000 on is the cell 2000 addresses lower; its kind and its length lie in the fourth map ===== -/
/-- 2000 more, 2000 less: by choice, so that nothing counts there -/
noncomputable def uq : Nat → Nat := Classical.choose (⟨fun a => a + 2000, fun _ => rfl⟩ : ∃ f : Nat → Nat, ∀ a, f a = a + 2000)
noncomputable def dq : Nat → Nat := Classical.choose (⟨fun a => a - 2000, fun _ => rfl⟩ : ∃ f : Nat → Nat, ∀ a, f a = a - 2000)
theorem uq_eq (a : Nat) : uq a = a + 2000 := Classical.choose_spec (⟨fun a => a + 2000, fun _ => rfl⟩ : ∃ f : Nat → Nat, ∀ a, f a = a + 2000) a
theorem dq_eq (a : Nat) : dq a = a - 2000 := Classical.choose_spec (⟨fun a => a - 2000, fun _ => rfl⟩ : ∃ f : Nat → Nat, ∀ a, f a = a - 2000) a
theorem uq_dq {n : Nat} (h : 2000 ≤ n) : uq (dq n) = n := by rw [uq_eq, dq_eq]; omega
theorem dq_uq (a : Nat) : dq (uq a) = a := by rw [uq_eq, dq_eq]; omega
theorem uq_ge (a : Nat) : 2000 ≤ uq a := by rw [uq_eq]; omega
theorem uq_inj {a b : Nat} (h : uq a = uq b) : a = b := by rw [← dq_uq a, h, dq_uq]
theorem dq_inj {a b : Nat} (ha : 2000 ≤ a) (hb : 2000 ≤ b) (h : dq a = dq b) : a = b := by rw [← uq_dq ha, h, uq_dq hb]
theorem uq_hi (a : Nat) : 1000 ≤ uq a := Nat.le_trans (by decide) (uq_ge a)
/-- the kind of a number: 1 to 6 an object of class 9 to 14, 16 + t an array of type t; 32 more: one of the start's, that nobody writes -/
def qkd (h : PH) (n : Nat) : Nat := match Nat.blt n 1000 with
  | true => 0
  | false => h.2.2.2 n 0
def qln (h : PH) (n : Nat) : Nat := h.2.2.2 n 1
/-- by class: the sort of each slot -/
def fsq : Nat → List Nat
  | 9 => [0, 0, 0, 0, 0, 0]
  | 10 => [0, 0, 0, 0, 0, 0, 0, 0, 0, 0, 0, 0, 0, 0, 0, 0, 0, 0, 2, 2, 2, 2, 2, 2, 2, 2, 2, 0]
  | 11 => [2, 0, 0, 0]
  | 12 => [2, 0, 0, 0]
  | 13 => [0, 2, 0]
  | 14 => [0, 0, 0, 2]
  | _ => []
def fvq (ad : Nat → Nat) (h : PH) (n so j : Nat) : Value := match so with
  | 0 => .int (gi h n j)
  | 1 => .long (gl h n j)
  | _ => va_rf ((gr h n j).map ad)
def fvqs (ad : Nat → Nat) (h : PH) (n ci : Nat) : List Value := (List.range (fsq ci).length).map (fun j => fvq ad h n ((fsq ci).getD j 0) j)
def aeq (ad : Nat → Nat) (h : PH) (n t : Nat) : (Nat → Int32) ⊕ (Nat → Int64) ⊕ (Nat → UInt32) ⊕ (Nat → UInt64) ⊕ (Nat → Option Nat) := match t with
  | 7 => .inr (.inr (.inr (.inr (fun j => (h.2.2.1 n j).map ad))))
  | 8 => .inr (.inr (.inr (.inr (fun j => (h.2.2.1 n j).map ad))))
  | _ => .inl (h.1 n)
def celQ (ad : Nat → Nat) (cA : Nat → ClassId) (h : PH) (n : Nat) : va_E := match Nat.blt (qkd h n) 16 with
  | true => .inr (qkd h n + 8, fvqs ad h n (qkd h n + 8))
  | false => .inl (cA (qkd h n - 16), qln h n, aeq ad h n (qkd h n - 16))
noncomputable def pq (ad : Nat → Nat) (cA : Nat → ClassId) (h : PH) (L : List Nat) : va_W := va_pl L (fun a => celQ ad cA h (uq a))
/-- the heaps are the same at the numbers ahead of 2000; between 1000 and 2000 -/
def Lw (x h : PH) : Prop := ∀ a, a < 2000 → h.1 a = x.1 a ∧ h.2.1 a = x.2.1 a ∧ h.2.2.1 a = x.2.2.1 a ∧ h.2.2.2 a = x.2.2.2 a
def Md (x h : PH) : Prop := ∀ a, 1000 ≤ a → a < 2000 → h.1 a = x.1 a ∧ h.2.1 a = x.2.1 a ∧ h.2.2.1 a = x.2.2.1 a ∧ h.2.2.2 a = x.2.2.2 a
theorem Lw.refl (h : PH) : Lw h h := fun _ _ => ⟨rfl, rfl, rfl, rfl⟩
theorem Lw.trans {x y z : PH} (a : Lw x y) (b : Lw y z) : Lw x z := fun n hn => ⟨(b n hn).1.trans (a n hn).1, (b n hn).2.1.trans (a n hn).2.1, (b n hn).2.2.1.trans (a n hn).2.2.1, (b n hn).2.2.2.trans (a n hn).2.2.2⟩
theorem Md.refl (h : PH) : Md h h := fun _ _ _ => ⟨rfl, rfl, rfl, rfl⟩
theorem Md.trans {x y z : PH} (a : Md x y) (b : Md y z) : Md x z := fun n hn hm => ⟨(b n hn hm).1.trans (a n hn hm).1, (b n hn hm).2.1.trans (a n hn hm).2.1, (b n hn hm).2.2.1.trans (a n hn hm).2.2.1, (b n hn hm).2.2.2.trans (a n hn hm).2.2.2⟩
theorem Lw.md {x y : PH} (a : Lw x y) : Md x y := fun n _ hn => a n hn
theorem Hi.md {x y : PH} (a : Hi x y) : Md x y := fun n hn _ => a n hn
theorem Md.kd {x y : PH} (a : Md x y) {n : Nat} (hn : n < 2000) : qkd y n = qkd x n := by
  unfold qkd
  split
  · rfl
  · rename_i hb
    rw [(a n (by
      rcases Nat.lt_or_ge n 1000 with q | q
      · rw [Nat.blt_eq.mpr q] at hb; cases hb
      · exact q) hn).2.2.2]
/-- a constant of the start, in the heap -/
def kqF (ad : Nat → Nat) (A : Nat → Prop) (U : State) (H : Heap) (h : PH) (n : Nat) : Prop := match qkd h n with
  | 35 => n < 2000 ∧ va_O "java/lang/String" (ad n) A U H ∧ va_OF "java/lang/String" "value" "[B" (va_rf ((gr h n 0).map ad)) (ad n) A U H ∧ va_OF "java/lang/String" "coder" "B" (.int (gi h n 1)) (ad n) A U H
  | 48 => n < 2000 ∧ va_T .int (ad n) (qln h n) (fun j => .int (gi h n j)) A U H
  | 49 => n < 2000 ∧ va_T .byte (ad n) (qln h n) (fun j => .int (gi h n j)) A U H
  | 55 => n < 2000 ∧ va_T (.object "java/lang/Object") (ad n) (qln h n) (fun j => va_rf ((gr h n j).map ad)) A U H
  | _ => qkd h n < 32
def KQ (ad : Nat → Nat) (A : Nat → Prop) (U : State) (H : Heap) (h : PH) : Prop := ∀ n, kqF ad A U H h n
theorem kqF.map {ad : Nat → Nat} {A B : Nat → Prop} {u U : State} {H H1 : Heap} {h : PH} {n : Nat} (f : ∀ E t, va_O E t A u H → va_O E t B U H1) (g : ∀ o n d v t, va_OF o n d v t A u H → va_OF o n d v t B U H1) (k : ∀ ty t N e, va_T ty t N e A u H → va_T ty t N e B U H1) (q : kqF ad A u H h n) : kqF ad B U H1 h n := by
  unfold kqF at q ⊢
  split at q
  · exact ⟨q.1, f _ _ q.2.1, g _ _ _ _ _ q.2.2.1, g _ _ _ _ _ q.2.2.2⟩
  · exact ⟨q.1, k _ _ _ _ q.2⟩
  · exact ⟨q.1, k _ _ _ _ q.2⟩
  · exact ⟨q.1, k _ _ _ _ q.2⟩
  · exact q
theorem KQ.moved {ad : Nat → Nat} {A : Nat → Prop} {u U : State} {H : Heap} {h : PH} (hvm : u.vm.Alike U.vm) (q : KQ ad A u H h) : KQ ad A U H h := fun n => (q n).map (fun _ _ z => z.moved hvm) (fun _ _ _ _ _ z => z.moved hvm) (fun _ _ _ _ z => z.moved hvm)
theorem KQ.kept {ad : Nat → Nat} {A : Nat → Prop} {U : State} {H H1 : Heap} {h : PH} (q : KQ ad A U H h) (hq : ∀ a : Nat, a < H.size → ¬ A a → H1[a]? = H[a]?) : KQ ad A U H1 h := fun n => (q n).map (fun _ _ z => z.kept hq) (fun _ _ _ _ _ z => z.kept hq) (fun _ _ _ _ z => z.kept hq)
theorem KQ.narrow {ad : Nat → Nat} {A B : Nat → Prop} {U : State} {H : Heap} {h : PH} (q : KQ ad A U H h) (hAB : ∀ q, B q → A q) : KQ ad B U H h := fun n => (q n).map (fun _ _ z => z.narrow hAB) (fun _ _ _ _ _ z => z.narrow hAB) (fun _ _ _ _ z => z.narrow hAB)
/-- kinds of numbers from 2000 on are those of cells that are the law's own -/
def KdOk (h : PH) (L : List Nat) : Prop := ∀ n, ¬ qkd h n = 0 → (2000 ≤ n ∧ dq n ∈ L ∧ qkd h n < 32) ∨ (n < 2000 ∧ 32 ≤ qkd h n)
theorem KQ.of {ad : Nat → Nat} {A : Nat → Prop} {U : State} {H : Heap} {x h : PH} {L : List Nat} (q : KQ ad A U H x) (m : Md x h) (k : KdOk h L) : KQ ad A U H h := by
  intro n
  by_cases z : qkd h n = 0
  · unfold kqF; rw [z]; exact Nat.zero_lt_succ _
  · rcases k n z with ⟨a, -, c⟩ | ⟨a, c⟩
    · unfold kqF
      split
      · rename_i e; omega
      · rename_i e; omega
      · rename_i e; omega
      · rename_i e; omega
      · exact c
    · have hn : 1000 ≤ n := by
        rcases Nat.lt_or_ge n 1000 with w | w
        · exfalso; apply z; unfold qkd; rw [Nat.blt_eq.mpr w]
        · exact w
      obtain ⟨e1, -, e3, e4⟩ := m n hn a
      have e0 := m.kd a
      have q := q n
      unfold kqF at q ⊢
      unfold gi gr qln at q ⊢
      rw [e0, e1, e3, e4]
      exact q
/-- the texts of the law's own constants, by place: index in the pool, text -/
def sQi : List (Nat × String) := [(56, ""), (93, "format "), (98, ";"), (100, "skew "), (111, "version "), (113, "v"), (119, " "), (121, " ;\n"), (153, "talks "), (130, "place "), (132, "p"), (192, "member "), (194, "m"), (200, " held;"), (213, "link "), (218, "wave "), (145, "down "), (147, "takes "), (149, "soak "), (151, "limit ")]
/-- their bytes -/
def sQb : List (List Nat) := [[], [102, 111, 114, 109, 97, 116, 32], [59], [115, 107, 101, 119, 32], [118, 101, 114, 115, 105, 111, 110, 32], [118], [32], [32, 59, 10], [116, 97, 108, 107, 115, 32], [112, 108, 97, 99, 101, 32], [112], [109, 101, 109, 98, 101, 114, 32], [109], [32, 104, 101, 108, 100, 59], [108, 105, 110, 107, 32], [119, 97, 118, 101, 32], [100, 111, 119, 110, 32], [116, 97, 107, 101, 115, 32], [115, 111, 97, 107, 32], [108, 105, 109, 105, 116, 32]]
/-- words that a list of words can't carry over a call -/
def XQ : List Jvm.Cond := [
  .methodLinkNest RX13 68 yL_pick RL, .methodLinkNest RX13 157 yX12_init RL, .fieldLinkNest RJx35411 28 RJx4a65c "size" "I" RJx4a65c,
  .castable RX12 "java/lang/Object", .castable RX12 RX12, .castable "[I" "java/lang/Object", .declares ⟨"java/lang/Object", "getClass", "()Ljava/lang/Class;"⟩]
def XQk (w : Jvm.Cond) : Bool := match w with
  | .methodLinkNest .. => true
  | .fieldLinkNest .. => true
  | .castable .. => true
  | .declares .. => true
  | _ => false
theorem XQ_k : XQ.all XQk = true := by decide +kernel
theorem XQ_on : XQ.all (fun w => w.onTables) = true := by decide +kernel
/-- the calls by an interface: the receiver's class, the name, the method -/
def FQ : List (String × MethodName × MethodName) := [
  (RJx4a65c, ⟨"java/util/List", "iterator", "()Ljava/util/Iterator;"⟩, yJx4a65c_iterator_32c93), (RJx35411, ⟨"java/util/Iterator", "hasNext", "()Z"⟩, yJx35411_hasNext_aae02), (RJx35411, ⟨"java/util/Iterator", "next", "()Ljava/lang/Object;"⟩, yJx35411_next_0502b),
  (RJx4a65c, ⟨"java/util/List", "size", "()I"⟩, yJx4a65c_size_8abf5), (RJx4a65c, ⟨"java/util/List", "add", "(Ljava/lang/Object;)Z"⟩, yJx4a65c_add_9ea2d), (RJx4a65c, ⟨"java/util/List", "get", "(I)Ljava/lang/Object;"⟩, yJx4a65c_get_915e3), (RJx4a65c, ⟨"java/util/List", "isEmpty", "()Z"⟩, yJx4a65c_isEmpty_aae02)]
theorem FQ_mh : ∀ q ∈ FQ, q.2.1.cls ≠ "java/lang/invoke/MethodHandle" ∧ q.2.1.cls ≠ "java/lang/invoke/VarHandle" := by decide +kernel
/-- static references: class, name, descriptor, number -/
def gQ : List (String × String × String × Nat) := [("java/util/ArrayList", "DEFAULTCAPACITY_EMPTY_ELEMENTDATA", "[Ljava/lang/Object;", 1402), ("java/lang/Integer", "DigitOnes", "[B", 1400), ("java/lang/Integer", "DigitTens", "[B", 1401)]
/-- new boolean[n][m] finds its class -/
def aoaQ (U : State) : Prop := (Cond.arrayOver (.array .boolean)).before #[] U = true
theorem aoaQ.moved {u U : State} (hvm : u.vm.Alike U.vm) (h : aoaQ u) : aoaQ U := Jvm.Stand.arrayOver_alikeB hvm h
/-- what a walk of the law knows of its start beside the world -/
def CQ (ad : Nat → Nat) (A : Nat → Prop) (U : State) (H : Heap) : Prop :=
  (∀ a, 2000 ≤ a → ad a = dq a) ∧ (∀ w ∈ XQ, va_Nw w U) ∧ (∀ (i : Nat) (q : Nat × String), sQi[i]? = some q → vk_R RX13 q.1 q.2 (ad (1200 + i)) U) ∧ (∀ q ∈ FQ, va_Fw q.1 q.2.1 q.2.2 U) ∧
  (∀ q ∈ gQ, va_Z q.1 q.2.1 q.2.2.1 (.ref (ad q.2.2.2)) A U H) ∧ va_Z "java/lang/String" "COMPACT_STRINGS" "Z" (.int 1) A U H ∧ va_Mi "[Ljava/lang/Object;" (ad 1410) U ∧ va_AO "java/lang/Object" U ∧ aoaQ U ∧ (va_Z cPre cFmt cBiF .null A U H ∨ va_Z cPre cFmt cBiF (.ref (ad 1090)) A U H)
end
section
theorem CQ.lo {ad : Nat → Nat} {A : Nat → Prop} {U : State} {H : Heap} (q : CQ ad A U H) : ∀ a, 2000 ≤ a → ad a = dq a := q.1
theorem CQ.kept {ad : Nat → Nat} {A : Nat → Prop} {U : State} {H H1 : Heap} (q : CQ ad A U H) (hq : ∀ a : Nat, a < H.size → ¬ A a → H1[a]? = H[a]?) : CQ ad A U H1 := ⟨q.1, q.2.1, q.2.2.1, q.2.2.2.1, fun x hx => (q.2.2.2.2.1 x hx).kept hq, q.2.2.2.2.2.1.kept hq, q.2.2.2.2.2.2.1, q.2.2.2.2.2.2.2.1, q.2.2.2.2.2.2.2.2.1, q.2.2.2.2.2.2.2.2.2.imp (fun z => z.kept hq) (fun z => z.kept hq)⟩
theorem CQ.narrow {ad : Nat → Nat} {A B : Nat → Prop} {U : State} {H : Heap} (q : CQ ad A U H) (hAB : ∀ q, B q → A q) : CQ ad B U H := ⟨q.1, q.2.1, q.2.2.1, q.2.2.2.1, fun x hx => (q.2.2.2.2.1 x hx).narrow hAB, q.2.2.2.2.2.1.narrow hAB, q.2.2.2.2.2.2.1, q.2.2.2.2.2.2.2.1, q.2.2.2.2.2.2.2.2.1, q.2.2.2.2.2.2.2.2.2.imp (fun z => z.narrow hAB) (fun z => z.narrow hAB)⟩
theorem CQ.moved {ad : Nat → Nat} {A : Nat → Prop} {s U : State} {H : Heap} (hW : s.WarmedH U.vm) (q : CQ ad A s H) : CQ ad A U H := by
  have hvm := hW.alike
  refine ⟨q.1, fun w hw => ?_, fun i x hx => (q.2.2.1 i x hx).warm hW, fun x hx => (q.2.2.2.1 x hx).moved (FQ_mh x hx) hvm, fun x hx => (q.2.2.2.2.1 x hx).moved hvm, q.2.2.2.2.2.1.moved hvm, q.2.2.2.2.2.2.1.moved hvm, q.2.2.2.2.2.2.2.1.moved hvm, q.2.2.2.2.2.2.2.2.1.moved hvm, q.2.2.2.2.2.2.2.2.2.imp (fun z => z.moved hvm) (fun z => z.moved hvm)⟩
  have h1 := List.all_eq_true.mp XQ_k w hw
  have h2 := q.2.1 w hw
  cases w <;> first | exact va_Nw.warmM hW h2 | exact va_Nw.warmF hW h2 | exact va_Nw.warmC hW h2 | exact va_Nw.warmD hW h2 | cases h1
theorem CQ.same {ad : Nat → Nat} {A : Nat → Prop} {u U : State} {H : Heap} (hv : u.vm = U.vm) (q : CQ ad A u H) : CQ ad A U H := by
  have hvm : u.vm.Alike U.vm := hv ▸ Vm.Alike.refl u.vm
  refine ⟨q.1, fun w hw => ?_, fun i x hx => (q.2.2.1 i x hx).same hv.symm, fun x hx => (q.2.2.2.1 x hx).moved (FQ_mh x hx) hvm, fun x hx => (q.2.2.2.2.1 x hx).moved hvm, q.2.2.2.2.2.1.moved hvm, q.2.2.2.2.2.2.1.moved hvm, q.2.2.2.2.2.2.2.1.moved hvm, q.2.2.2.2.2.2.2.2.1.moved hvm, q.2.2.2.2.2.2.2.2.2.imp (fun z => z.moved hvm) (fun z => z.moved hvm)⟩
  exact va_Nw.same (List.all_eq_true.mp XQ_on w hw) hv (q.2.1 w hw)
end
section
/-! ===== walks and contracts of the law's machine ===== -/
def flQ (M : MI) : Bool := Nat.beq M.sk 5
def rmQ (M : MI) : Room := { frames := M.fr, cells := M.cap, slots := 12 * M.cap, locals := M.lo }
/-- the world over a walk: X what stands ahead of the law's own cells, L these, h0 the numbers at the method's entry -/
def WL (fl : Bool) (ad : Nat → Nat) (cA : Nat → ClassId) (D : va_G) (X : PH → va_W) (h0 : PH) (A : Nat → Prop) (h : PH) (s : State) (H0 H : Heap) (locs : List Loc) : Prop :=
  ∃ L : List Nat, va_P D pmCl (X h ++ pq ad cA h L) H ∧ va_D A (X h ++ pq ad cA h L) ∧ va_S A H0 H locs ∧ KdOk h L ∧ Md h0 h ∧ (fl = false → Lw h0 h)
def frQ (w : va_W) (L : List Nat) (sz : Nat) : Nat → Prop := fun q => (∃ (i : Nat) (e : va_E), w[i]? = some (q, e)) ∨ q ∈ L ∨ sz ≤ q
def PcQ (fl : Bool) (ad : Nat → Nat) (cA : Nat → ClassId) (D : va_G) (X : PH → va_W) (L : List Nat) (sz : Nat) (h : PH) (U : State) : Prop :=
  U.heap.size = sz ∧ va_P D pmCl (X h ++ pq ad cA h L) U.heap ∧ va_K D pmCl (pmTy cA) U ∧ va_D (fun _ => True) (X h ++ pq ad cA h L) ∧ KdOk h L ∧ KQ ad (frQ (X h) L sz) U U.heap h ∧ CQ ad (frQ (X h) L sz) U U.heap ∧ (fl = true → X = wd ad cA ∧ CF ad (frQ (X h) L sz) U U.heap ∧ xwOk ad U)
def PoQ (fl : Bool) (ad : Nat → Nat) (cA : Nat → ClassId) (D : va_G) (X : PH → va_W) (L : List Nat) (sz : Nat) (h h' : PH) (L' : List Nat) (t : State) : Prop :=
  va_P D pmCl (X h' ++ pq ad cA h' L') t.heap ∧ va_D (fun _ => True) (X h' ++ pq ad cA h' L') ∧ (∀ q ∈ L', q ∈ L ∨ sz ≤ q) ∧ KdOk h' L' ∧ Md h h' ∧ (fl = false → Lw h h')
def QcQ (fl : Bool) (ad : Nat → Nat) (cA : Nat → ClassId) (D : va_G) (X : PH → va_W) (L : List Nat) (sz : Nat) (h : PH) (Q : Res → PH → Prop) : Array Value → State → Outcome → State → Prop :=
  fun _ st o t => (∃ (v : Option Value) (h' : PH) (L' : List Nat), o = .returned (v.map (tr ad)) ∧ Q (.inl v) h' ∧ PoQ fl ad cA D X L sz h h' L' t) ∧ va_F (frQ (X h) L sz) st t
/-- the contract of a method of the law, or of the JDK: from as and h it returns with Q -/
def MetQ (M : MI) (as : List Value) (h : PH) (Q : Res → PH → Prop) : Prop :=
  ∀ (l : Launch) (ad : Nat → Nat) (cA : Nat → ClassId) (D : va_G) (X : PH → va_W) (L : List Nat) (sz : Nat), l.stackTraces = false → (∀ x y, Lw x y → X y = X x) →
    Met l M.y (wsM M) (rmQ M) (va_Pc (as.map (tr ad)) (PcQ (flQ M) ad cA D X L sz h)) (QcQ (flQ M) ad cA D X L sz h Q) M.cap (12 * M.cap) (frQ (X h) L sz)
/-- a method's frame in a walk -/
def Cb (M : MI) (Q : Res → PH → Prop) (Z : State → Prop) (p : Program) (l : Launch) (e : Env) (R : Room) (s : State) (m : MethodId) (args : Array Value) (below : List Frame) (meth : Method) (c : Code)
    (ad : Nat → Nat) (cA : Nat → ClassId) (D : va_G) (A : Nat → Prop) (X : PH → va_W) (h0 : PH) : Prop :=
  CallFix p m c M.b M.nl s args tbG M.y.cls ∧ va_K D pmCl (pmTy cA) s ∧ (∀ q, s.heap.size ≤ q → A q) ∧ KQ ad A s s.heap h0 ∧ CQ ad A s s.heap ∧ (∀ x y, Lw x y → X y = X x) ∧ (flQ M = true → X = wd ad cA ∧ CF ad A s s.heap ∧ xwOk ad s) ∧ l.stackTraces = false ∧
  (M.fr ≤ R.frames ∧ M.lo ≤ R.locals ∧ M.cap ≤ R.cells ∧ 12 * M.cap ≤ R.slots) ∧ meth.name = M.y.name ∧
  (∀ (v : Option Value) (h : PH) (H : Heap) (locs : List Loc) (cells slots : Nat) (pc : Nat) (i : Instr) (ls : Array Slot), decode M.b pc = .ok (i, 1) → rtOk M.ret i v → Q (.inl v) h → WL (flQ M) ad cA D X h0 A h s s.heap H locs → cells ≤ M.cap → slots ≤ 12 * M.cap →
    W p l e R s m args below meth c H locs cells slots Z (F0 m pc ls ((v.map (tr ad)).toList)))
/-- from this point of M's code, with these locals, stack and numbers, every run ends with Q -/
def BtC (M : MI) (Z : State → Prop) (p : Program) (l : Launch) (e : Env) (R : Room) (s : State) (m : MethodId) (args : Array Value) (below : List Frame) (meth : Method) (cc : Code) (ad : Nat → Nat) (cA : Nat → ClassId) (D : va_G) (A : Nat → Prop) (X : PH → va_W) (h0 : PH) : KT := fun pc c ls st h =>
  ∀ (H : Heap) (locs : List Loc) (cells slots : Nat) (lsA : Array Slot), WL (flQ M) ad cA D X h0 A h s s.heap H locs → lv_has lsA M.nl (tl ad ls) → cells ≤ c → slots ≤ 12 * c → c ≤ M.cap → W p l e R s m args below meth cc H locs cells slots Z (F0 m pc lsA (st.map (tr ad)))
def Bt (M : MI) (Q : Res → PH → Prop) : KT := fun pc c ls st h =>
  ∀ (Z : State → Prop) (p : Program) (l : Launch) (e : Env) (R : Room) (s : State) (m : MethodId) (args : Array Value) (below : List Frame) (meth : Method) (cc : Code) (ad : Nat → Nat) (cA : Nat → ClassId) (D : va_G) (A : Nat → Prop) (X : PH → va_W) (h0 : PH),
    Cb M Q Z p l e R s m args below meth cc ad cA D A X h0 → BtC M Z p l e R s m args below meth cc ad cA D A X h0 pc c ls st h
end
section
/-! ===== pure steps of the law's machine ===== -/
def pureI : Instr → Bool
  | .iconst _ => true
  | .bipush _ => true
  | .sipush _ => true
  | .aconst_null => true
  | .iload _ => true
  | .iload_n _ => true
  | .istore _ => true
  | .istore_n _ => true
  | .aload _ => true
  | .aload_n _ => true
  | .astore _ => true
  | .astore_n _ => true
  | .iinc _ _ => true
  | .iadd => true
  | .isub => true
  | .imul => true
  | .iand => true
  | .ior => true
  | .ishl => true
  | .ishr => true
  | .iushr => true
  | .idiv => true
  | .irem => true
  | .i2b => true
  | .i2c => true
  | .dup => true
  | .dup2 => true
  | .pop => true
  | .goto _ => true
  | .ifCond _ _ => true
  | .if_icmp _ _ => true
  | .ifnull _ => true
  | .ifnonnull _ => true
  | .tableswitch _ _ _ _ => true
  | .return_ => true
  | .ireturn => true
  | .areturn => true
  | .ldc_w _ => true
  | _ => false
section
variable {M : MI} {Q : Res → PH → Prop} {Z : State → Prop} {p : Program} {l : Launch} {e : Env} {R : Room} {s : State} {m : MethodId} {args : Array Value} {below : List Frame} {meth : Method} {cc : Code} {ad : Nat → Nat} {cA : Nat → ClassId} {D : va_G} {A : Nat → Prop} {X : PH → va_W} {h0 : PH} {k : KT} {pc c : Nat} {ls : Lc} {st : List Value} {h : PH}
theorem bc_stl (hx : p.tables.exec = Jvm.exec) (hb : cc.code = M.b) (hk : ∀ pc c ls st h, k pc c ls st h → BtC M Z p l e R s m args below meth cc ad cA D A X h0 pc c ls st h) {q n : Nat}
    (hd : match q with
      | 0 => decode M.b pc = .ok (.iload n, 2)
      | 1 => decode M.b pc = .ok (.lload n, 2)
      | 2 => decode M.b pc = .ok (.fload n, 2)
      | 3 => decode M.b pc = .ok (.dload n, 2)
      | _ => decode M.b pc = .ok (.aload n, 2)) (hs : stl k q (pc + 2) c ls st h n) : BtC M Z p l e R s m args below meth cc ad cA D A X h0 pc c ls st h := by
  intro H locs cells slots lsA hW hl h1 h2 h3
  unfold stl at hs
  split at hs
  · split at hs
    · rename_i x hg; exact lv_iload hx hb hd (tl_get hl hg) (hk _ _ _ _ _ hs H locs cells slots lsA hW hl h1 h2 h3)
    · cases hs
  · split at hs
    · rename_i x hg; exact lv_lload hx hb hd (tl_get hl hg) (hk _ _ _ _ _ hs H locs cells slots lsA hW hl h1 h2 h3)
    · cases hs
  · split at hs
    · rename_i x hg; exact lv_fload hx hb hd (tl_get hl hg) (hk _ _ _ _ _ hs H locs cells slots lsA hW hl h1 h2 h3)
    · cases hs
  · split at hs
    · rename_i x hg; exact lv_dload hx hb hd (tl_get hl hg) (hk _ _ _ _ _ hs H locs cells slots lsA hW hl h1 h2 h3)
    · cases hs
  · rename_i q0 q1 q2 q3
    split at hs
    · rename_i x hg; exact lv_aload hx hb (by simpa [q0, q1, q2, q3] using hd) (tl_get hl hg) (hk _ _ _ _ _ hs H locs cells slots lsA hW hl h1 h2 h3)
    · rename_i hg; exact lv_aloadN hx hb (by simpa [q0, q1, q2, q3] using hd) (tl_get hl hg) (hk _ _ _ _ _ hs H locs cells slots lsA hW hl h1 h2 h3)
    · cases hs
theorem bc_stl_n (hx : p.tables.exec = Jvm.exec) (hb : cc.code = M.b) (hk : ∀ pc c ls st h, k pc c ls st h → BtC M Z p l e R s m args below meth cc ad cA D A X h0 pc c ls st h) {q : Nat} {n : Fin 4}
    (hd : match q with
      | 0 => decode M.b pc = .ok (.iload_n n, 1)
      | 1 => decode M.b pc = .ok (.lload_n n, 1)
      | 2 => decode M.b pc = .ok (.fload_n n, 1)
      | 3 => decode M.b pc = .ok (.dload_n n, 1)
      | _ => decode M.b pc = .ok (.aload_n n, 1)) (hs : stl k q (pc + 1) c ls st h n.val) : BtC M Z p l e R s m args below meth cc ad cA D A X h0 pc c ls st h := by
  intro H locs cells slots lsA hW hl h1 h2 h3
  unfold stl at hs
  split at hs
  · split at hs
    · rename_i x hg; exact lv_iload_n hx hb hd rfl (tl_get hl hg) (hk _ _ _ _ _ hs H locs cells slots lsA hW hl h1 h2 h3)
    · cases hs
  · split at hs
    · rename_i x hg; exact lv_lload_n hx hb hd rfl (tl_get hl hg) (hk _ _ _ _ _ hs H locs cells slots lsA hW hl h1 h2 h3)
    · cases hs
  · split at hs
    · rename_i x hg; exact lv_fload_n hx hb hd rfl (tl_get hl hg) (hk _ _ _ _ _ hs H locs cells slots lsA hW hl h1 h2 h3)
    · cases hs
  · split at hs
    · rename_i x hg; exact lv_dload_n hx hb hd rfl (tl_get hl hg) (hk _ _ _ _ _ hs H locs cells slots lsA hW hl h1 h2 h3)
    · cases hs
  · rename_i q0 q1 q2 q3
    split at hs
    · rename_i x hg; exact lv_aload_n hx hb (by simpa [q0, q1, q2, q3] using hd) rfl (tl_get hl hg) (hk _ _ _ _ _ hs H locs cells slots lsA hW hl h1 h2 h3)
    · rename_i hg; exact lv_aload_nN hx hb (by simpa [q0, q1, q2, q3] using hd) rfl (tl_get hl hg) (hk _ _ _ _ _ hs H locs cells slots lsA hW hl h1 h2 h3)
    · cases hs
theorem bc_sts (hx : p.tables.exec = Jvm.exec) (hb : cc.code = M.b) (hk : ∀ pc c ls st h, k pc c ls st h → BtC M Z p l e R s m args below meth cc ad cA D A X h0 pc c ls st h) {q n : Nat}
    (hd : match q with
      | 0 => decode M.b pc = .ok (.istore n, 2)
      | 1 => decode M.b pc = .ok (.lstore n, 2)
      | 2 => decode M.b pc = .ok (.fstore n, 2)
      | 3 => decode M.b pc = .ok (.dstore n, 2)
      | _ => decode M.b pc = .ok (.astore n, 2)) (hs : sts M.nl k q (pc + 2) c ls st h n) : BtC M Z p l e R s m args below meth cc ad cA D A X h0 pc c ls st h := by
  intro H locs cells slots lsA hW hl h1 h2 h3
  unfold sts at hs
  split at hs
  · split at hs
    · rename_i x r hn; exact lv_istore hx hb hd hl (blt_of hn) rfl (fun ls' hl' => hk _ _ _ _ _ hs H locs cells slots ls' hW (lv_mono hl' tl_put1) h1 h2 h3)
    · cases hs
  · split at hs
    · rename_i x r hn; exact lv_lstore hx hb hd hl (blt_of hn) rfl (fun ls' hl' => hk _ _ _ _ _ hs H locs cells slots ls' hW (lv_mono hl' tl_put2) h1 h2 h3)
    · cases hs
  · split at hs
    · rename_i x r hn; exact lv_fstore hx hb hd hl (blt_of hn) rfl (fun ls' hl' => hk _ _ _ _ _ hs H locs cells slots ls' hW (lv_mono hl' tl_put1) h1 h2 h3)
    · cases hs
  · split at hs
    · rename_i x r hn; exact lv_dstore hx hb hd hl (blt_of hn) rfl (fun ls' hl' => hk _ _ _ _ _ hs H locs cells slots ls' hW (lv_mono hl' tl_put2) h1 h2 h3)
    · cases hs
  · rename_i q0 q1 q2 q3
    split at hs
    · rename_i x r hn; exact lv_astore hx hb (by simpa [q0, q1, q2, q3] using hd) hl (blt_of hn) rfl (fun ls' hl' => hk _ _ _ _ _ hs H locs cells slots ls' hW (lv_mono hl' tl_put1) h1 h2 h3)
    · rename_i r hn; exact lv_astoreN hx hb (by simpa [q0, q1, q2, q3] using hd) hl (blt_of hn) rfl (fun ls' hl' => hk _ _ _ _ _ hs H locs cells slots ls' hW (lv_mono hl' tl_put1) h1 h2 h3)
    · cases hs
theorem bc_sts_n (hx : p.tables.exec = Jvm.exec) (hb : cc.code = M.b) (hk : ∀ pc c ls st h, k pc c ls st h → BtC M Z p l e R s m args below meth cc ad cA D A X h0 pc c ls st h) {q : Nat} {n : Fin 4}
    (hd : match q with
      | 0 => decode M.b pc = .ok (.istore_n n, 1)
      | 1 => decode M.b pc = .ok (.lstore_n n, 1)
      | 2 => decode M.b pc = .ok (.fstore_n n, 1)
      | 3 => decode M.b pc = .ok (.dstore_n n, 1)
      | _ => decode M.b pc = .ok (.astore_n n, 1)) (hs : sts M.nl k q (pc + 1) c ls st h n.val) : BtC M Z p l e R s m args below meth cc ad cA D A X h0 pc c ls st h := by
  intro H locs cells slots lsA hW hl h1 h2 h3
  unfold sts at hs
  split at hs
  · split at hs
    · rename_i x r hn; exact lv_istore_n hx hb hd rfl hl (blt_of hn) rfl (fun ls' hl' => hk _ _ _ _ _ hs H locs cells slots ls' hW (lv_mono hl' tl_put1) h1 h2 h3)
    · cases hs
  · split at hs
    · rename_i x r hn; exact lv_lstore_n hx hb hd rfl hl (blt_of hn) rfl (fun ls' hl' => hk _ _ _ _ _ hs H locs cells slots ls' hW (lv_mono hl' tl_put2) h1 h2 h3)
    · cases hs
  · split at hs
    · rename_i x r hn; exact lv_fstore_n hx hb hd rfl hl (blt_of hn) rfl (fun ls' hl' => hk _ _ _ _ _ hs H locs cells slots ls' hW (lv_mono hl' tl_put1) h1 h2 h3)
    · cases hs
  · split at hs
    · rename_i x r hn; exact lv_dstore_n hx hb hd rfl hl (blt_of hn) rfl (fun ls' hl' => hk _ _ _ _ _ hs H locs cells slots ls' hW (lv_mono hl' tl_put2) h1 h2 h3)
    · cases hs
  · rename_i q0 q1 q2 q3
    split at hs
    · rename_i x r hn; exact lv_astore_n hx hb (by simpa [q0, q1, q2, q3] using hd) rfl hl (blt_of hn) rfl (fun ls' hl' => hk _ _ _ _ _ hs H locs cells slots ls' hW (lv_mono hl' tl_put1) h1 h2 h3)
    · rename_i r hn; exact lv_astore_nN hx hb (by simpa [q0, q1, q2, q3] using hd) rfl hl (blt_of hn) rfl (fun ls' hl' => hk _ _ _ _ _ hs H locs cells slots ls' hW (lv_mono hl' tl_put1) h1 h2 h3)
    · cases hs
theorem bc_a2i (hk : ∀ pc c ls st h, k pc c ls st h → BtC M Z p l e R s m args below meth cc ad cA D A X h0 pc c ls st h) {f : Int32 → Int32 → Int32}
    (row : ∀ (x y : Int32) (H : Heap) (locs : List Loc) (cells slots : Nat) (lsA : Array Slot) (rest : List Value), W p l e R s m args below meth cc H locs cells slots Z (F0 m (pc + 1) lsA (.int (f x y) :: rest)) → W p l e R s m args below meth cc H locs cells slots Z (F0 m pc lsA (.int y :: .int x :: rest)))
    (hs : a2i k pc c ls st h f) : BtC M Z p l e R s m args below meth cc ad cA D A X h0 pc c ls st h := by
  intro H locs cells slots lsA hW hl h1 h2 h3
  unfold a2i at hs
  split at hs
  · exact row _ _ _ _ _ _ _ _ (hk _ _ _ _ _ hs H locs cells slots lsA hW hl h1 h2 h3)
  · cases hs
theorem bc_if (hx : p.tables.exec = Jvm.exec) (hb : cc.code = M.b) (hk : ∀ pc c ls st h, k pc c ls st h → BtC M Z p l e R s m args below meth cc ad cA D A X h0 pc c ls st h) {cd : Jvm.ClassFile.Cond} {off : Int} {t : Nat} {x : Int32} {r : List Value}
    (hd : decode M.b pc = .ok (.ifCond cd off, 3)) (ht : (pc : Int) + off = (t : Int)) (hs : stcc cd x 0 (k t c ls r h) (k (pc + 3) c ls r h)) : BtC M Z p l e R s m args below meth cc ad cA D A X h0 pc c ls (.int x :: r) h := by
  intro H locs cells slots lsA hW hl h1 h2 h3
  have g1 : ∀ pc' : Nat, k pc' c ls r h → W p l e R s m args below meth cc H locs cells slots Z (F0 m pc' lsA (r.map (tr ad))) := fun pc' h9 => hk _ _ _ _ _ h9 H locs cells slots lsA hW hl h1 h2 h3
  cases cd
  · exact lv_if_eq hx hb hd ht (fun q => g1 _ (hs.1 q)) (fun q => g1 _ (hs.2 q))
  · exact lv_if_ne hx hb hd ht (fun q => g1 _ (hs.1 q)) (fun q => g1 _ (hs.2 q))
  · exact lv_if_lt hx hb hd ht (fun q => g1 _ (hs.1 q)) (fun q => g1 _ (hs.2 q))
  · exact lv_if_ge hx hb hd ht (fun q => g1 _ (hs.1 q)) (fun q => g1 _ (hs.2 q))
  · exact lv_if_gt hx hb hd ht (fun q => g1 _ (hs.1 q)) (fun q => g1 _ (hs.2 q))
  · exact lv_if_le hx hb hd ht (fun q => g1 _ (hs.1 q)) (fun q => g1 _ (hs.2 q))
theorem bc_icmp (hx : p.tables.exec = Jvm.exec) (hb : cc.code = M.b) (hk : ∀ pc c ls st h, k pc c ls st h → BtC M Z p l e R s m args below meth cc ad cA D A X h0 pc c ls st h) {cd : Jvm.ClassFile.Cond} {off : Int} {t : Nat} {x y : Int32} {r : List Value}
    (hd : decode M.b pc = .ok (.if_icmp cd off, 3)) (ht : (pc : Int) + off = (t : Int)) (hs : stcc cd x y (k t c ls r h) (k (pc + 3) c ls r h)) : BtC M Z p l e R s m args below meth cc ad cA D A X h0 pc c ls (.int y :: .int x :: r) h := by
  intro H locs cells slots lsA hW hl h1 h2 h3
  have g1 : ∀ pc' : Nat, k pc' c ls r h → W p l e R s m args below meth cc H locs cells slots Z (F0 m pc' lsA (r.map (tr ad))) := fun pc' h9 => hk _ _ _ _ _ h9 H locs cells slots lsA hW hl h1 h2 h3
  cases cd
  · exact lv_icmp_eq hx hb hd ht (fun q => g1 _ (hs.1 q)) (fun q => g1 _ (hs.2 q))
  · exact lv_icmp_ne hx hb hd ht (fun q => g1 _ (hs.1 q)) (fun q => g1 _ (hs.2 q))
  · exact lv_icmp_lt hx hb hd ht (fun q => g1 _ (hs.1 q)) (fun q => g1 _ (hs.2 q))
  · exact lv_icmp_ge hx hb hd ht (fun q => g1 _ (hs.1 q)) (fun q => g1 _ (hs.2 q))
  · exact lv_icmp_gt hx hb hd ht (fun q => g1 _ (hs.1 q)) (fun q => g1 _ (hs.2 q))
  · exact lv_icmp_le hx hb hd ht (fun q => g1 _ (hs.1 q)) (fun q => g1 _ (hs.2 q))
theorem bc_str (hC : Cb M Q Z p l e R s m args below meth cc ad cA D A X h0) {i : Instr} {rt : Nat} (hd : decode M.b pc = .ok (i, 1))
    (hok : ∀ v : Option Value, (match rt with
      | 0 => v = none
      | 1 => ∃ x, v = some (.int x)
      | 2 => ∃ x, v = some (.long x)
      | 3 => ∃ x, v = some (.float x)
      | 4 => ∃ x, v = some (.double x)
      | 5 => v = some .null ∨ ∃ a, v = some (.ref a)
      | 6 => ∃ x, v = some (.int x) ∧ isB x
      | 7 => ∃ x, v = some (.int x) ∧ narrow .byte (.int x) = .int x
      | _ => ∃ x, v = some (.int x) ∧ narrow .char (.int x) = .int x) → rtOk M.ret i v) (hs : str Q rt st h) : BtC M Z p l e R s m args below meth cc ad cA D A X h0 pc c ls st h := by
  intro H locs cells slots lsA hW hl h1 h2 h3
  obtain ⟨-, -, -, -, -, -, -, -, -, -, hend⟩ := hC
  have fin : ∀ v : Option Value, st = v.toList → rtOk M.ret i v → Q (.inl v) h → W p l e R s m args below meth cc H locs cells slots Z (F0 m pc lsA (st.map (tr ad))) := by
    intro v hv hr hq
    have := hend v h H locs cells slots pc i lsA hd hr hq hW (by omega) (by omega)
    rw [tr_toList, ← hv] at this
    exact this
  unfold str at hs
  split at hs
  · split at hs
    · exact fin none rfl (hok none rfl) hs
    · cases hs
  · split at hs
    · exact fin (some _) rfl (hok _ ⟨_, rfl⟩) hs
    · cases hs
  · split at hs
    · exact fin (some _) rfl (hok _ ⟨_, rfl⟩) hs
    · cases hs
  · split at hs
    · exact fin (some _) rfl (hok _ ⟨_, rfl⟩) hs
    · cases hs
  · split at hs
    · exact fin (some _) rfl (hok _ ⟨_, rfl⟩) hs
    · cases hs
  · split at hs
    · exact fin (some _) rfl (hok _ (Or.inr ⟨_, rfl⟩)) hs
    · exact fin (some _) rfl (hok _ (Or.inl rfl)) hs
    · cases hs
  · split at hs
    · exact fin (some _) rfl (hok _ ⟨_, rfl, hs.1⟩) hs.2
    · cases hs
  · split at hs
    · exact fin (some _) rfl (hok _ ⟨_, rfl, hs.1⟩) hs.2
    · cases hs
  · rename_i r0 r1 r2 r3 r4 r5 r6 r7
    split at hs
    · exact fin (some _) rfl (hok _ (by
        split
        · exact absurd rfl r0
        · exact ⟨_, rfl⟩
        · exact absurd rfl r2
        · exact absurd rfl r3
        · exact absurd rfl r4
        · exact absurd rfl r5
        · exact absurd rfl r6
        · exact absurd rfl r7
        · exact ⟨_, rfl, hs.1⟩)) hs.2
    · cases hs
theorem bc_sw (hx : p.tables.exec = Jvm.exec) (hb : cc.code = M.b) (hk : ∀ pc c ls st h, k pc c ls st h → BtC M Z p l e R s m args below meth cc ad cA D A X h0 pc c ls st h) {d lo hi : Int} {offs : Array Int} {len dt l0 : Nat} {ts : List Nat} {x : Int32} {r : List Value}
    (hd : decode M.b pc = .ok (.tableswitch d lo hi offs, len)) (e1 : (pc : Int) + d = (dt : Int)) (e2 : lo = (l0 : Int)) (e3 : hi + 1 = (l0 : Int) + (ts.length : Int)) (e4 : offs.toList.map (fun o => (pc : Int) + o) = ts.map (fun t => ((t : Nat) : Int))) (e5 : l0 + ts.length < 100000)
    (hs : ((∀ j : Nat, l0 ≤ j → j < l0 + ts.length → ¬ x = nI j) → k dt c ls r h) ∧ swc k x c ls r h l0 ts) : BtC M Z p l e R s m args below meth cc ad cA D A X h0 pc c ls (.int x :: r) h := by
  intro H locs cells slots lsA hW hl h1 h2 h3
  have go : ∀ pc' : Nat, k pc' c ls r h → W p l e R s m args below meth cc H locs cells slots Z (F0 m pc' lsA (r.map (tr ad))) := fun pc' h9 => hk _ _ _ _ _ h9 H locs cells slots lsA hW hl h1 h2 h3
  by_cases hin : lo ≤ x.toInt ∧ x.toInt ≤ hi
  · obtain ⟨q1, q2⟩ := hin
    have hlen : offs.toList.length = ts.length := by
      have := congrArg List.length e4
      simpa using this
    have hj : (x.toInt - lo).toNat < ts.length := by omega
    obtain ⟨t, ht⟩ : ∃ t, ts[(x.toInt - lo).toNat]? = some t := ⟨_, List.getElem?_eq_getElem hj⟩
    obtain ⟨o, ho⟩ : ∃ o, offs.toList[(x.toInt - lo).toNat]? = some o := ⟨_, List.getElem?_eq_getElem (by rw [hlen]; exact hj)⟩
    have hto : (pc : Int) + o = (t : Int) := by
      have h9 := congrArg (fun l => l[(x.toInt - lo).toNat]?) e4
      simp only [List.getElem?_map, ho, ht, Option.map_some, Option.some.injEq] at h9
      exact h9
    have hxv : x = nI (l0 + (x.toInt - lo).toNat) := by
      have h7 : x.toInt = ((l0 + (x.toInt - lo).toNat : Nat) : Int) := by omega
      apply Int32.toInt_inj.mp
      rw [nI_toInt (by omega)]
      exact h7
    exact lv_tableIn hx hb hd (by omega) (by omega) (by rw [← Array.getElem?_toList]; exact ho) hto (go _ (swc_get ts l0 _ t hs.2 ht hxv))
  · refine lv_tableOut hx hb hd (by omega) e1 (go _ (hs.1 ?_))
    intro j hj1 hj2 he
    apply hin
    rw [he, nI_toInt (by omega)]
    omega
set_option maxHeartbeats 4000000 in
theorem stp_btC (hC : Cb M Q Z p l e R s m args below meth cc ad cA D A X h0) {mp : MI → List Value → PH → (Res → PH → Prop) → Prop} {a : KT} (hk : ∀ pc c ls st h, k pc c ls st h → BtC M Z p l e R s m args below meth cc ad cA D A X h0 pc c ls st h)
    {en : En} (hE : okE M en = true) (hpu : pureI en.2.1 = true) (hs : stp mp M Q a k en c ls st h) : BtC M Z p l e R s m args below meth cc ad cA D A X h0 en.1 c ls st h := by
  obtain ⟨pc, i, len, ax, ms⟩ := en
  have hC0 := hC
  obtain ⟨⟨hx, hb, hml, hown, hts⟩, -⟩ := hC
  simp only [okE, Bool.and_eq_true, decide_eq_true_eq] at hE
  obtain ⟨hd, hI⟩ := hE
  show BtC M Z p l e R s m args below meth cc ad cA D A X h0 pc c ls st h
  have one : ∀ {st' : List Value} {h' : PH} {d : Nat}, k (pc + d) c ls st' h' → h' = h → ∀ (H : Heap) (locs : List Loc) (cells slots : Nat) (lsA : Array Slot), WL (flQ M) ad cA D X h0 A h s s.heap H locs → lv_has lsA M.nl (tl ad ls) → cells ≤ c → slots ≤ 12 * c → c ≤ M.cap → W p l e R s m args below meth cc H locs cells slots Z (F0 m (pc + d) lsA (st'.map (tr ad))) := by
    intro st' h' d h9 he H locs cells slots lsA hW hl h1 h2 h3
    subst he
    exact hk _ _ _ _ _ h9 H locs cells slots lsA hW hl h1 h2 h3
  cases i with
  | iconst n =>
    obtain rfl := beq_of hI
    intro H locs cells slots lsA hW hl h1 h2 h3
    exact lv_iconst hx hb hd (cI_ofInt n) (one (d := 1) hs rfl H locs cells slots lsA hW hl h1 h2 h3)
  | bipush n =>
    simp only [okI, Bool.and_eq_true, decide_eq_true_eq] at hI
    obtain ⟨hI, hv⟩ := hI
    obtain rfl := beq_of hI
    intro H locs cells slots lsA hW hl h1 h2 h3
    exact lv_bipush hx hb hd hv (one (d := 2) hs rfl H locs cells slots lsA hW hl h1 h2 h3)
  | sipush n =>
    simp only [okI, Bool.and_eq_true, decide_eq_true_eq] at hI
    obtain ⟨hI, hv⟩ := hI
    obtain rfl := beq_of hI
    intro H locs cells slots lsA hW hl h1 h2 h3
    exact lv_sipush hx hb hd hv (one (d := 3) hs rfl H locs cells slots lsA hW hl h1 h2 h3)
  | ldc_w idx =>
    simp only [okI, Bool.and_eq_true] at hI
    obtain ⟨hI, hv⟩ := hI
    obtain rfl := beq_of hI
    simp only [stp] at hs
    split at hs
    · rename_i n pl
      simp only at hv
      intro H locs cells slots lsA hW hl h1 h2 h3
      exact lv_ldcw hx hb hown (hts _ (tbG_at hv)) hd (one (d := 3) hs rfl H locs cells slots lsA hW hl h1 h2 h3)
    · exact hs.elim
  | aconst_null =>
    obtain rfl := beq_of hI
    intro H locs cells slots lsA hW hl h1 h2 h3
    exact lv_null hx hb hd (one (d := 1) hs rfl H locs cells slots lsA hW hl h1 h2 h3)
  | iload n =>
    obtain rfl := beq_of hI
    exact bc_stl hx hb hk (q := 0) (n := n) hd hs
  | iload_n n =>
    obtain rfl := beq_of hI
    exact bc_stl_n hx hb hk (q := 0) (n := n) hd hs
  | istore n =>
    obtain rfl := beq_of hI
    exact bc_sts hx hb hk (q := 0) (n := n) hd hs
  | istore_n n =>
    obtain rfl := beq_of hI
    exact bc_sts_n hx hb hk (q := 0) (n := n) hd hs
  | aload n =>
    obtain rfl := beq_of hI
    exact bc_stl hx hb hk (q := 4) (n := n) hd hs
  | aload_n n =>
    obtain rfl := beq_of hI
    exact bc_stl_n hx hb hk (q := 4) (n := n) hd hs
  | astore n =>
    obtain rfl := beq_of hI
    exact bc_sts hx hb hk (q := 4) (n := n) hd hs
  | astore_n n =>
    obtain rfl := beq_of hI
    exact bc_sts_n hx hb hk (q := 4) (n := n) hd hs
  | iinc n v =>
    simp only [okI, Bool.and_eq_true] at hI
    obtain rfl := beq_of hI
    simp only [stp] at hs
    split at hs
    · rename_i x hg hn
      intro H locs cells slots lsA hW hl h1 h2 h3
      obtain ⟨k9, hk9⟩ := List.getElem?_of_mem (tl_mem (ad := ad) (ls := ls) (q := (n, Value.int x)) |>.mpr ⟨.int x, hg, rfl⟩)
      exact lv_iinc (v := x + cI v) hx hb hd hl hk9 (by rw [cI_ofInt]) (blt_of hn) rfl (fun ls' hl' => hk _ _ _ _ _ hs H locs cells slots ls' hW (lv_mono hl' tl_put1) h1 h2 h3)
    · exact hs.elim
  | iadd =>
    obtain rfl := beq_of hI
    exact bc_a2i hk (fun x y H locs cells slots lsA rest kk => lv_iadd hx hb hd kk) hs
  | isub =>
    obtain rfl := beq_of hI
    exact bc_a2i hk (fun x y H locs cells slots lsA rest kk => lv_isub hx hb hd kk) hs
  | imul =>
    obtain rfl := beq_of hI
    exact bc_a2i hk (fun x y H locs cells slots lsA rest kk => lv_imul hx hb hd kk) hs
  | iand =>
    obtain rfl := beq_of hI
    exact bc_a2i hk (fun x y H locs cells slots lsA rest kk => lv_iand hx hb hd kk) hs
  | ior =>
    obtain rfl := beq_of hI
    exact bc_a2i hk (fun x y H locs cells slots lsA rest kk => lv_ior hx hb hd kk) hs
  | ishl =>
    obtain rfl := beq_of hI
    exact bc_a2i hk (fun x y H locs cells slots lsA rest kk => lv_ishl hx hb hd kk) hs
  | ishr =>
    obtain rfl := beq_of hI
    exact bc_a2i hk (fun x y H locs cells slots lsA rest kk => lv_ishr hx hb hd kk) hs
  | iushr =>
    obtain rfl := beq_of hI
    exact bc_a2i hk (fun x y H locs cells slots lsA rest kk => lv_iushr hx hb hd rfl kk) hs
  | idiv =>
    obtain rfl := beq_of hI
    simp only [stp] at hs
    split at hs
    · intro H locs cells slots lsA hW hl h1 h2 h3
      exact lv_idiv hx hb hd hs.1 (one (d := 1) hs.2 rfl H locs cells slots lsA hW hl h1 h2 h3)
    · exact hs.elim
  | irem =>
    obtain rfl := beq_of hI
    simp only [stp] at hs
    split at hs
    · intro H locs cells slots lsA hW hl h1 h2 h3
      exact lv_irem hx hb hd hs.1 (one (d := 1) hs.2 rfl H locs cells slots lsA hW hl h1 h2 h3)
    · exact hs.elim
  | i2b =>
    obtain rfl := beq_of hI
    simp only [stp] at hs
    split at hs
    · intro H locs cells slots lsA hW hl h1 h2 h3
      exact lv_i2b hx hb hd rfl (one (d := 1) hs rfl H locs cells slots lsA hW hl h1 h2 h3)
    · exact hs.elim
  | dup =>
    obtain rfl := beq_of hI
    simp only [stp] at hs
    split at hs
    · split at hs
      · rename_i hc
        intro H locs cells slots lsA hW hl h1 h2 h3
        exact lv_dup hx hb hd (by rw [tr_cat]; exact hc) (one (d := 1) hs rfl H locs cells slots lsA hW hl h1 h2 h3)
      · exact hs.elim
    · exact hs.elim
  | dup2 =>
    obtain rfl := beq_of hI
    simp only [stp] at hs
    split at hs
    · split at hs
      · rename_i hc1 hc2
        intro H locs cells slots lsA hW hl h1 h2 h3
        exact lv_dup2_11 hx hb hd (by rw [tr_cat]; exact hc1) (by rw [tr_cat]; exact hc2) (one (d := 1) hs rfl H locs cells slots lsA hW hl h1 h2 h3)
      · exact hs.elim
    · exact hs.elim
  | pop =>
    obtain rfl := beq_of hI
    simp only [stp] at hs
    split at hs
    · split at hs
      · rename_i hc
        intro H locs cells slots lsA hW hl h1 h2 h3
        exact lv_pop hx hb hd (by rw [tr_cat]; exact hc) (one (d := 1) hs rfl H locs cells slots lsA hW hl h1 h2 h3)
      · exact hs.elim
    · exact hs.elim
  | goto off =>
    simp only [okI, Bool.and_eq_true] at hI
    obtain ⟨hI, hv⟩ := hI
    obtain rfl := beq_of hI
    simp only [stp] at hs
    split at hs
    · rename_i t
      simp only [decide_eq_true_eq] at hv
      intro H locs cells slots lsA hW hl h1 h2 h3
      exact lv_goto hx hb hd hv (hk _ _ _ _ _ hs H locs cells slots lsA hW hl h1 h2 h3)
    · exact hs.elim
  | ifCond cd off =>
    simp only [okI, Bool.and_eq_true] at hI
    obtain ⟨hI, hv⟩ := hI
    obtain rfl := beq_of hI
    simp only [stp] at hs
    split at hs
    · rename_i t
      simp only [decide_eq_true_eq] at hv
      split at hs
      · exact bc_if hx hb hk hd hv hs
      · exact hs.elim
    · exact hs.elim
  | if_icmp cd off =>
    simp only [okI, Bool.and_eq_true] at hI
    obtain ⟨hI, hv⟩ := hI
    obtain rfl := beq_of hI
    simp only [stp] at hs
    split at hs
    · rename_i t
      simp only [decide_eq_true_eq] at hv
      split at hs
      · exact bc_icmp hx hb hk hd hv hs
      · exact hs.elim
    · exact hs.elim
  | ifnull off =>
    simp only [okI, Bool.and_eq_true] at hI
    obtain ⟨hI, hv⟩ := hI
    obtain rfl := beq_of hI
    simp only [stp] at hs
    split at hs
    · rename_i t
      simp only [decide_eq_true_eq] at hv
      split at hs
      · intro H locs cells slots lsA hW hl h1 h2 h3
        exact lv_ifnullN hx hb hd hv (hk _ _ _ _ _ hs H locs cells slots lsA hW hl h1 h2 h3)
      · intro H locs cells slots lsA hW hl h1 h2 h3
        exact lv_ifnull hx hb hd (hk _ _ _ _ _ hs H locs cells slots lsA hW hl h1 h2 h3)
      · exact hs.elim
    · exact hs.elim
  | ifnonnull off =>
    simp only [okI, Bool.and_eq_true] at hI
    obtain ⟨hI, hv⟩ := hI
    obtain rfl := beq_of hI
    simp only [stp] at hs
    split at hs
    · rename_i t
      simp only [decide_eq_true_eq] at hv
      split at hs
      · intro H locs cells slots lsA hW hl h1 h2 h3
        exact lv_ifnonnullN hx hb hd (hk _ _ _ _ _ hs H locs cells slots lsA hW hl h1 h2 h3)
      · intro H locs cells slots lsA hW hl h1 h2 h3
        exact lv_ifnonnull hx hb hd hv (hk _ _ _ _ _ hs H locs cells slots lsA hW hl h1 h2 h3)
      · exact hs.elim
    · exact hs.elim
  | tableswitch d lo hi offs =>
    simp only [stp] at hs
    split at hs
    · rename_i dt l0 ts
      simp only [okI, Bool.and_eq_true, decide_eq_true_eq] at hI
      obtain ⟨⟨⟨⟨q1, q2⟩, q3⟩, q4⟩, q5⟩ := hI
      split at hs
      · exact bc_sw hx hb hk hd q1 q2 q3 q4 (blt_of q5) hs
      · exact hs.elim
    · exact hs.elim
  | i2c =>
    obtain rfl := beq_of hI
    simp only [stp] at hs
    split at hs
    · intro H locs cells slots lsA hW hl h1 h2 h3
      exact lv_i2c hx hb hd rfl (one (d := 1) hs rfl H locs cells slots lsA hW hl h1 h2 h3)
    · exact hs.elim
  | return_ =>
    simp only [okI, Bool.and_eq_true, decide_eq_true_eq] at hI
    obtain ⟨hI, hr⟩ := hI
    obtain rfl := beq_of hI
    exact bc_str hC0 (rt := 0) hd (fun v hv => ⟨hv, hr⟩) hs
  | ireturn =>
    simp only [okI, Bool.and_eq_true] at hI
    obtain ⟨hI, hr⟩ := hI
    obtain rfl := beq_of hI
    simp only [stp] at hs
    split at hr
    · simp only [decide_eq_true_eq] at hr
      exact bc_str hC0 (rt := 1) hd (fun v hv => by obtain ⟨x, rfl⟩ := hv; exact ⟨x, .int, rfl, hr, rfl⟩) hs
    · simp only [decide_eq_true_eq] at hr
      exact bc_str hC0 (rt := 6) hd (fun v hv => by
        obtain ⟨x, rfl, hB⟩ := hv
        refine ⟨x, .boolean, rfl, hr, ?_⟩
        rcases hB with rfl | rfl <;> rfl) hs
    · simp only [decide_eq_true_eq] at hr
      exact bc_str hC0 (rt := 7) hd (fun v hv => by obtain ⟨x, rfl, hn⟩ := hv; exact ⟨x, .byte, rfl, hr, hn⟩) hs
    · simp only [decide_eq_true_eq] at hr
      exact bc_str hC0 (rt := 8) hd (fun v hv => by obtain ⟨x, rfl, hn⟩ := hv; exact ⟨x, .char, rfl, hr, hn⟩) hs
    · cases hr
  | areturn =>
    simp only [okI, Bool.and_eq_true] at hI
    obtain ⟨hI, hr⟩ := hI
    obtain rfl := beq_of hI
    split at hr
    · rename_i nm hret
      exact bc_str hC0 (rt := 5) hd (fun v hv => ⟨Or.inl ⟨nm, hret⟩, hv⟩) hs
    · cases hr
  | _ => exact (Bool.false_ne_true hpu).elim
end
end
section
/-! ===== the law's own cells: reads, writes, new ones ===== -/
/-- only the number n may differ -/
def Oth (n : Nat) (h h' : PH) : Prop := ∀ a, a ≠ n → h'.1 a = h.1 a ∧ h'.2.1 a = h.2.1 a ∧ h'.2.2.1 a = h.2.2.1 a ∧ h'.2.2.2 a = h.2.2.2 a
theorem Oth.si (h : PH) (n k : Nat) (x : Int32) : Oth n h (si h n k x) := fun _ e => ⟨up2_a _ _ _ e, rfl, rfl, rfl⟩
theorem Oth.sr (h : PH) (n k : Nat) (x : Option Nat) : Oth n h (sr h n k x) := fun _ e => ⟨rfl, rfl, up2_a _ _ _ e, rfl⟩
theorem Oth.cpi (h : PH) (a sp n dp m : Nat) : Oth n h (cpi h a sp n dp m) := fun _ e => ⟨if_neg e, rfl, rfl, rfl⟩
/-- n refs of the array a from place sp on, copied to the array b at place dp -/
def cpr (h : PH) (a sp b dp n : Nat) : PH := (h.1, h.2.1, fun c => if c = b then va_cpy (h.2.2.1 a) (h.2.2.1 b) sp dp n else h.2.2.1 c, h.2.2.2)
theorem Oth.cpr (h : PH) (a sp n dp m : Nat) : Oth n h (cpr h a sp n dp m) := fun _ e => ⟨rfl, rfl, if_neg e, rfl⟩
/-- a new cell: its kind, its length; all else is 0 and null -/
def nw (h : PH) (q kd n : Nat) : PH := (fun a => if a = q then fun _ => 0 else h.1 a, fun a => if a = q then fun _ => 0 else h.2.1 a, fun a => if a = q then fun _ => none else h.2.2.1 a, fun a => if a = q then (fun j => if j = 0 then kd else n) else h.2.2.2 a)
theorem Oth.nw (h : PH) (q kd n : Nat) : Oth q h (nw h q kd n) := fun _ e => ⟨if_neg e, if_neg e, if_neg e, if_neg e⟩
theorem Oth.lw {n : Nat} {h h' : PH} (hn : 2000 ≤ n) (o : Oth n h h') : Lw h h' := fun a ha => o a (by omega)
theorem Oth.kd {n m : Nat} {h h' : PH} (o : Oth n h h') (e : m ≠ n) : qkd h' m = qkd h m := by unfold qkd; rw [(o m e).2.2.2]
theorem qkd_hi {h : PH} {n : Nat} (hn : 1000 ≤ n) : qkd h n = h.2.2.2 n 0 := by
  unfold qkd
  have : Nat.blt n 1000 = false := by
    cases e : Nat.blt n 1000
    · rfl
    · have := Nat.blt_eq.mp e; omega
  rw [this]
theorem qkd_nw {h : PH} {q kd n : Nat} (hq : 1000 ≤ q) : qkd (nw h q kd n) q = kd := by
  rw [qkd_hi hq]; unfold nw; simp
theorem qln_nw {h : PH} {q kd n : Nat} : qln (nw h q kd n) q = n := by
  unfold qln nw; simp
theorem celQ_eq {ad : Nat → Nat} {cA : Nat → ClassId} {h h' : PH} {n : Nat} (e : h'.1 n = h.1 n ∧ h'.2.1 n = h.2.1 n ∧ h'.2.2.1 n = h.2.2.1 n ∧ h'.2.2.2 n = h.2.2.2 n) : celQ ad cA h' n = celQ ad cA h n := by
  obtain ⟨e1, e2, e3, e4⟩ := e
  have k0 : qkd h' n = qkd h n := by unfold qkd; rw [e4]
  have k1 : qln h' n = qln h n := by unfold qln; rw [e4]
  have f : ∀ so j, fvq ad h' n so j = fvq ad h n so j := by
    intro so j; unfold fvq gi gl gr; rw [e1, e2, e3]
  have g : ∀ t, aeq ad h' n t = aeq ad h n t := by
    intro t; unfold aeq; rw [e1, e3]
  unfold celQ fvqs
  simp only [k0, k1, f, g]
theorem celQ_ob {ad : Nat → Nat} {cA : Nat → ClassId} {h : PH} {n ci : Nat} (h1 : ci ≤ 23) (e : qkd h n + 8 = ci) : celQ ad cA h n = .inr (ci, fvqs ad h n ci) := by
  have : Nat.blt (qkd h n) 16 = true := Nat.blt_eq.mpr (by omega)
  unfold celQ
  rw [this, e]
theorem celQ_ar {ad : Nat → Nat} {cA : Nat → ClassId} {h : PH} {n t : Nat} (e : qkd h n = 16 + t) : celQ ad cA h n = .inl (cA t, qln h n, aeq ad h n t) := by
  have : Nat.blt (qkd h n) 16 = false := by
    cases q : Nat.blt (qkd h n) 16
    · rfl
    · have := Nat.blt_eq.mp q; omega
  unfold celQ
  rw [this, e, Nat.add_sub_cancel_left]
theorem KdOk.own {h : PH} {L : List Nat} {n : Nat} (k : KdOk h L) (h0 : ¬ qkd h n = 0) (h1 : qkd h n < 32) : 2000 ≤ n ∧ dq n ∈ L := by
  rcases k n h0 with ⟨a, b, -⟩ | ⟨-, b⟩
  · exact ⟨a, b⟩
  · omega
theorem KdOk.oth {h h' : PH} {L : List Nat} {n : Nat} (k : KdOk h L) (o : Oth n h h') (e : qkd h' n = qkd h n) : KdOk h' L := by
  intro m hm
  have : qkd h' m = qkd h m := by
    by_cases z : m = n
    · rw [z]; exact e
    · exact o.kd z
  rw [this] at hm ⊢
  exact k m hm
theorem pq_get {X : va_W} {ad : Nat → Nat} {cA : Nat → ClassId} {h : PH} {L : List Nat} {n : Nat} (k : KdOk h L) (h0 : ¬ qkd h n = 0) (h1 : qkd h n < 32) : ∃ i : Nat, (X ++ pq ad cA h L)[i]? = some (dq n, celQ ad cA h n) := by
  obtain ⟨a, b⟩ := k.own h0 h1
  obtain ⟨i, hi⟩ := va_pl_get (X := X) (f := fun a => celQ ad cA h (uq a)) b
  refine ⟨i, ?_⟩
  simp only [uq_dq a] at hi
  exact hi
theorem pq_congr {ad : Nat → Nat} {cA : Nat → ClassId} {h' : PH} {L : List Nat} {f : Nat → va_E} (e : ∀ a ∈ L, f a = celQ ad cA h' (uq a)) : va_pl L f = pq ad cA h' L := by
  unfold pq va_pl
  exact List.map_congr_left fun a ha => by rw [e a ha]
theorem pq_set {A : Nat → Prop} {X : va_W} {ad : Nat → Nat} {cA : Nat → ClassId} {h h' : PH} {L : List Nat} {n i : Nat} {e : va_E} (k : KdOk h L) (h0 : ¬ qkd h n = 0) (h1 : qkd h n < 32) (hD : va_D A (X ++ pq ad cA h L)) (hi : (X ++ pq ad cA h L)[i]? = some (dq n, celQ ad cA h n)) (o : Oth n h h') (he : e = celQ ad cA h' n) : (X ++ pq ad cA h L).set i (dq n, e) = X ++ pq ad cA h' L := by
  obtain ⟨a, b⟩ := k.own h0 h1
  have hi' : (X ++ va_pl L (fun a => celQ ad cA h (uq a)))[i]? = some (dq n, (fun a => celQ ad cA h (uq a)) (dq n)) := by
    simp only [uq_dq a]; exact hi
  have e1 := va_pl_set (e := e) hD b hi'
  refine e1.trans ?_
  have e2 : va_pl L (va_up (fun a => celQ ad cA h (uq a)) (dq n) e) = pq ad cA h' L := by
    refine pq_congr (h' := h') ?_
    intro c _
    by_cases z : c = dq n
    · rw [z, va_up_self, he, uq_dq a]
    · rw [va_up_ne _ _ z]
      refine (celQ_eq (o (uq c) ?_)).symm
      intro w
      apply z
      rw [← w, dq_uq]
  exact congrArg (fun w => X ++ w) e2
theorem pq_push {X : va_W} {ad : Nat → Nat} {cA : Nat → ClassId} {h h' : PH} {L : List Nat} {q : Nat} {e : va_E} (hq : q ∉ L) (o : Oth (uq q) h h') (he : e = celQ ad cA h' (uq q)) : (X ++ pq ad cA h L) ++ [(q, e)] = X ++ pq ad cA h' (L ++ [q]) := by
  have e1 := va_pl_push (f := fun a => celQ ad cA h (uq a)) (e := e) hq
  have e2 : va_pl (L ++ [q]) (va_up (fun a => celQ ad cA h (uq a)) q e) = pq ad cA h' (L ++ [q]) := by
    refine pq_congr (h' := h') ?_
    intro c _
    by_cases z : c = q
    · rw [z, va_up_self, he]
    · rw [va_up_ne _ _ z]
      refine (celQ_eq (o (uq c) ?_)).symm
      intro w
      exact z (uq_inj w)
  rw [List.append_assoc]
  exact congrArg (fun w => X ++ w) (e1.trans e2)
theorem fvqs_len {ad : Nat → Nat} {h : PH} {n ci : Nat} : (fvqs ad h n ci).length = (fsq ci).length := by simp [fvqs]
theorem fvqs_get {ad : Nat → Nat} {h : PH} {n ci j so : Nat} (hj : (fsq ci).getD j 9 = so) (h9 : so ≠ 9) : (fvqs ad h n ci)[j]? = some (fvq ad h n so j) := by
  have hl : j < (fsq ci).length := by
    rcases Nat.lt_or_ge j (fsq ci).length with q | q
    · exact q
    · exfalso; apply h9; rw [← hj]; simp [List.getD_eq_getElem?_getD, List.getElem?_eq_none q]
  unfold fvqs
  rw [List.getElem?_map, List.getElem?_range hl]
  have : (fsq ci).getD j 0 = so := by
    rw [← hj]; simp [List.getD_eq_getElem?_getD, List.getElem?_eq_getElem hl]
  rw [List.getD_eq_getElem?_getD] at this
  simp [this]
theorem fvqs_set {ad : Nat → Nat} {h h' : PH} {n ci j : Nat} {v : Value} (hj : fvq ad h' n ((fsq ci).getD j 0) j = v) (hne : ∀ k so, k ≠ j → fvq ad h' n so k = fvq ad h n so k) : (fvqs ad h n ci).set j v = fvqs ad h' n ci := by
  apply List.ext_getElem?
  intro k
  by_cases hk : k = j
  · subst hk
    by_cases hl : k < (fsq ci).length
    · rw [List.getElem?_set_self (by rw [fvqs_len]; exact hl)]
      unfold fvqs
      rw [List.getElem?_map, List.getElem?_range hl]
      simp only [Option.map_some]
      rw [hj]
    · rw [List.getElem?_eq_none (by rw [List.length_set, fvqs_len]; omega), List.getElem?_eq_none (by rw [fvqs_len]; omega)]
  · rw [List.getElem?_set_ne (Ne.symm hk)]
    by_cases hl : k < (fsq ci).length
    · unfold fvqs
      rw [List.getElem?_map, List.getElem?_map, List.getElem?_range hl]
      simp only [Option.map_some]
      rw [hne k _ hk]
    · rw [List.getElem?_eq_none (by rw [fvqs_len]; omega), List.getElem?_eq_none (by rw [fvqs_len]; omega)]
theorem sd0 {ci j so : Nat} (hj : (fsq ci).getD j 9 = so) (h9 : so ≠ 9) : (fsq ci).getD j 0 = so := by
  rcases Nat.lt_or_ge j (fsq ci).length with q | q
  · rw [← hj]; simp [List.getD_eq_getElem?_getD, List.getElem?_eq_getElem q]
  · exfalso; apply h9; rw [← hj]; simp [List.getD_eq_getElem?_getD, List.getElem?_eq_none q]
theorem qkd_si {h : PH} {a j n : Nat} {x : Int32} : qkd (si h a j x) n = qkd h n := rfl
theorem qkd_sr {h : PH} {a j n : Nat} {x : Option Nat} : qkd (sr h a j x) n = qkd h n := rfl
theorem qln_si {h : PH} {a j n : Nat} {x : Int32} : qln (si h a j x) n = qln h n := rfl
theorem qln_sr {h : PH} {a j n : Nat} {x : Option Nat} : qln (sr h a j x) n = qln h n := rfl
theorem fv_si {ad : Nat → Nat} {h : PH} {n j ci : Nat} {x : Int32} (hj : (fsq ci).getD j 9 = 0) : (fvqs ad h n ci).set j (.int x) = fvqs ad (si h n j x) n ci := by
  refine fvqs_set ?_ (fun k so hk => ?_)
  · rw [sd0 hj (by decide)]
    show Value.int (up2 h.1 n j x n j) = _
    rw [up2_s]
  · unfold fvq gi gl gr si
    simp only
    rw [up2_k _ _ _ hk]
theorem fv_sr {ad : Nat → Nat} {h : PH} {n j ci : Nat} {x : Option Nat} (hj : (fsq ci).getD j 9 = 2) : (fvqs ad h n ci).set j (va_rf (x.map ad)) = fvqs ad (sr h n j x) n ci := by
  refine fvqs_set ?_ (fun k so hk => ?_)
  · rw [sd0 hj (by decide)]
    show va_rf ((up2 h.2.2.1 n j x n j).map ad) = _
    rw [up2_s]
  · unfold fvq gi gl gr sr
    simp only
    rw [up2_k _ _ _ hk]
theorem ae_si {ad : Nat → Nat} {h : PH} {n j t : Nat} {x : Int32} (ht : t = 0 ∨ t = 1 ∨ t = 6) : (Sum.inl (upd (h.1 n) j x) : (Nat → Int32) ⊕ (Nat → Int64) ⊕ (Nat → UInt32) ⊕ (Nat → UInt64) ⊕ (Nat → Option Nat)) = aeq ad (si h n j x) n t := by
  have e : up2 h.1 n j x n = upd (h.1 n) j x := by funext k; simp [up2, upd]
  rcases ht with rfl | rfl | rfl
  all_goals
    show _ = Sum.inl (up2 h.1 n j x n)
    rw [e]
theorem ae_sr {ad : Nat → Nat} {h : PH} {n j : Nat} {v : Nat} : (Sum.inr (.inr (.inr (.inr (va_up (fun k => (h.2.2.1 n k).map ad) j (some (ad v)))))) : (Nat → Int32) ⊕ (Nat → Int64) ⊕ (Nat → UInt32) ⊕ (Nat → UInt64) ⊕ (Nat → Option Nat)) = aeq ad (sr h n j (some v)) n 7 := by
  have e : (fun k => (up2 h.2.2.1 n j (some v) n k).map ad) = va_up (fun k => (h.2.2.1 n k).map ad) j (some (ad v)) := by
    funext k
    simp only [up2, va_up, if_true]
    split <;> rfl
  unfold aeq sr
  simp only
  rw [e]
end
section
/-! ===== the law's steps on its own cells ===== -/
/-- what the reader, the writer of a field asks of the object -/
def kQ (h : PH) (n ci j : Nat) : Prop := match ci with
  | 9 => qkd h n = 1
  | 10 => qkd h n = 2
  | 11 => match j with
    | 0 => qkd h n = 3 ∨ qkd h n = 35
    | 1 => qkd h n = 3 ∨ qkd h n = 35
    | _ => qkd h n = 3
  | 12 => qkd h n = 4
  | 13 => qkd h n = 5
  | 14 => qkd h n = 6
  | _ => False
def kP (h : PH) (n ci : Nat) : Prop := match ci with
  | 9 => qkd h n = 1
  | 10 => qkd h n = 2
  | 11 => qkd h n = 3
  | 12 => qkd h n = 4
  | 13 => qkd h n = 5
  | 14 => qkd h n = 6
  | _ => False
theorem kP_old {h : PH} {n ci : Nat} (q : kP h n ci) : qkd h n + 8 = ci := by
  unfold kP at q
  split at q
  · omega
  · omega
  · omega
  · omega
  · omega
  · omega
  · exact q.elim
theorem kQ_old {h : PH} {n ci j : Nat} (q : kQ h n ci j) : qkd h n + 8 = ci ∨ (ci = 11 ∧ j < 2 ∧ qkd h n = 35) := by
  unfold kQ at q
  split at q
  · exact Or.inl (by omega)
  · exact Or.inl (by omega)
  · split at q
    · exact q.imp (fun z => by omega) (fun z => ⟨rfl, by omega, z⟩)
    · exact q.imp (fun z => by omega) (fun z => ⟨rfl, by omega, z⟩)
    · exact Or.inl (by omega)
  · exact Or.inl (by omega)
  · exact Or.inl (by omega)
  · exact Or.inl (by omega)
  · exact q.elim
/-- getfield: so 3 a reference -/
def qget (k : KT) (pc c : Nat) (ls : Lc) (st : List Value) (h : PH) (ci j so : Nat) : Prop := match st with
  | .ref n :: r => kQ h n ci j ∧ (match so with
    | 3 => (∀ b, gr h n j = some b → k (pc + 3) c ls (.ref b :: r) h) ∧ (gr h n j = none → k (pc + 3) c ls (.null :: r) h)
    | _ => k (pc + 3) c ls (.int (gi h n j) :: r) h)
  | _ => False
/-- putfield -/
def qput (k : KT) (pc c : Nat) (ls : Lc) (st : List Value) (h : PH) (ci j so : Nat) : Prop := match so with
  | 3 => match st with
    | .ref b :: .ref n :: r => kP h n ci ∧ k (pc + 3) c ls r (sr h n j (some b))
    | .null :: .ref n :: r => kP h n ci ∧ k (pc + 3) c ls r (sr h n j none)
    | _ => False
  | 1 => match st with
    | .int x :: .ref n :: r => kP h n ci ∧ isB x ∧ k (pc + 3) c ls r (si h n j x)
    | _ => False
  | 4 => match st with
    | .int x :: .ref n :: r => kP h n ci ∧ isB x ∧ k (pc + 3) c ls r (si h n j x)
    | _ => False
  | _ => match st with
    | .int x :: .ref n :: r => kP h n ci ∧ k (pc + 3) c ls r (si h n j x)
    | _ => False
/-- what a new object costs -/
def cstO (ci : Nat) : Nat := match ci with
  | 10 => 3
  | _ => 1
def qnew (M : MI) (k : KT) (pc c : Nat) (ls : Lc) (st : List Value) (h : PH) (ci : Nat) : Prop :=
  c + cstO ci ≤ M.cap ∧ ∀ q, 2000 ≤ q → qkd h q = 0 → k (pc + 3) (c + cstO ci) ls (.ref q :: st) (nw h q (ci - 8) 0)
/-- a new array of n places, of type t -/
def qnewa (M : MI) (k : KT) (pc len c : Nat) (ls : Lc) (st : List Value) (h : PH) (t : Nat) : Prop := match st with
  | .int n :: r => (¬ n < 0 ∧ n.toNatClampNeg ≤ 100000) ∧ c + (1 + n.toNatClampNeg / 12) ≤ M.cap ∧ ∀ q, 2000 ≤ q → qkd h q = 0 → k (pc + len) (c + (1 + n.toNatClampNeg / 12)) ls (.ref q :: r) (nw h q (16 + t) n.toNatClampNeg)
  | _ => False
/-- array loads: 0 ints, 1 bytes, 6 booleans, 7 objects -/
def qald (k : KT) (t pc c : Nat) (ls : Lc) (st : List Value) (h : PH) : Prop := match st with
  | .int i :: .ref n :: r => match t with
    | 0 => (qkd h n = 16 ∨ qkd h n = 48) ∧ vp_in i (qln h n) ∧ k (pc + 1) c ls (.int (gi h n i.toNatClampNeg) :: r) h
    | 1 => (qkd h n = 17 ∨ qkd h n = 49) ∧ vp_in i (qln h n) ∧ k (pc + 1) c ls (.int (gi h n i.toNatClampNeg) :: r) h
    | 6 => qkd h n = 22 ∧ vp_in i (qln h n) ∧ k (pc + 1) c ls (.int (gi h n i.toNatClampNeg) :: r) h
    | 7 => qkd h n = 23 ∧ vp_in i (qln h n) ∧ (∀ b, gr h n i.toNatClampNeg = some b → k (pc + 1) c ls (.ref b :: r) h) ∧ (gr h n i.toNatClampNeg = none → k (pc + 1) c ls (.null :: r) h)
    | 8 => qkd h n = 24 ∧ vp_in i (qln h n) ∧ (∀ b, gr h n i.toNatClampNeg = some b → k (pc + 1) c ls (.ref b :: r) h) ∧ (gr h n i.toNatClampNeg = none → k (pc + 1) c ls (.null :: r) h)
    | _ => False
  | _ => False
/-- array stores -/
def qast (k : KT) (t pc c : Nat) (ls : Lc) (st : List Value) (h : PH) : Prop := match t with
  | 0 => match st with
    | .int x :: .int i :: .ref n :: r => qkd h n = 16 ∧ vp_in i (qln h n) ∧ k (pc + 1) c ls r (si h n i.toNatClampNeg x)
    | _ => False
  | 1 => match st with
    | .int x :: .int i :: .ref n :: r => qkd h n = 17 ∧ vp_in i (qln h n) ∧ k (pc + 1) c ls r (si h n i.toNatClampNeg x.toInt8.toInt32)
    | _ => False
  | 6 => match st with
    | .int x :: .int i :: .ref n :: r => qkd h n = 22 ∧ vp_in i (qln h n) ∧ isB x ∧ k (pc + 1) c ls r (si h n i.toNatClampNeg x)
    | _ => False
  | 7 => match st with
    | .ref b :: .int i :: .ref n :: r => qkd h n = 23 ∧ (qkd h b = 1 ∨ qkd h b = 16) ∧ vp_in i (qln h n) ∧ k (pc + 1) c ls r (sr h n i.toNatClampNeg (some b))
    | _ => False
  | _ => False
def qaln (k : KT) (pc c : Nat) (ls : Lc) (st : List Value) (h : PH) : Prop := match st with
  | .ref n :: r => ((16 ≤ qkd h n ∧ qkd h n ≤ 24) ∨ qkd h n = 48 ∨ qkd h n = 49 ∨ qkd h n = 55) ∧ k (pc + 1) c ls (.int (nI (qln h n)) :: r) h
  | _ => False
/-- checkcast: of a member, of an array of objects -/
def qcast (k : KT) (t pc c : Nat) (ls : Lc) (st : List Value) (h : PH) : Prop := match st with
  | .ref n :: r => (match t with
    | 0 => qkd h n = 1
    | _ => qkd h n = 23) ∧ k (pc + 3) c ls (.ref n :: r) h
  | _ => False
def fldQ (M : MI) (idx ci j so p nst : Nat) : Bool := match pmCl[ci]? with
  | some (_, T, N) => Nat.ble 9 ci && Nat.blt j N && Nat.beq N (fsq ci).length && (match nst with
      | 0 => atW p (.fieldLink M.y.cls idx (T j).1 (T j).2.1 (T j).2.2.1)
      | 1 => decide (M.y.cls = RJx35411) && Nat.beq idx 28 && Nat.beq ci 13 && Nat.beq j 2
      | _ => Nat.beq ci 13 && Nat.beq j 0 && atW p (.fieldLink M.y.cls idx RJx4a65c "modCount" "I")) && (match so, (fsq ci).getD j 9 with
    | 0, 0 => decide ((T j).2.2.1 = "I")
    | 1, 0 => decide ((T j).2.2.1 = "Z")
    | 4, 0 => decide ((T j).2.2.1 = "B")
    | 3, 2 => (match parseFieldDescriptor (T j).2.2.1 with
      | some (.object _) => true
      | some (.array _) => true
      | _ => false)
    | _, _ => false)
  | none => false
theorem mod_same : Cond.sameField RJx4a65c "java/util/AbstractList" "modCount" "I" ∈ tbG := tbG_at (p := 752) (by decide +kernel)
theorem pd_B : parseFieldDescriptor "B" = some .byte := by decide +kernel
theorem fldQ_of {M : MI} {idx ci j so q nst : Nat} (h : fldQ M idx ci j so q nst = true) : ∃ (C : String) (T : u_T) (N : Nat), pmCl[ci]? = some (C, T, N) ∧ 9 ≤ ci ∧ j < N ∧ N = (fsq ci).length ∧
    ((∃ ref, Cond.fieldLink M.y.cls idx ref (T j).2.1 (T j).2.2.1 ∈ tbG ∧ (ref = (T j).1 ∨ (ref = RJx4a65c ∧ (T j).1 = "java/util/AbstractList" ∧ (T j).2.1 = "modCount" ∧ (T j).2.2.1 = "I"))) ∨ (M.y.cls = RJx35411 ∧ idx = 28 ∧ ci = 13 ∧ j = 2)) ∧
    ((so = 0 ∧ (fsq ci).getD j 9 = 0 ∧ (T j).2.2.1 = "I") ∨ (so = 1 ∧ (fsq ci).getD j 9 = 0 ∧ (T j).2.2.1 = "Z") ∨ (so = 4 ∧ (fsq ci).getD j 9 = 0 ∧ (T j).2.2.1 = "B") ∨ (so = 3 ∧ (fsq ci).getD j 9 = 2 ∧ ((∃ n, parseFieldDescriptor (T j).2.2.1 = some (.object n)) ∨ ∃ t, parseFieldDescriptor (T j).2.2.1 = some (.array t)))) := by
  unfold fldQ at h
  split at h
  · rename_i C T N hc
    simp only [Bool.and_eq_true] at h
    obtain ⟨⟨⟨⟨a0, a1⟩, a2⟩, a3⟩, a4⟩ := h
    refine ⟨C, T, N, hc, Nat.le_of_ble_eq_true a0, blt_of a1, Nat.eq_of_beq_eq_true a2, ?_, ?_⟩
    · split at a3
      · exact Or.inl ⟨_, tbG_at a3, Or.inl rfl⟩
      · simp only [Bool.and_eq_true, decide_eq_true_eq] at a3
        exact Or.inr ⟨a3.1.1.1, Nat.eq_of_beq_eq_true a3.1.1.2, Nat.eq_of_beq_eq_true a3.1.2, Nat.eq_of_beq_eq_true a3.2⟩
      · simp only [Bool.and_eq_true] at a3
        obtain ⟨⟨b1, b2⟩, b3⟩ := a3
        have b1 := Nat.eq_of_beq_eq_true b1
        have b2 := Nat.eq_of_beq_eq_true b2
        subst b1; subst b2
        cases hc
        exact Or.inl ⟨RJx4a65c, tbG_at b3, Or.inr ⟨rfl, rfl, rfl, rfl⟩⟩
    · split at a4
      · rename_i e1; exact Or.inl ⟨rfl, e1, of_decide_eq_true a4⟩
      · rename_i e1; exact Or.inr (Or.inl ⟨rfl, e1, of_decide_eq_true a4⟩)
      · rename_i e1; exact Or.inr (Or.inr (Or.inl ⟨rfl, e1, of_decide_eq_true a4⟩))
      · rename_i e1
        refine Or.inr (Or.inr (Or.inr ⟨rfl, e1, ?_⟩))
        split at a4
        · rename_i e9; exact Or.inl ⟨_, e9⟩
        · rename_i e9; exact Or.inr ⟨_, e9⟩
        · cases a4
      · cases a4
  · cases h
section
variable {M : MI} {Q : Res → PH → Prop} {Z : State → Prop} {p : Program} {l : Launch} {e : Env} {R : Room} {s : State} {m : MethodId} {args : Array Value} {below : List Frame} {meth : Method} {cc : Code} {ad : Nat → Nat} {cA : Nat → ClassId} {D : va_G} {A : Nat → Prop} {X : PH → va_W} {h0 : PH} {k : KT} {pc c : Nat} {ls : Lc} {st : List Value} {h : PH}
theorem ad_own (hCQ : CQ ad A s s.heap) {n : Nat} (hn : 2000 ≤ n) : ad n = dq n := hCQ.lo n hn
theorem bc_get (hC : Cb M Q Z p l e R s m args below meth cc ad cA D A X h0) (hk : ∀ pc c ls st h, k pc c ls st h → BtC M Z p l e R s m args below meth cc ad cA D A X h0 pc c ls st h) {idx ci j so q nst : Nat}
    (hd : decode M.b pc = .ok (.getfield idx, 3)) (hf : fldQ M idx ci j so q nst = true) (hs : qget k pc c ls st h ci j so) : BtC M Z p l e R s m args below meth cc ad cA D A X h0 pc c ls st h := by
  intro H locs cells slots lsA hW hl h1 h2 h3
  obtain ⟨⟨hx, hb, hml, hown, hts⟩, hK, hA, hKQ, hCQ, hX, hfl, hst, hroom, hnm, hend⟩ := hC
  obtain ⟨C, T, N, hc, hci, hjN, hN, hlink, hso⟩ := fldQ_of hf
  have hW0 := hW
  obtain ⟨L, hP, hD, hS, hKd, hMd, hLw⟩ := hW
  unfold qget at hs
  split at hs
  · rename_i n r
    obtain ⟨hkn0, hs⟩ := hs
    have hkn := kQ_old hkn0
    clear hkn0
    have row : ∀ v : Value, (v = fvq ad h n ((fsq ci).getD j 9) j) → W p l e R s m args below meth cc H locs cells slots Z (F0 m (pc + 3) lsA (v :: r.map (tr ad))) → W p l e R s m args below meth cc H locs cells slots Z (F0 m pc lsA ((Value.ref n :: r).map (tr ad))) := by
      intro v hv kk
      have h9 : (fsq ci).getD j 9 ≠ 9 := by
        rcases hso with ⟨-, q, -⟩ | ⟨-, q, -⟩ | ⟨-, q, -⟩ | ⟨-, q, -⟩ <;> rw [q] <;> decide
      rcases hkn with hkn | ⟨e11, ej, hkn⟩
      · have hci2 : ci < 15 := by
          rcases Nat.lt_or_ge ci 15 with w | w
          · exact w
          · exfalso
            rw [List.getElem?_eq_none (by show 15 ≤ ci; exact w)] at hc
            cases hc
        have g0 : ¬ qkd h n = 0 := by omega
        have g1 : qkd h n < 32 := by omega
        obtain ⟨i, hi⟩ := pq_get (X := X h) (ad := ad) (cA := cA) hKd g0 g1
        rw [celQ_ob (by omega) hkn] at hi
        have ea := ad_own hCQ (hKd.own g0 g1).1
        have hv2 : (fvqs ad h n ci)[j]? = some v := by rw [hv]; exact fvqs_get rfl h9
        show W p l e R s m args below meth cc H locs cells slots Z (F0 m pc lsA (.ref (ad n) :: r.map (tr ad)))
        rw [ea]
        rcases hlink with ⟨ref, w1, w2⟩ | ⟨w1, w2, w3, w4⟩
        · refine va_get (D := D) (ci := ci) (v := v) (C := C) (T := T) (N := N) hx hb hts (cl_ok hc).1 hown hK hP i hi hc j hjN (hts _ w1) ?_ hv2 hd kk
          rcases w2 with w2 | ⟨w2, w3, w4, w5⟩
          · rw [w2]; exact fun _ h9 => h9
          · rw [w2, w3, w4, w5]; exact u_same (hts _ mod_same)
        · subst w2; subst w3; subst w4
          cases hc
          refine va_getN (D := D) (ci := 13) (v := v) (C := RJx4a65c) (T := TJx4a65c) (N := 3) (host := RJx4a65c) (ref := RJx4a65c) hx hb hts (cl_ok (ci := 13) rfl).1 hown hK hP i hi rfl 2 (by decide) ?_ (fun _ h9 => h9) hv2 hd kk
          have := va_Nw.use (A := args) rfl (hCQ.2.1 (.fieldLinkNest RJx35411 28 RJx4a65c "size" "I" RJx4a65c) (by decide +kernel))
          rw [w1]; exact this
      · subst e11
        cases hc
        have hkq := (hKQ.of hMd hKd) n
        unfold kqF at hkq
        rw [hkn] at hkq
        obtain ⟨z1, z2, z3, z4⟩ := hkq
        have hlk : Cond.fieldLink M.y.cls idx (TJ0 j).1 (TJ0 j).2.1 (TJ0 j).2.2.1 ∈ tbG := by
          rcases hlink with ⟨ref, w1, w2⟩ | ⟨-, -, w3, -⟩
          · rcases w2 with w2 | ⟨-, w3, -⟩
            · rw [← w2]; exact w1
            · match j, ej with
              | 0, _ => exact absurd w3 (by decide)
              | 1, _ => exact absurd w3 (by decide)
          · cases w3
        match j, ej with
        | 0, _ =>
          have : v = va_rf ((gr h n 0).map ad) := hv
          rw [this] at kk
          exact vk_getf hx hb z3 hS hown (hts _ hlk) (fun _ h9 => h9) hd kk
        | 1, _ =>
          have : v = .int (gi h n 1) := hv
          rw [this] at kk
          exact vk_getf hx hb z4 hS hown (hts _ hlk) (fun _ h9 => h9) hd kk
    rcases hso with ⟨rfl, e1, -⟩ | ⟨rfl, e1, -⟩ | ⟨rfl, e1, -⟩ | ⟨rfl, e1, -⟩
    · exact row _ (by rw [e1]; rfl) (hk _ _ _ _ _ hs H locs cells slots lsA hW0 hl h1 h2 h3)
    · exact row _ (by rw [e1]; rfl) (hk _ _ _ _ _ hs H locs cells slots lsA hW0 hl h1 h2 h3)
    · exact row _ (by rw [e1]; rfl) (hk _ _ _ _ _ hs H locs cells slots lsA hW0 hl h1 h2 h3)
    · simp only at hs
      cases hg : gr h n j with
      | none => exact row .null (by rw [e1]; show _ = va_rf ((gr h n j).map ad); rw [hg]; rfl) (hk _ _ _ _ _ (hs.2 hg) H locs cells slots lsA hW0 hl h1 h2 h3)
      | some b => exact row (.ref (ad b)) (by rw [e1]; show _ = va_rf ((gr h n j).map ad); rw [hg]; rfl) (hk _ _ _ _ _ (hs.1 b hg) H locs cells slots lsA hW0 hl h1 h2 h3)
  · cases hs
/-- a cell of the law's own, written -/
theorem WL.set {h' : PH} {H1 : Heap} {locs1 : List Loc} {L : List Nat} {n i : Nat} {ee : va_E} (hX : ∀ x y, Lw x y → X y = X x) (hKd : KdOk h L) (hMd : Md h0 h) (hLw : flQ M = false → Lw h0 h) (g0 : ¬ qkd h n = 0) (g1 : qkd h n < 32) (hD0 : va_D A (X h ++ pq ad cA h L)) (hi : (X h ++ pq ad cA h L)[i]? = some (dq n, celQ ad cA h n)) (o : Oth n h h') (hkd : qkd h' n = qkd h n) (he : ee = celQ ad cA h' n)
    (hP : va_P D pmCl ((X h ++ pq ad cA h L).set i (dq n, ee)) H1) (hD : va_D A ((X h ++ pq ad cA h L).set i (dq n, ee))) (hS : va_S A s.heap H1 locs1) : WL (flQ M) ad cA D X h0 A h' s s.heap H1 locs1 := by
  have e := pq_set (h' := h') hKd g0 g1 hD0 hi o he
  have hlw := o.lw (hKd.own g0 g1).1
  rw [e, ← hX _ _ hlw] at hP hD
  exact ⟨L, hP, hD, hS, hKd.oth o hkd, hMd.trans hlw.md, fun z => (hLw z).trans hlw⟩
/-- a new one -/
theorem WL.push {h' : PH} {H1 : Heap} {locs1 : List Loc} {L : List Nat} {q : Nat} {ee : va_E} (hX : ∀ x y, Lw x y → X y = X x) (hKd : KdOk h L) (hMd : Md h0 h) (hLw : flQ M = false → Lw h0 h) (hq : q ∉ L) (o : Oth (uq q) h h') (k0 : ¬ qkd h' (uq q) = 0) (k1 : qkd h' (uq q) < 32) (he : ee = celQ ad cA h' (uq q))
    (hP : va_P D pmCl ((X h ++ pq ad cA h L) ++ [(q, ee)]) H1) (hD : va_D A ((X h ++ pq ad cA h L) ++ [(q, ee)])) (hS : va_S A s.heap H1 locs1) : WL (flQ M) ad cA D X h0 A h' s s.heap H1 locs1 := by
  have e := pq_push (X := X h) (ad := ad) (cA := cA) hq o he
  have hlw := o.lw (uq_ge q)
  rw [e, ← hX _ _ hlw] at hP hD
  refine ⟨L ++ [q], hP, hD, hS, ?_, hMd.trans hlw.md, fun z => (hLw z).trans hlw⟩
  intro m hm
  by_cases z : m = uq q
  · subst z
    exact Or.inl ⟨uq_ge _, by rw [dq_uq]; exact List.mem_append_right _ (List.mem_singleton.mpr rfl), k1⟩
  · rw [o.kd z] at hm ⊢
    rcases hKd m hm with ⟨a, b, cc⟩ | w
    · exact Or.inl ⟨a, List.mem_append_left _ b, cc⟩
    · exact Or.inr w
/-- a place that is free in the heap is free among the numbers -/
theorem kd_free {H : Heap} {L : List Nat} (hP : va_P D pmCl (X h ++ pq ad cA h L) H) (hKd : KdOk h L) {q : Nat} (hq : H.size ≤ q) : q ∉ L ∧ qkd h (uq q) = 0 := by
  have h1 : q ∉ L := va_pl_fresh hP hq
  refine ⟨h1, ?_⟩
  by_cases z : qkd h (uq q) = 0
  · exact z
  · rcases hKd _ z with ⟨-, b, -⟩ | ⟨b, -⟩
    · rw [dq_uq] at b; exact absurd b h1
    · have := uq_ge q; omega
end
end
section
/-! ===== the law's steps: writes, new cells, arrays ===== -/
/-- a new object's fields -/
def dflQ (ci : Nat) : List Value := (fsq ci).map (fun so => match so with
  | 0 => .int 0
  | 1 => .long 0
  | _ => .null)
theorem dflQ_ok : ((List.range 15).all (fun ci => Nat.blt ci 9 || (match pmCl[ci]? with
  | some (_, T, N) => Nat.beq (dflQ ci).length N && (List.range N).all (fun j => decide ((parseFieldDescriptor (T j).2.2.1).map defaultValue = some (vp_V (dflQ ci) j)))
  | none => false))) = true := by decide +kernel
theorem dflQ_nw {ad : Nat → Nat} {h : PH} {q kd n ci : Nat} : fvqs ad (nw h q kd n) q ci = dflQ ci := by
  unfold fvqs dflQ
  apply List.ext_getElem?
  intro j
  rw [List.getElem?_map, List.getElem?_map]
  by_cases hl : j < (fsq ci).length
  · rw [List.getElem?_range hl, List.getElem?_eq_getElem hl]
    simp only [Option.map_some]
    rw [List.getD_eq_getElem?_getD, List.getElem?_eq_getElem hl]
    simp only [Option.getD_some]
    generalize (fsq ci)[j] = so
    unfold fvq gi gl gr nw
    simp only [if_true]
    match so with
    | 0 => rfl
    | 1 => rfl
    | _ + 2 => rfl
  · rw [List.getElem?_eq_none (by simpa using hl), List.getElem?_eq_none (by simpa using hl)]
    rfl
theorem cap_ci {ci : Nat} {q : vw_C} (hc : pmCl[ci]? = some q) : ci < 15 := by
  rcases Nat.lt_or_ge ci 15 with w | w
  · exact w
  · exfalso
    rw [List.getElem?_eq_none (by show 15 ≤ ci; exact w)] at hc
    cases hc
/-- what cells of n slots and an array's class need -/
theorem cstO_ok {ci N : Nat} {C : String} {T : u_T} (h9 : 9 ≤ ci) (hc : pmCl[ci]? = some (C, T, N)) : 1 ≤ cstO ci ∧ N ≤ 12 * cstO ci := by
  have hl := cap_ci hc
  match ci, h9, hl with
  | 9, _, _ => cases hc; decide
  | 10, _, _ => cases hc; decide
  | 11, _, _ => cases hc; decide
  | 12, _, _ => cases hc; decide
  | 13, _, _ => cases hc; decide
  | 14, _, _ => cases hc; decide
section
variable {M : MI} {Q : Res → PH → Prop} {Z : State → Prop} {p : Program} {l : Launch} {e : Env} {R : Room} {s : State} {m : MethodId} {args : Array Value} {below : List Frame} {meth : Method} {cc : Code} {ad : Nat → Nat} {cA : Nat → ClassId} {D : va_G} {A : Nat → Prop} {X : PH → va_W} {h0 : PH} {k : KT} {pc c : Nat} {ls : Lc} {st : List Value} {h : PH}
theorem bc_put (hC : Cb M Q Z p l e R s m args below meth cc ad cA D A X h0) (hk : ∀ pc c ls st h, k pc c ls st h → BtC M Z p l e R s m args below meth cc ad cA D A X h0 pc c ls st h) {idx ci j so q : Nat} {nst : Nat}
    (hd : decode M.b pc = .ok (.putfield idx, 3)) (hf : fldQ M idx ci j so q nst = true) (h1n : Nat.beq nst 1 = false) (hfin : (match pmCl[ci]? with
      | some (_, T, _) => !(T j).2.2.2 || (decide (M.y.name = "<init>") && decide ((T j).1 = M.y.cls))
      | none => false) = true) (hs : qput k pc c ls st h ci j so) : BtC M Z p l e R s m args below meth cc ad cA D A X h0 pc c ls st h := by
  intro H locs cells slots lsA hW hl h1 h2 h3
  obtain ⟨⟨hx, hb, hml, hown, hts⟩, hK, hA, hKQ, hCQ, hX, hfl, hst, hroom, hnm0, hend⟩ := hC
  obtain ⟨C, T, N, hc, hci, hjN, hN, hlink, hso⟩ := fldQ_of hf
  obtain ⟨L, hP, hD, hS, hKd, hMd, hLw⟩ := hW
  rw [hc] at hfin
  simp only at hfin
  have hci2 := cap_ci hc
  obtain ⟨hin, ⟨ty0, hty⟩, hnm⟩ := cl_ok hc
  have hlk : ∃ ref, Cond.fieldLink M.y.cls idx ref (T j).2.1 (T j).2.2.1 ∈ tbG ∧ (ref = (T j).1 ∨ (ref = RJx4a65c ∧ (T j).1 = "java/util/AbstractList" ∧ (T j).2.1 = "modCount" ∧ (T j).2.2.1 = "I")) := by
    rcases hlink with w | ⟨w1, w2, w3, w4⟩
    · exact w
    · exfalso
      subst w2; subst w3; subst w4
      unfold fldQ at hf
      rw [hc] at hf
      cases hc
      have : Nat.beq nst 1 = true := by
        match nst, hf with
        | 0, hf =>
          simp only [Bool.and_eq_true] at hf
          have := tbG_at hf.1.2
          exfalso
          rw [w1] at this
          exact absurd this (by decide +kernel)
        | 1, _ => rfl
        | n + 2, hf =>
          simp only [Bool.and_eq_true] at hf
          exact absurd hf.1.2.1.2 (by decide)
      rw [this] at h1n; cases h1n
  obtain ⟨ref, w1, w2⟩ := hlk
  have hsame : ∀ x, s.fieldFound? (T j).1 (T j).2.1 (T j).2.2.1 = some x → s.fieldFound? ref (T j).2.1 (T j).2.2.1 = some x := by
    rcases w2 with w2 | ⟨w2, w3, w4, w5⟩
    · rw [w2]; exact fun _ h9 => h9
    · rw [w2, w3, w4, w5]; exact u_same (hts _ mod_same)
  have row : ∀ (n : Nat) (v : Value) (ty : FieldType) (h' : PH) (r : List Value), qkd h n + 8 = ci → parseFieldDescriptor (T j).2.2.1 = some ty → narrow ty v = v → fits ty v = true → Oth n h h' → qkd h' n = qkd h n →
      (fvqs ad h n ci).set j v = fvqs ad h' n ci → k (pc + 3) c ls r h' →
      W p l e R s m args below meth cc H locs cells slots Z (F0 m pc lsA (v :: .ref (ad n) :: r.map (tr ad))) := by
    intro n v ty h' r hkn hpd hn hfit ho hkd he hkk
    have g0 : ¬ qkd h n = 0 := by omega
    have g1 : qkd h n < 32 := by omega
    obtain ⟨i, hi⟩ := pq_get (X := X h) (ad := ad) (cA := cA) hKd g0 g1
    have hi0 := hi
    rw [celQ_ob (by omega) hkn] at hi
    have ea := ad_own hCQ (hKd.own g0 g1).1
    rw [ea]
    have go : ∀ (H1 : Heap) (locs1 : List Loc), va_P D pmCl ((X h ++ pq ad cA h L).set i (dq n, .inr (ci, (fvqs ad h n ci).set j v))) H1 → va_D A ((X h ++ pq ad cA h L).set i (dq n, .inr (ci, (fvqs ad h n ci).set j v))) → va_S A s.heap H1 locs1 → W p l e R s m args below meth cc H1 locs1 cells slots Z (F0 m (pc + 3) lsA (r.map (tr ad))) := by
      intro H1 locs1 hP1 hD1 hS1
      refine hk _ _ _ _ _ hkk H1 locs1 cells slots lsA (WL.set hX hKd hMd hLw g0 g1 hD hi0 ho hkd ?_ hP1 hD1 hS1) hl h1 h2 h3
      rw [celQ_ob (ci := ci) (by omega) (by rw [hkd]; exact hkn), he]
    have hlen : j < (fvqs ad h n ci).length := by rw [fvqs_len, ← hN]; exact hjN
    cases hff : (T j).2.2.2 with
    | false => exact va_put (D := D) (ci := ci) (v := v) (ty := ty) (C := C) (T := T) (N := N) hx hb hts hin ty0 hty hnm hown hK hP hD hS i hi hc j hjN (hts _ w1) hsame hff hpd hn hfit hlen hd go
    | true =>
      rw [hff] at hfin
      simp only [Bool.not_true, Bool.false_or, Bool.and_eq_true, decide_eq_true_eq] at hfin
      exact va_putF (D := D) (ci := ci) (v := v) (ty := ty) (C := C) (T := T) (N := N) hx hb hts hin ty0 hty hnm hown hK hP hD hS i hi hc j hjN (hts _ w1) hsame hff (hnm0.trans hfin.1) hfin.2 hpd hn hfit hlen hd go
  unfold qput at hs
  rcases hso with ⟨rfl, e1, e2⟩ | ⟨rfl, e1, e2⟩ | ⟨rfl, e1, e2⟩ | ⟨rfl, e1, e2⟩
  · simp only at hs
    split at hs
    · rename_i x n r
      exact row n (.int x) .int _ r (kP_old hs.1) (by rw [e2]; exact pd_I) rfl rfl (Oth.si _ _ _ _) rfl (fv_si e1) hs.2
    · cases hs
  · simp only at hs
    split at hs
    · rename_i x n r
      obtain ⟨q1, hB, q2⟩ := hs
      refine row n (.int x) .boolean _ r (kP_old q1) (by rw [e2]; exact pd_Z) ?_ ?_ (Oth.si _ _ _ _) rfl (fv_si e1) q2
      · rcases hB with rfl | rfl <;> rfl
      · rcases hB with rfl | rfl <;> rfl
    · cases hs
  · simp only at hs
    split at hs
    · rename_i x n r
      obtain ⟨q1, hB, q2⟩ := hs
      refine row n (.int x) .byte _ r (kP_old q1) (by rw [e2]; exact pd_B) ?_ ?_ (Oth.si _ _ _ _) rfl (fv_si e1) q2
      · rcases hB with rfl | rfl <;> decide
      · rcases hB with rfl | rfl <;> decide
    · cases hs
  · have hty2 : ∃ ty, parseFieldDescriptor (T j).2.2.1 = some ty ∧ (∀ v : Value, (v = .null ∨ ∃ b, v = .ref b) → narrow ty v = v ∧ fits ty v = true) := by
      rcases e2 with ⟨nn, e2⟩ | ⟨tt, e2⟩
      · refine ⟨_, e2, fun v hv => ?_⟩
        rcases hv with rfl | ⟨b, rfl⟩ <;> exact ⟨rfl, rfl⟩
      · refine ⟨_, e2, fun v hv => ?_⟩
        rcases hv with rfl | ⟨b, rfl⟩ <;> exact ⟨rfl, rfl⟩
    obtain ⟨ty, t1, t2⟩ := hty2
    simp only at hs
    split at hs
    · rename_i b n r
      exact row n (.ref (ad b)) ty _ r (kP_old hs.1) t1 (t2 _ (Or.inr ⟨_, rfl⟩)).1 (t2 _ (Or.inr ⟨_, rfl⟩)).2 (Oth.sr _ _ _ _) rfl (fv_sr (x := some b) e1) hs.2
    · rename_i n r
      exact row n .null ty _ r (kP_old hs.1) t1 (t2 _ (Or.inl rfl)).1 (t2 _ (Or.inl rfl)).2 (Oth.sr _ _ _ _) rfl (fv_sr (x := none) e1) hs.2
    · cases hs
theorem bc_new (hC : Cb M Q Z p l e R s m args below meth cc ad cA D A X h0) (hk : ∀ pc c ls st h, k pc c ls st h → BtC M Z p l e R s m args below meth cc ad cA D A X h0 pc c ls st h) {idx ci : Nat} {C : String} {T : u_T} {N : Nat} (h9 : 9 ≤ ci) (hc : pmCl[ci]? = some (C, T, N))
    (w1 : Cond.classLink M.y.cls idx C ∈ tbG) (w2 : Cond.instantiable C N ∈ tbG) (w3 : Cond.initialized C ∈ tbG) (hd : decode M.b pc = .ok (.new idx, 3)) (hs : qnew M k pc c ls st h ci) : BtC M Z p l e R s m args below meth cc ad cA D A X h0 pc c ls st h := by
  intro H locs cells slots lsA hW hl h1 h2 h3
  obtain ⟨⟨hx, hb, hml, hown, hts⟩, hK, hA, hKQ, hCQ, hX, hfl, hst, hroom, hnm0, hend⟩ := hC
  obtain ⟨L, hP, hD, hS, hKd, hMd, hLw⟩ := hW
  obtain ⟨hcap, hs⟩ := hs
  have hst2 := cstO_ok h9 hc
  have hci2 := cap_ci hc
  obtain ⟨hin2, ⟨ty0, hty⟩, hnm⟩ := cl_ok hc
  have hdf := List.all_eq_true.mp dflQ_ok ci (List.mem_range.mpr hci2)
  have hb9 : Nat.blt ci 9 = false := by
    cases e : Nat.blt ci 9
    · rfl
    · have := Nat.blt_eq.mp e; omega
  rw [hc, hb9] at hdf
  simp only [Bool.false_or, Bool.and_eq_true] at hdf
  have hKn := hK.1 ci _ hc
  refine W.newcK hx hb hown (hts _ w1) (hts _ w2) (hts _ w3) rfl hd (by omega) (by omega) hKn.2.1 rfl fun H1 kC hkC e1 z1 o1 => ?_
  obtain ⟨f1, f2⟩ := kd_free hP hKd (Nat.le_refl H.size)
  have hP1 : va_P D pmCl (X h ++ pq ad cA h L) H1 := hP.kept (fun k9 q hq => o1 q.1 (hP k9 q hq).lt)
  have e2 : va_at D pmCl (H.size, .inr (ci, dflQ ci)) H1 := by
    refine ⟨_, hc, ?_⟩
    refine (u_born ty0 hts hin2 hKn hkC e1 hty).to (fun j hj => ?_)
    have h9 := List.all_eq_true.mp hdf.2 j (List.mem_range.mpr hj)
    rw [hty j hj] at h9
    exact Option.some.inj (of_decide_eq_true h9)
  have hP2 : va_P D pmCl ((X h ++ pq ad cA h L) ++ [(H.size, .inr (ci, dflQ ci))]) H1 := hP1.app (fun k9 x hx9 => by
    have h0 : k9 < 1 := (List.getElem?_eq_some_iff.mp hx9).1
    rw [show k9 = 0 by omega] at hx9
    cases hx9
    exact e2)
  have hD2 : va_D A ((X h ++ pq ad cA h L) ++ [(H.size, .inr (ci, dflQ ci))]) := hD.push hP rfl (hA _ hS.1)
  have hS2 : va_S A s.heap H1 locs := ⟨by have := hS.1; omega, fun q q1 q2 => (o1 q (Nat.lt_of_lt_of_le q1 hS.1)).trans (hS.2.1 q q1 q2), hS.2.2⟩
  have hkd : qkd (nw h (uq H.size) (ci - 8) 0) (uq H.size) = ci - 8 := qkd_nw (uq_hi _)
  have hgo := hk _ _ _ _ _ (hs (uq H.size) (uq_ge _) f2) H1 locs (cells + 1) (slots + N) lsA (WL.push hX hKd hMd hLw f1 (Oth.nw _ _ _ _) (by rw [hkd]; omega) (by rw [hkd]; omega) (by rw [celQ_ob (ci := ci) (by omega) (by rw [hkd]; omega), dflQ_nw]) hP2 hD2 hS2) hl (by omega) (by omega) hcap
  have ea := ad_own hCQ (n := uq H.size) (uq_ge _)
  rw [dq_uq] at ea
  have e9 : ((Value.ref (uq H.size) :: st).map (tr ad)) = .ref H.size :: st.map (tr ad) := by
    show Value.ref (ad (uq H.size)) :: _ = _
    rw [ea]
  rw [e9] at hgo
  exact hgo
/-- a new array's content -/
def nwE (t : Nat) : (Nat → Int32) ⊕ (Nat → Int64) ⊕ (Nat → UInt32) ⊕ (Nat → UInt64) ⊕ (Nat → Option Nat) := match t with
  | 7 => .inr (.inr (.inr (.inr (fun _ => none))))
  | 8 => .inr (.inr (.inr (.inr (fun _ => none))))
  | _ => .inl (fun _ => 0)
/-- the classes of arrays -/
theorem cA_name {t : Nat} {ty : FieldType} (hK : va_K D pmCl (pmTy cA) s) (ht : (pmTy cA)[t]? = some (cA t, ty)) (ho : ∀ C, ty ≠ .object C) : s.vm.findClass ("[" ++ ty.toString) = some (cA t) := by
  have h := (hK.2 t _ ht).2
  unfold va_RA at h
  split at h
  · rename_i C heq; exact absurd heq (ho C)
  · exact h
theorem cA_nameO {t : Nat} {C : String} (hK : va_K D pmCl (pmTy cA) s) (ht : (pmTy cA)[t]? = some (cA t, .object C)) : s.vm.findClass ("[" ++ (FieldType.object C).toString) = some (cA t) := by
  obtain ⟨_, _, -, -, -, h9⟩ := (hK.2 t _ ht).2
  exact h9
theorem aeq_nw {h : PH} {q kd n t : Nat} : aeq ad (nw h q kd n) q t = nwE t := by
  have e1 : (nw h q kd n).1 q = fun _ => 0 := if_pos rfl
  have e3 : (nw h q kd n).2.2.1 q = fun _ => none := if_pos rfl
  unfold aeq
  rw [e1, e3]
  match t with
  | 0 => rfl
  | 1 => rfl
  | 2 => rfl
  | 3 => rfl
  | 4 => rfl
  | 5 => rfl
  | 6 => rfl
  | 7 => rfl
  | 8 => rfl
  | _ + 9 => rfl
/-- what a new array's cell leads to -/
theorem bc_arr {H H1 : Heap} {locs : List Loc} {L : List Nat} {t n : Nat} (hA : ∀ q, s.heap.size ≤ q → A q) (hX : ∀ x y, Lw x y → X y = X x) (hP : va_P D pmCl (X h ++ pq ad cA h L) H) (hD : va_D A (X h ++ pq ad cA h L)) (hS : va_S A s.heap H locs) (hKd : KdOk h L) (hMd : Md h0 h) (hLw : flQ M = false → Lw h0 h) (ht : t < 16)
    (e1 : H1[H.size]? = some (vp_cell (cA t) (n, nwE t))) (z1 : H1.size = H.size + 1) (o1 : ∀ q, q < H.size → H1[q]? = H[q]?) : WL (flQ M) ad cA D X h0 A (nw h (uq H.size) (16 + t) n) s s.heap H1 locs := by
  obtain ⟨f1, f2⟩ := kd_free hP hKd (Nat.le_refl H.size)
  have hP1 : va_P D pmCl (X h ++ pq ad cA h L) H1 := hP.kept (fun k9 q hq => o1 q.1 (hP k9 q hq).lt)
  have hkd : qkd (nw h (uq H.size) (16 + t) n) (uq H.size) = 16 + t := qkd_nw (uq_hi _)
  have hc : celQ ad cA (nw h (uq H.size) (16 + t) n) (uq H.size) = .inl (cA t, n, nwE t) := by
    rw [celQ_ar hkd, qln_nw, aeq_nw]
  refine WL.push hX hKd hMd hLw f1 (Oth.nw _ _ _ _) (by rw [hkd]; omega) (by rw [hkd]; omega) rfl (hP1.app (fun k9 x hx9 => ?_)) (hD.push hP rfl (hA _ hS.1)) ⟨by have := hS.1; omega, fun q q1 q2 => (o1 q (Nat.lt_of_lt_of_le q1 hS.1)).trans (hS.2.1 q q1 q2), hS.2.2⟩
  have h0 : k9 < 1 := (List.getElem?_eq_some_iff.mp hx9).1
  rw [show k9 = 0 by omega] at hx9
  rw [hc] at hx9
  cases hx9
  exact e1
theorem ref_top {H : Heap} (hCQ : CQ ad A s s.heap) (r : List Value) : ((Value.ref (uq H.size) :: r).map (tr ad)) = .ref H.size :: r.map (tr ad) := by
  have ea := ad_own hCQ (n := uq H.size) (uq_ge _)
  rw [dq_uq] at ea
  show Value.ref (ad (uq H.size)) :: _ = _
  rw [ea]
theorem bc_newa (hC : Cb M Q Z p l e R s m args below meth cc ad cA D A X h0) (hk : ∀ pc c ls st h, k pc c ls st h → BtC M Z p l e R s m args below meth cc ad cA D A X h0 pc c ls st h) {at' : ArrayType} {t : Nat} (ht : (t = 0 ∧ newarray.typeOf at' = .int) ∨ (t = 1 ∧ newarray.typeOf at' = .byte)) (w1 : Cond.arrayClass (newarray.typeOf at') ∈ tbG)
    (hd : decode M.b pc = .ok (.newarray at', 2)) (hs : qnewa M k pc 2 c ls st h t) : BtC M Z p l e R s m args below meth cc ad cA D A X h0 pc c ls st h := by
  intro H locs cells slots lsA hW hl h1 h2 h3
  obtain ⟨⟨hx, hb, hml, hown, hts⟩, hK, hA, hKQ, hCQ, hX, hfl, hst, hroom, hnm0, hend⟩ := hC
  obtain ⟨L, hP, hD, hS, hKd, hMd, hLw⟩ := hW
  unfold qnewa at hs
  split at hs
  · rename_i n r
    obtain ⟨⟨hn, hn2⟩, hcap, hs⟩ := hs
    have hbytes : n.toNatClampNeg * componentBytes (newarray.typeOf at') ≤ 536870912 := by
      have h8 : componentBytes (newarray.typeOf at') ≤ 8 := by
        rcases ht with ⟨-, q⟩ | ⟨-, q⟩ <;> rw [q] <;> decide
      exact Nat.le_trans (Nat.mul_le_mul hn2 h8) (Nat.le_of_ble_eq_true rfl)
    refine va_newaK hx hb (hts _ w1) rfl hd rfl hn rfl hbytes (by omega) (by omega) rfl fun H1 cA1 e1 z1 o1 hAr hNm => ?_
    have hWL : WL (flQ M) ad cA D X h0 A (nw h (uq H.size) (16 + t) n.toNatClampNeg) s s.heap H1 locs := by
      refine bc_arr hA hX hP hD hS hKd hMd hLw (by rcases ht with ⟨q, -⟩ | ⟨q, -⟩ <;> omega) ?_ z1 o1
      rcases ht with ⟨rfl, q⟩ | ⟨rfl, q⟩
      · rw [q] at e1 hNm
        rw [show cA1 = cA 0 from Option.some.inj (hNm.symm.trans (cA_name hK (t := 0) rfl (by intro C; exact nofun)))] at e1
        exact e1
      · rw [q] at e1 hNm
        rw [show cA1 = cA 1 from Option.some.inj (hNm.symm.trans (cA_name hK (t := 1) rfl (by intro C; exact nofun)))] at e1
        exact e1
    have hgo := hk _ _ _ _ _ (hs (uq H.size) (uq_ge _) (kd_free hP hKd (Nat.le_refl H.size)).2) H1 locs (cells + 1) (slots + n.toNatClampNeg) lsA hWL hl (by omega) (by omega) hcap
    rw [ref_top hCQ] at hgo
    exact hgo
  · cases hs
theorem bc_newq (hC : Cb M Q Z p l e R s m args below meth cc ad cA D A X h0) (hk : ∀ pc c ls st h, k pc c ls st h → BtC M Z p l e R s m args below meth cc ad cA D A X h0 pc c ls st h) {idx : Nat} (w1 : Cond.classLink M.y.cls idx "java/lang/Object" ∈ tbG)
    (hd : decode M.b pc = .ok (.anewarray idx, 3)) (hs : qnewa M k pc 3 c ls st h 7) : BtC M Z p l e R s m args below meth cc ad cA D A X h0 pc c ls st h := by
  intro H locs cells slots lsA hW hl h1 h2 h3
  obtain ⟨⟨hx, hb, hml, hown, hts⟩, hK, hA, hKQ, hCQ, hX, hfl, hst, hroom, hnm0, hend⟩ := hC
  obtain ⟨L, hP, hD, hS, hKd, hMd, hLw⟩ := hW
  unfold qnewa at hs
  split at hs
  · rename_i n r
    obtain ⟨⟨hn, hn2⟩, hcap, hs⟩ := hs
    refine W.anew hx hb hown (hts _ w1) (va_AO.use hCQ.2.2.2.2.2.2.2.1) rfl hd rfl hn (by omega) (by omega) (by omega) fun cA1 kA comp f1 f2 f3 f4 => ?_
    generalize hH1 : H.push ({ cls := cA1, slots := Array.replicate n.toNatClampNeg .null, vm := .none } : Cell) = H1
    have z1 : H1.size = H.size + 1 := by rw [← hH1, Array.size_push]
    have o1 : ∀ q : Nat, q < H.size → H1[q]? = H[q]? := fun q hq => by rw [← hH1, Array.getElem?_push, if_neg (Nat.ne_of_lt hq)]
    have hWL : WL (flQ M) ad cA D X h0 A (nw h (uq H.size) (16 + 7) n.toNatClampNeg) s s.heap H1 locs := by
      refine bc_arr hA hX hP hD hS hKd hMd hLw (by decide) ?_ z1 o1
      rw [← hH1, Array.getElem?_push_size, arrV_new]
      rw [show cA1 = cA 7 from Option.some.inj (f1.symm.trans (cA_nameO hK (t := 7) rfl))]
      rfl
    have hgo := hk _ _ _ _ _ (hs (uq H.size) (uq_ge _) (kd_free hP hKd (Nat.le_refl H.size)).2) H1 locs (cells + 1) (slots + n.toNatClampNeg) lsA hWL hl (by omega) (by omega) hcap
    rw [ref_top hCQ] at hgo
    exact hgo
  · cases hs
end
end
section
/-! ===== the law's steps: elements, lengths, casts, constants, the JDK's natives ===== -/
/-- getstatic: kind 0 a reference of the start, 1 the int 1 -/
def qgst (k : KT) (pc c : Nat) (ls : Lc) (st : List Value) (h : PH) (ax : List Nat) : Prop := match ax with
  | [0, i, _] => k (pc + 3) c ls (.ref i :: st) h
  | [1, _, _] => k (pc + 3) c ls (.int 1 :: st) h
  | [2, _, _] => k (pc + 3) c ls (.null :: st) h ∧ k (pc + 3) c ls (.ref 1090 :: st) h
  | _ => False
def qldc (k : KT) (pc c : Nat) (ls : Lc) (st : List Value) (h : PH) (ax : List Nat) : Prop := match ax with
  | [n, _] => k (pc + 2) c ls (.int (nI n) :: st) h
  | [i] => k (pc + 2) c ls (.ref (1200 + i) :: st) h
  | [_, _, _] => k (pc + 2) c ls (.ref 1410 :: st) h
  | _ => False
/-- a reference against another: the law's own against the start's, or the same -/
def qacmp (k : KT) (pc t c : Nat) (cd : ACond) (ls : Lc) (st : List Value) (h : PH) : Prop := match st with
  | .ref y :: .ref x :: r => (x = y ∨ (2000 ≤ x ∧ ¬ qkd h x = 0 ∧ y < 2000 ∧ 32 ≤ qkd h y)) ∧ (match cd with
    | .eq => (x = y → k t c ls r h) ∧ (¬ x = y → k (pc + 3) c ls r h)
    | .ne => (¬ x = y → k t c ls r h) ∧ (x = y → k (pc + 3) c ls r h))
  | _ => False
/-- the JDK's own: 10 min, 11 max, 12 abs, 15 bytes copied, 16 references copied, 17 getClass of an array of objects, 18 Object's constructor -/
def qnat (k : KT) (pc kind c : Nat) (ls : Lc) (st : List Value) (h : PH) : Prop := match kind with
  | 10 => match st with
    | .int y :: .int x :: r => cat8 r <| k (pc + 3) c ls (.int (if y < x then y else x) :: r) h
    | _ => False
  | 11 => match st with
    | .int y :: .int x :: r => cat8 r <| k (pc + 3) c ls (.int (if x < y then y else x) :: r) h
    | _ => False
  | 12 => match st with
    | .int x :: r => cat8 r <| k (pc + 3) c ls (.int (if 0 ≤ x then x else 0 - x) :: r) h
    | _ => False
  | 15 => match st with
    | .int n :: .int dp :: .ref b :: .int sp :: .ref a :: r => cat8 r <| ((qkd h a = 17 ∨ qkd h a = 49) ∧ qkd h b = 17) ∧ (¬ sp < 0 ∧ ¬ dp < 0 ∧ ¬ n < 0 ∧ sp.toNatClampNeg + n.toNatClampNeg ≤ qln h a ∧ dp.toNatClampNeg + n.toNatClampNeg ≤ qln h b) ∧ (∀ i, i < n.toNatClampNeg → fits .byte (.int (gi h a (sp.toNatClampNeg + i))) = true) ∧ k (pc + 3) c ls r (cpi h a sp.toNatClampNeg b dp.toNatClampNeg n.toNatClampNeg)
    | _ => False
  | 16 => match st with
    | .int n :: .int dp :: .ref b :: .int sp :: .ref a :: r => cat8 r <| (qkd h a = 23 ∧ qkd h b = 23) ∧ (¬ sp < 0 ∧ ¬ dp < 0 ∧ ¬ n < 0 ∧ sp.toNatClampNeg + n.toNatClampNeg ≤ qln h a ∧ dp.toNatClampNeg + n.toNatClampNeg ≤ qln h b) ∧ (∃ g, (g = 1 ∨ g = 16) ∧ ∀ i, i < n.toNatClampNeg → ∀ y, gr h a (sp.toNatClampNeg + i) = some y → qkd h y = g) ∧ k (pc + 3) c ls r (cpr h a sp.toNatClampNeg b dp.toNatClampNeg n.toNatClampNeg)
    | _ => False
  | 17 => match st with
    | .ref a :: r => cat8 r <| qkd h a = 23 ∧ k (pc + 3) c ls (.ref 1410 :: r) h
    | _ => False
  | 18 => match st with
    | .ref _ :: r => cat8 r <| k (pc + 3) c ls r h
    | _ => False
  | _ => False
section
variable {M : MI} {Q : Res → PH → Prop} {Z : State → Prop} {p : Program} {l : Launch} {e : Env} {R : Room} {s : State} {m : MethodId} {args : Array Value} {below : List Frame} {meth : Method} {cc : Code} {ad : Nat → Nat} {cA : Nat → ClassId} {D : va_G} {A : Nat → Prop} {X : PH → va_W} {h0 : PH} {k : KT} {pc c : Nat} {ls : Lc} {st : List Value} {h : PH}
/-- an array of the law's own, by its place -/
theorem arr_at {L : List Nat} (hKd : KdOk h L) {n t : Nat} (hn : qkd h n = 16 + t) (ht : t < 16) : ¬ qkd h n = 0 ∧ qkd h n < 32 ∧ ∃ i : Nat, (X h ++ pq ad cA h L)[i]? = some (dq n, .inl (cA t, qln h n, aeq ad h n t)) := by
  have g0 : ¬ qkd h n = 0 := by omega
  have g1 : qkd h n < 32 := by omega
  obtain ⟨i, hi⟩ := pq_get (X := X h) (ad := ad) (cA := cA) hKd g0 g1
  rw [celQ_ar hn] at hi
  exact ⟨g0, g1, i, hi⟩
theorem cst_T (hKQ : KQ ad A s s.heap h0) (hMd : Md h0 h) {L : List Nat} (hKd : KdOk h L) (n : Nat) : (qkd h n = 48 → va_T .int (ad n) (qln h n) (fun j => .int (gi h n j)) A s s.heap) ∧ (qkd h n = 49 → va_T .byte (ad n) (qln h n) (fun j => .int (gi h n j)) A s s.heap) ∧ (qkd h n = 55 → va_T (.object "java/lang/Object") (ad n) (qln h n) (fun j => va_rf ((gr h n j).map ad)) A s s.heap) := by
  have hkq := (hKQ.of hMd hKd) n
  unfold kqF at hkq
  refine ⟨fun e => ?_, fun e => ?_, fun e => ?_⟩
  · rw [e] at hkq; exact hkq.2
  · rw [e] at hkq; exact hkq.2
  · rw [e] at hkq; exact hkq.2
theorem bc_ald (hC : Cb M Q Z p l e R s m args below meth cc ad cA D A X h0) (hk : ∀ pc c ls st h, k pc c ls st h → BtC M Z p l e R s m args below meth cc ad cA D A X h0 pc c ls st h) {t : Nat}
    (hd : match t with
      | 0 => decode M.b pc = .ok (.iaload, 1)
      | 1 => decode M.b pc = .ok (.baload, 1)
      | 6 => decode M.b pc = .ok (.baload, 1)
      | _ => decode M.b pc = .ok (.aaload, 1)) (hs : qald k t pc c ls st h) : BtC M Z p l e R s m args below meth cc ad cA D A X h0 pc c ls st h := by
  intro H locs cells slots lsA hW hl h1 h2 h3
  obtain ⟨⟨hx, hb, hml, hown, hts⟩, hK, hA, hKQ, hCQ, hX, hfl, hst, hroom, hnm0, hend⟩ := hC
  have hW0 := hW
  obtain ⟨L, hP, hD, hS, hKd, hMd, hLw⟩ := hW
  unfold qald at hs
  split at hs
  · rename_i i n r
    have go : ∀ (v : Value), k (pc + 1) c ls (v :: r) h → W p l e R s m args below meth cc H locs cells slots Z (F0 m (pc + 1) lsA (tr ad v :: r.map (tr ad))) := fun v h9 => hk _ _ _ _ _ h9 H locs cells slots lsA hW0 hl h1 h2 h3
    have own : ∀ t, qkd h n = 16 + t → t < 16 → ad n = dq n := fun t ht h16 => ad_own hCQ (hKd.own (by omega) (by omega)).1
    match t, hd, hs with
    | 0, hd, hs =>
      obtain ⟨hkn, hin, hs⟩ := hs
      rcases hkn with hkn | hkn
      · obtain ⟨-, -, i9, hi⟩ := arr_at (X := X) (ad := ad) (cA := cA) hKd (t := 0) hkn (by decide)
        show W p l e R s m args below meth cc H locs cells slots Z (F0 m pc lsA (.int i :: .ref (ad n) :: r.map (tr ad)))
        rw [own 0 hkn (by decide)]
        exact va_iald hx hb hK hP i9 0 hi rfl hin hd (go _ hs)
      · exact va_ti hx hb ((cst_T hKQ hMd hKd n).1 hkn) hS hin rfl hd (go _ hs)
    | 1, hd, hs =>
      obtain ⟨hkn, hin, hs⟩ := hs
      rcases hkn with hkn | hkn
      · obtain ⟨-, -, i9, hi⟩ := arr_at (X := X) (ad := ad) (cA := cA) hKd (t := 1) hkn (by decide)
        show W p l e R s m args below meth cc H locs cells slots Z (F0 m pc lsA (.int i :: .ref (ad n) :: r.map (tr ad)))
        rw [own 1 hkn (by decide)]
        exact va_bald hx hb hK hP i9 1 hi rfl hin hd (go _ hs)
      · exact va_tb hx hb ((cst_T hKQ hMd hKd n).2.1 hkn) hS hin rfl hd (go _ hs)
    | 6, hd, hs =>
      obtain ⟨hkn, hin, hs⟩ := hs
      obtain ⟨-, -, i9, hi⟩ := arr_at (X := X) (ad := ad) (cA := cA) hKd (t := 6) hkn (by decide)
      show W p l e R s m args below meth cc H locs cells slots Z (F0 m pc lsA (.int i :: .ref (ad n) :: r.map (tr ad)))
      rw [own 6 hkn (by decide)]
      exact va_zald hx hb hK hP i9 6 hi rfl hin hd (go _ hs)
    | 7, hd, hs =>
      obtain ⟨hkn, hin, hs⟩ := hs
      obtain ⟨-, -, i9, hi⟩ := arr_at (X := X) (ad := ad) (cA := cA) hKd (t := 7) hkn (by decide)
      show W p l e R s m args below meth cc H locs cells slots Z (F0 m pc lsA (.int i :: .ref (ad n) :: r.map (tr ad)))
      rw [own 7 hkn (by decide)]
      refine va_aldq hx hb hK hP i9 7 hi rfl hin hd ?_
      show W p l e R s m args below meth cc H locs cells slots Z (F0 m (pc + 1) lsA (va_rf ((gr h n i.toNatClampNeg).map ad) :: r.map (tr ad)))
      cases hg : gr h n i.toNatClampNeg with
      | none => exact go .null (hs.2 hg)
      | some b => exact go (.ref b) (hs.1 b hg)
    | 8, hd, hs =>
      obtain ⟨hkn, hin, hs⟩ := hs
      obtain ⟨-, -, i9, hi⟩ := arr_at (X := X) (ad := ad) (cA := cA) hKd (t := 8) hkn (by decide)
      show W p l e R s m args below meth cc H locs cells slots Z (F0 m pc lsA (.int i :: .ref (ad n) :: r.map (tr ad)))
      rw [own 8 hkn (by decide)]
      have hlt : i.toNatClampNeg < qln h n := Nat.not_le.mp fun q => hin (Or.inr q)
      refine W.aald (v := va_rf ((gr h n i.toNatClampNeg).map ad)) (ty := .array .boolean) hx hb (hP i9 _ hi) ((hK.2 8 _ rfl).1 (qln h n) (fun j => va_rf ((h.2.2.1 n j).map ad))) rfl (fun q => by cases q) (by show ¬ (i < 0 ∨ (arrV _ _ _).slots.size ≤ _); rw [arrV_size]; exact hin) (by show (arrV _ _ _).slots[_]? = _; rw [arrV_read _ _ hlt]; rfl) rfl rfl hd ?_
      cases hg : gr h n i.toNatClampNeg with
      | none => exact go .null (hs.2 hg)
      | some b => exact go (.ref b) (hs.1 b hg)
    | 2, _, hs => exact hs.elim
    | 3, _, hs => exact hs.elim
    | 4, _, hs => exact hs.elim
    | 5, _, hs => exact hs.elim
    | _ + 9, _, hs => exact hs.elim
  · cases hs
/-- the cell of a member or of an array of ints -/
theorem cls_own (hK : va_K D pmCl (pmTy cA) s) (hCQ : CQ ad A s s.heap) {L : List Nat} {H : Heap} (hKd : KdOk h L) (hP : va_P D pmCl (X h ++ pq ad cA h L) H) {b g : Nat} (hg : g = 1 ∨ g = 16) (hb : qkd h b = g) : ∃ cell : Cell, H[ad b]? = some cell ∧ cell.vm.isStatics = false ∧ s.vm.findClass (if g = 1 then RX12 else "[I") = some cell.cls := by
  rcases hg with rfl | rfl
  · obtain ⟨i, hi⟩ := pq_get (X := X h) (ad := ad) (cA := cA) hKd (n := b) (by omega) (by omega)
    rw [celQ_ob (ci := 9) (by decide) (by omega)] at hi
    rw [ad_own hCQ (hKd.own (n := b) (by omega) (by omega)).1]
    exact va_recv hK hP (ci := 9) (q := (RX12, TX12, 6)) rfl hi
  · obtain ⟨-, -, i, hi⟩ := arr_at (X := X) (ad := ad) (cA := cA) hKd (t := 0) hb (by decide)
    rw [ad_own hCQ (hKd.own (n := b) (by omega) (by omega)).1]
    have h9 := hP i _ hi
    refine ⟨_, h9, rfl, ?_⟩
    exact cA_name hK (t := 0) rfl (by intro C; exact nofun)
theorem cls_asg (hCQ : CQ ad A s s.heap) {g : Nat} (hg : g = 1 ∨ g = 16) : ∀ comp c0 : ClassId, s.vm.findClass "java/lang/Object" = some comp → s.vm.findClass (if g = 1 then RX12 else "[I") = some c0 → s.vm.assignable c0 comp = true := by
  intro comp c0 f1 f2
  have hw : Cond.castable (if g = 1 then RX12 else "[I") "java/lang/Object" ∈ XQ := by
    rcases hg with rfl | rfl <;> decide +kernel
  obtain ⟨c1, t1, e1, e2, e3⟩ := Cond.castable_spec (va_Nw.use (A := #[]) rfl (hCQ.2.1 _ hw))
  cases f2.symm.trans e1
  cases f1.symm.trans e2
  exact e3
theorem bc_ast (hC : Cb M Q Z p l e R s m args below meth cc ad cA D A X h0) (hk : ∀ pc c ls st h, k pc c ls st h → BtC M Z p l e R s m args below meth cc ad cA D A X h0 pc c ls st h) {t : Nat}
    (hd : match t with
      | 0 => decode M.b pc = .ok (.iastore, 1)
      | 1 => decode M.b pc = .ok (.bastore, 1)
      | 6 => decode M.b pc = .ok (.bastore, 1)
      | _ => decode M.b pc = .ok (.aastore, 1)) (hs : qast k t pc c ls st h) : BtC M Z p l e R s m args below meth cc ad cA D A X h0 pc c ls st h := by
  intro H locs cells slots lsA hW hl h1 h2 h3
  obtain ⟨⟨hx, hb, hml, hown, hts⟩, hK, hA, hKQ, hCQ, hX, hfl, hst, hroom, hnm0, hend⟩ := hC
  obtain ⟨L, hP, hD, hS, hKd, hMd, hLw⟩ := hW
  have go : ∀ (n t i9 : Nat) (h' : PH) (r : List Value) (ee : va_E), t < 16 → qkd h n = 16 + t → (X h ++ pq ad cA h L)[i9]? = some (dq n, celQ ad cA h n) → Oth n h h' → qkd h' n = qkd h n → ee = celQ ad cA h' n → k (pc + 1) c ls r h' → ∀ (H1 : Heap) (locs1 : List Loc), va_P D pmCl ((X h ++ pq ad cA h L).set i9 (dq n, ee)) H1 → va_D A ((X h ++ pq ad cA h L).set i9 (dq n, ee)) → va_S A s.heap H1 locs1 → W p l e R s m args below meth cc H1 locs1 cells slots Z (F0 m (pc + 1) lsA (r.map (tr ad))) := by
    intro n t i9 h' r ee ht hkn hi ho hkd he hkk H1 locs1 hP1 hD1 hS1
    exact hk _ _ _ _ _ hkk H1 locs1 cells slots lsA (WL.set hX hKd hMd hLw (by omega) (by omega) hD hi ho hkd he hP1 hD1 hS1) hl h1 h2 h3
  have own : ∀ n t, qkd h n = 16 + t → t < 16 → ad n = dq n := fun n t ht h16 => ad_own hCQ (hKd.own (by omega) (by omega)).1
  unfold qast at hs
  match t, hd, hs with
  | 0, hd, hs =>
    simp only at hs
    split at hs
    · rename_i x i n r _
      obtain ⟨hkn, hin, hs⟩ := hs
      obtain ⟨-, -, i9, hi⟩ := arr_at (X := X) (ad := ad) (cA := cA) hKd (t := 0) hkn (by decide)
      have hi0 : (X h ++ pq ad cA h L)[i9]? = some (dq n, celQ ad cA h n) := by rw [hi, celQ_ar (t := 0) hkn]
      show W p l e R s m args below meth cc H locs cells slots Z (F0 m pc lsA (.int x :: .int i :: .ref (ad n) :: r.map (tr ad)))
      rw [own n 0 hkn (by decide)]
      exact va_iast hx hb hK hP hD hS i9 0 hi rfl hin hd (go n 0 i9 _ r _ (by decide) hkn hi0 (Oth.si _ _ _ _) rfl (by rw [celQ_ar (h := si h n i.toNatClampNeg x) (t := 0) hkn, ← ae_si (Or.inl rfl)]; rfl) hs)
    · cases hs
  | 1, hd, hs =>
    simp only at hs
    split at hs
    · rename_i x i n r _
      obtain ⟨hkn, hin, hs⟩ := hs
      obtain ⟨-, -, i9, hi⟩ := arr_at (X := X) (ad := ad) (cA := cA) hKd (t := 1) hkn (by decide)
      have hi0 : (X h ++ pq ad cA h L)[i9]? = some (dq n, celQ ad cA h n) := by rw [hi, celQ_ar (t := 1) hkn]
      show W p l e R s m args below meth cc H locs cells slots Z (F0 m pc lsA (.int x :: .int i :: .ref (ad n) :: r.map (tr ad)))
      rw [own n 1 hkn (by decide)]
      exact va_bast hx hb hK hP hD hS i9 1 hi rfl hin hd (go n 1 i9 _ r _ (by decide) hkn hi0 (Oth.si _ _ _ _) rfl (by rw [vp_nar_byte, celQ_ar (h := si h n i.toNatClampNeg x.toInt8.toInt32) (t := 1) hkn, ← ae_si (Or.inr (Or.inl rfl))]; rfl) hs)
    · cases hs
  | 6, hd, hs =>
    simp only at hs
    split at hs
    · rename_i x i n r _
      obtain ⟨hkn, hin, hB, hs⟩ := hs
      obtain ⟨-, -, i9, hi⟩ := arr_at (X := X) (ad := ad) (cA := cA) hKd (t := 6) hkn (by decide)
      have hi0 : (X h ++ pq ad cA h L)[i9]? = some (dq n, celQ ad cA h n) := by rw [hi, celQ_ar (t := 6) hkn]
      have ex : vp_nar .boolean x = x := by rcases hB with rfl | rfl <;> decide
      show W p l e R s m args below meth cc H locs cells slots Z (F0 m pc lsA (.int x :: .int i :: .ref (ad n) :: r.map (tr ad)))
      rw [own n 6 hkn (by decide)]
      exact va_zast hx hb hK hP hD hS i9 6 hi rfl hin hd (go n 6 i9 _ r _ (by decide) hkn hi0 (Oth.si _ _ _ _) rfl (by rw [ex, celQ_ar (h := si h n i.toNatClampNeg x) (t := 6) hkn, ← ae_si (Or.inr (Or.inr rfl))]; rfl) hs)
    · cases hs
  | 7, hd, hs =>
    simp only at hs
    split at hs
    · rename_i b i n r _
      obtain ⟨hkn, hkb, hin, hs⟩ := hs
      obtain ⟨-, -, i9, hi⟩ := arr_at (X := X) (ad := ad) (cA := cA) hKd (t := 7) hkn (by decide)
      have hi0 : (X h ++ pq ad cA h L)[i9]? = some (dq n, celQ ad cA h n) := by rw [hi, celQ_ar (t := 7) hkn]
      show W p l e R s m args below meth cc H locs cells slots Z (F0 m pc lsA (.ref (ad b) :: .int i :: .ref (ad n) :: r.map (tr ad)))
      rw [own n 7 hkn (by decide)]
      have hany : va_Any "java/lang/Object" s H (ad b) := by
        obtain ⟨cell, q1, q2, q3⟩ := cls_own (X := X) hK hCQ hKd hP (g := qkd h b) hkb rfl
        obtain ⟨kC, hkC, -⟩ := Vm.findClass_spec q3
        exact ⟨cell, q1, q2, ⟨kC, hkC⟩, fun comp hc => cls_asg hCQ hkb comp _ hc q3⟩
      exact va_astqM hx hb hK hP hD hS i9 7 hi rfl hany hin hd (go n 7 i9 _ r _ (by decide) hkn hi0 (Oth.sr _ _ _ _) rfl (by rw [celQ_ar (h := sr h n i.toNatClampNeg (some b)) (t := 7) hkn, ← ae_sr]; rfl) hs)
    · cases hs
  | 2, _, hs => exact hs.elim
  | 3, _, hs => exact hs.elim
  | 4, _, hs => exact hs.elim
  | 5, _, hs => exact hs.elim
  | _ + 8, _, hs => exact hs.elim
theorem bc_aln (hC : Cb M Q Z p l e R s m args below meth cc ad cA D A X h0) (hk : ∀ pc c ls st h, k pc c ls st h → BtC M Z p l e R s m args below meth cc ad cA D A X h0 pc c ls st h)
    (hd : decode M.b pc = .ok (.arraylength, 1)) (hs : qaln k pc c ls st h) : BtC M Z p l e R s m args below meth cc ad cA D A X h0 pc c ls st h := by
  intro H locs cells slots lsA hW hl h1 h2 h3
  obtain ⟨⟨hx, hb, hml, hown, hts⟩, hK, hA, hKQ, hCQ, hX, hfl, hst, hroom, hnm0, hend⟩ := hC
  have hW0 := hW
  obtain ⟨L, hP, hD, hS, hKd, hMd, hLw⟩ := hW
  unfold qaln at hs
  split at hs
  · rename_i n r
    obtain ⟨hkn, hs⟩ := hs
    have go := hk _ _ _ _ _ hs H locs cells slots lsA hW0 hl h1 h2 h3
    have cT := cst_T hKQ hMd hKd n
    rcases hkn with ⟨k1, k2⟩ | hkn | hkn | hkn
    · obtain ⟨t, ht, ht2⟩ : ∃ t, qkd h n = 16 + t ∧ t < 9 := ⟨qkd h n - 16, by omega, by omega⟩
      obtain ⟨g0, g1, i9, hi⟩ := arr_at (X := X) (ad := ad) (cA := cA) hKd ht (by omega)
      show W p l e R s m args below meth cc H locs cells slots Z (F0 m pc lsA (.ref (ad n) :: r.map (tr ad)))
      rw [ad_own hCQ (hKd.own g0 g1).1]
      obtain ⟨ty, hty⟩ : ∃ ty, (pmTy cA)[t]? = some (cA t, ty) := by
        match t, ht2 with
        | 0, _ => exact ⟨_, rfl⟩
        | 1, _ => exact ⟨_, rfl⟩
        | 2, _ => exact ⟨_, rfl⟩
        | 3, _ => exact ⟨_, rfl⟩
        | 4, _ => exact ⟨_, rfl⟩
        | 5, _ => exact ⟨_, rfl⟩
        | 6, _ => exact ⟨_, rfl⟩
        | 7, _ => exact ⟨_, rfl⟩
        | 8, _ => exact ⟨_, rfl⟩
      exact va_alen hx hb hK hP i9 t hi hty rfl hd go
    · exact va_tlen hx hb (cT.1 hkn) hS rfl hd go
    · exact va_tlen hx hb (cT.2.1 hkn) hS rfl hd go
    · exact va_tlen hx hb (cT.2.2 hkn) hS rfl hd go
  · cases hs
theorem bc_cast (hC : Cb M Q Z p l e R s m args below meth cc ad cA D A X h0) (hk : ∀ pc c ls st h, k pc c ls st h → BtC M Z p l e R s m args below meth cc ad cA D A X h0 pc c ls st h) {idx t : Nat}
    (hw : match t with
      | 0 => Cond.classLink M.y.cls idx RX12 ∈ tbG
      | _ => Cond.classLink M.y.cls idx "[Ljava/lang/Object;" ∈ tbG)
    (hd : decode M.b pc = .ok (.checkcast idx, 3)) (hs : qcast k t pc c ls st h) : BtC M Z p l e R s m args below meth cc ad cA D A X h0 pc c ls st h := by
  intro H locs cells slots lsA hW hl h1 h2 h3
  obtain ⟨⟨hx, hb, hml, hown, hts⟩, hK, hA, hKQ, hCQ, hX, hfl, hst, hroom, hnm0, hend⟩ := hC
  have hW0 := hW
  obtain ⟨L, hP, hD, hS, hKd, hMd, hLw⟩ := hW
  unfold qcast at hs
  split at hs
  · rename_i n r
    obtain ⟨hkn, hs⟩ := hs
    have go := hk _ _ _ _ _ hs H locs cells slots lsA hW0 hl h1 h2 h3
    match t, hw, hkn with
    | 0, hw, hkn => exact va_castY (C := RX12) (nm := RX12) hx hb hown (hts _ hw) (hCQ.2.1 _ (by decide +kernel)) (cls_own (X := X) hK hCQ hKd hP (g := 1) (Or.inl rfl) hkn) hd go
    | _ + 1, hw, hkn =>
      obtain ⟨g0, g1, i9, hi⟩ := arr_at (X := X) (ad := ad) (cA := cA) hKd (t := 7) hkn (by decide)
      have go2 : W p l e R s m args below meth cc H locs cells slots Z (F0 m (pc + 3) lsA (.ref (ad n) :: r.map (tr ad))) := go
      show W p l e R s m args below meth cc H locs cells slots Z (F0 m pc lsA (.ref (ad n) :: r.map (tr ad)))
      rw [ad_own hCQ (hKd.own g0 g1).1] at go2 ⊢
      exact va_castA hx hb hown (hts _ hw) hP i9 hi (cA_nameO hK (t := 7) rfl) hd go2
  · cases hs
theorem bc_gst (hC : Cb M Q Z p l e R s m args below meth cc ad cA D A X h0) (hk : ∀ pc c ls st h, k pc c ls st h → BtC M Z p l e R s m args below meth cc ad cA D A X h0 pc c ls st h) {idx : Nat} {ax : List Nat}
    (hw : match ax with
      | [0, i, _] => ∃ q ∈ gQ, q.2.2.2 = i ∧ Cond.fieldLink M.y.cls idx q.1 q.2.1 q.2.2.1 ∈ tbG
      | [1, _, _] => Cond.fieldLink M.y.cls idx "java/lang/String" "COMPACT_STRINGS" "Z" ∈ tbG
      | [2, _, _] => Cond.fieldLink M.y.cls idx cPre cFmt cBiF ∈ tbG
      | _ => True)
    (hd : decode M.b pc = .ok (.getstatic idx, 3)) (hs : qgst k pc c ls st h ax) : BtC M Z p l e R s m args below meth cc ad cA D A X h0 pc c ls st h := by
  intro H locs cells slots lsA hW hl h1 h2 h3
  obtain ⟨⟨hx, hb, hml, hown, hts⟩, hK, hA, hKQ, hCQ, hX, hfl, hst, hroom, hnm0, hend⟩ := hC
  have hW0 := hW
  obtain ⟨L, hP, hD, hS, hKd, hMd, hLw⟩ := hW
  unfold qgst at hs
  split at hs
  · obtain ⟨q, hq, e1, w⟩ := hw
    have go := hk _ _ _ _ _ hs H locs cells slots lsA hW0 hl h1 h2 h3
    rw [← e1] at go
    exact va_gets hx hb (hCQ.2.2.2.2.1 q hq) hS hown (hts _ w) (fun _ h9 => h9) hd go
  · exact va_gets hx hb hCQ.2.2.2.2.2.1 hS hown (hts _ hw) (fun _ h9 => h9) hd (hk _ _ _ _ _ hs H locs cells slots lsA hW0 hl h1 h2 h3)
  · rcases hCQ.2.2.2.2.2.2.2.2.2 with z | z
    · exact va_gets hx hb z hS hown (hts _ hw) (fun _ h9 => h9) hd (hk _ _ _ _ _ hs.1 H locs cells slots lsA hW0 hl h1 h2 h3)
    · exact va_gets hx hb z hS hown (hts _ hw) (fun _ h9 => h9) hd (hk _ _ _ _ _ hs.2 H locs cells slots lsA hW0 hl h1 h2 h3)
  · cases hs
theorem bc_ldc (hC : Cb M Q Z p l e R s m args below meth cc ad cA D A X h0) (hk : ∀ pc c ls st h, k pc c ls st h → BtC M Z p l e R s m args below meth cc ad cA D A X h0 pc c ls st h) {idx : Nat} {ax : List Nat}
    (hw : match ax with
      | [n, _] => Cond.constant M.y.cls idx (nI n) ∈ tbG
      | [i] => M.y.cls = RX13 ∧ ∃ tx, sQi[i]? = some (idx, tx)
      | [_, _, _] => Cond.classLink M.y.cls idx "[Ljava/lang/Object;" ∈ tbG
      | _ => True)
    (hd : decode M.b pc = .ok (.ldc idx, 2)) (hs : qldc k pc c ls st h ax) : BtC M Z p l e R s m args below meth cc ad cA D A X h0 pc c ls st h := by
  intro H locs cells slots lsA hW hl h1 h2 h3
  obtain ⟨⟨hx, hb, hml, hown, hts⟩, hK, hA, hKQ, hCQ, hX, hfl, hst, hroom, hnm0, hend⟩ := hC
  have hW0 := hW
  obtain ⟨L, hP, hD, hS, hKd, hMd, hLw⟩ := hW
  unfold qldc at hs
  split at hs
  · have go := hk _ _ _ _ _ hs H locs cells slots lsA hW0 hl h1 h2 h3
    exact lv_ldc hx hb hown (hts _ hw) hd go
  · obtain ⟨w1, tx, w2⟩ := hw
    have go := hk _ _ _ _ _ hs H locs cells slots lsA hW0 hl h1 h2 h3
    rw [w1] at hown
    exact va_ldcS hx hb hown (hCQ.2.2.1 _ _ w2) hd go
  · exact va_ldcM hx hb hown (hts _ hw) hCQ.2.2.2.2.2.2.1 hd (hk _ _ _ _ _ hs H locs cells slots lsA hW0 hl h1 h2 h3)
  · cases hs
end
end
section
/-! ===== the law's steps: the JDK's natives ===== -/
section
variable {p : Program} {l : Launch} {e : Env} {R : Room} {s : State} {m : MethodId} {args : Array Value} {below : List Frame} {meth : Method} {c : Code} {H : Heap} {locs : List Loc} {cells slots : Nat} {Q : State → Prop} {cc : ByteArray} {pc : Nat} {ls : Array Slot} {rest : List Value} {D : va_G} {cl : List vw_C} {A : Nat → Prop} {a : Nat} {tys : List (ClassId × FieldType)} {ws : va_W}
/-- bytes out of a constant's array (after the kit's va_copyx) -/
theorem cpy_cst (hexec : p.tables.exec = Jvm.exec) (hb : c.code = cc) (hml : c.maxLocals = ls.size) {own : String} {index : Nat} (hown : s.vm.findClass own = some m.cls) (hlink : (Cond.methodLink own index arraycopyName).before args s = true) (hnat : (Cond.native arraycopyName).before args s = true) (hstat : (Cond.static arraycopyName).before args s = true) (hini : (Cond.initialized "java/lang/System").before args s = true)
    (hK : va_K D cl tys s) (hP : va_P D cl ws H) (hD : va_D A ws) (hS : va_S A s.heap H locs) {b0 n0 : Nat} {f : Nat → Int32} (hX : va_T .byte b0 n0 (fun j => .int (f j)) A s s.heap) (q1 t1 : Nat) {c1 : ClassId} {n1 : Nat} {g : Nat → Int32} (ha1 : ws[q1]? = some (a, .inl (c1, n1, .inl g))) (ht1 : tys[t1]? = some (c1, .byte))
    {sp dp n : Int32} (h1 : ¬ sp < 0) (h2 : ¬ dp < 0) (h3 : ¬ n < 0) (h4 : sp.toNatClampNeg + n.toNatClampNeg ≤ n0) (h5 : dp.toNatClampNeg + n.toNatClampNeg ≤ n1) (hfit : ∀ i, i < n.toNatClampNeg → fits .byte (.int (f (sp.toNatClampNeg + i))) = true)
    (hframes : 1 ≤ R.frames) (hlocals : (rest.map fun v => v.category).sum + (nativeFrameWords "java/lang/System" "arraycopy" 5 + 11) ≤ R.locals) (hdg : decode cc pc = .ok (.invokestatic index, 3))
    (kk : ∀ (H1 : Heap) (locs1 : List Loc), va_P D cl (ws.set q1 (a, .inl (c1, n1, .inl (va_cpy f g sp.toNatClampNeg dp.toNatClampNeg n.toNatClampNeg)))) H1 → va_D A (ws.set q1 (a, .inl (c1, n1, .inl (va_cpy f g sp.toNatClampNeg dp.toNatClampNeg n.toNatClampNeg)))) → va_S A s.heap H1 locs1 → W p l e R s m args below meth c H1 locs1 cells slots Q (F0 m (pc + 3) ls rest)) : W p l e R s m args below meth c H locs cells slots Q (F0 m pc ls (.int n :: .int dp :: .ref a :: .int sp :: .ref b0 :: rest)) := by
  have nn : ∀ z : Int32, ¬ z < 0 → z.toInt = (z.toNatClampNeg : Int) := by
    intro z hz
    have hz0 : (0 : Int) ≤ z.toInt := by
      have := Int32.not_lt.mp hz
      simpa using Int32.le_iff_toInt_le.mp this
    show z.toInt = ((z.toInt.toNat : Nat) : Int)
    omega
  intro T hT X
  obtain ⟨scr, hs1, hs2, hs3, hs4, -, hs5, hbA⟩ := hX
  have hbl : b0 < s.heap.size := (Array.getElem?_eq_some_iff.mp hs1).1
  have hc0 : H[b0]? = some scr := by rw [hS.2.1 b0 hbl hbA]; exact hs1
  have hc1 : H[a]? = some (vp_cell c1 (n1, .inl g)) := hP q1 _ ha1
  obtain ⟨hs6, k0, hk0, cm0, hkk0⟩ := hs2
  obtain ⟨-, k1, hk1, cm1, hkk1⟩ := (hK.2 t1 _ ht1).1 n1 (fun j => .int (g j))
  obtain ⟨vm', X', step⟩ := X.arraycopy hexec hown hlink hnat hstat hini (src := b0) (dst := a) (cs := scr) (cd := vp_cell c1 (n1, .inl g)) (srcPos := sp) (destPos := dp) (n := n) (by rw [hT]; exact hc0) (by rw [hT]; exact hc1)
    hs6 (fun _ h => by cases h) hs3 (fun h => by cases h) hk0 hk1 hkk0 hkk1 (by simp [refKind]) h1 h2 h3
    (by rw [nn sp h1, nn n h3]; omega)
    (by rw [nn dp h2, nn n h3]; show ¬ _ > ((arrV c1 n1 (fun j => .int (g j))).slots.size : Int); rw [arrV_size]; omega)
    (fun vm₁ _ i hi => by
      have e : scr.slots.getD (sp.toNatClampNeg + i) .null = .int (f (sp.toNatClampNeg + i)) := by
        rw [Array.getD_eq_getD_getElem?, hs5 _ (by omega)]
        rfl
      refine ⟨?_, ?_⟩
      · rw [e]
        exact hfit i hi
      · rw [e]
        exact trivial)
    (g := F0 m pc ls (.int n :: .int dp :: .ref a :: .int sp :: .ref b0 :: rest)) rfl (by rw [hml]) (rest := rest) rfl (by rw [hb]; exact hdg) hframes (by show 2 * 0 + _ + _ ≤ _; omega)
  have e1 : copied scr (vp_cell c1 (n1, .inl g)) sp dp n = vp_cell c1 (n1, .inl (va_cpy f g sp.toNatClampNeg dp.toNatClampNeg n.toNatClampNeg)) := va_copiedX (fun z => .int z) scr c1 f g hs5 h4
  rw [e1] at X' step
  have hl : a < H.size := (Array.getElem?_eq_some_iff.mp hc1).1
  have hheap : ((T.setVm vm').setCell a (vp_cell c1 (n1, .inl (va_cpy f g sp.toNatClampNeg dp.toNatClampNeg n.toNatClampNeg)))).heap = H.setIfInBounds a (vp_cell c1 (n1, .inl (va_cpy f g sp.toNatClampNeg dp.toNatClampNeg n.toNatClampNeg))) := by rw [← hT]; rfl
  have oq : ∀ q : Nat, q ≠ a → (H.setIfInBounds a (vp_cell c1 (n1, .inl (va_cpy f g sp.toNatClampNeg dp.toNatClampNeg n.toNatClampNeg))))[q]? = H[q]? := fun q hq => by simp [Array.getElem?_setIfInBounds, Ne.symm hq]
  obtain ⟨t, a1, b1⟩ := kk _ _ (hP.set hD ha1 (show (H.setIfInBounds a _)[a]? = some _ by simp [Array.getElem?_setIfInBounds, hl]) oq) (hD.set ha1) ⟨by simp; exact hS.1, fun q g1 g2 => by
      rw [oq q (fun e => g2 (by rw [e]; exact hD.2 q1 _ ha1))]
      exact hS.2.1 q g1 g2, fun q hq => by
      rcases List.mem_append.mp hq with h | h
      · exact hS.2.2 q h
      · obtain ⟨z, -, hz⟩ := List.mem_map.mp h
        rw [← hz]
        exact hD.2 q1 _ ha1⟩ _ hheap X'
  exact ⟨t, step t a1, b1⟩
end
theorem gc_ok : Cond.native ⟨"java/lang/Object", "getClass", "()Ljava/lang/Class;"⟩ ∈ tbG ∧ Cond.instanceMethod ⟨"java/lang/Object", "getClass", "()Ljava/lang/Class;"⟩ ∈ tbG ∧ Cond.selects "[Ljava/lang/Object;" ⟨"java/lang/Object", "getClass", "()Ljava/lang/Class;"⟩ ⟨"java/lang/Object", "getClass", "()Ljava/lang/Class;"⟩ ∈ tbG := ⟨tbG_at (p := 1272) (by decide +kernel), tbG_at (p := 1251) (by decide +kernel), tbG_at (p := 1833) (by decide +kernel)⟩
theorem oi_ok : Cond.instanceMethod Lib.objectInit ∈ tbG ∧ Cond.code Lib.objectInit ⟨#[0xb1]⟩ 1 none ∈ tbG := ⟨tbG_at (p := 44) (by decide +kernel), tbG_at (p := 45) (by decide +kernel)⟩
theorem rf_tr (ad : Nat → Nat) (x : Nat) : (Value.ref (ad x) : Value) = va_rf (some (ad x)) := rfl
section
variable {M : MI} {Q : Res → PH → Prop} {Z : State → Prop} {p : Program} {l : Launch} {e : Env} {R : Room} {s : State} {m : MethodId} {args : Array Value} {below : List Frame} {meth : Method} {cc : Code} {ad : Nat → Nat} {cA : Nat → ClassId} {D : va_G} {A : Nat → Prop} {X : PH → va_W} {h0 : PH} {k : KT} {pc c : Nat} {ls : Lc} {st : List Value} {h : PH}
theorem cst_A (hKQ : KQ ad A s s.heap h0) (hMd : Md h0 h) {L : List Nat} (hKd : KdOk h L) {n : Nat} (hn : 32 ≤ qkd h n) : ¬ A (ad n) := by
  have hkq := (hKQ.of hMd hKd) n
  unfold kqF at hkq
  split at hkq
  · obtain ⟨-, ⟨_, -, -, -, q⟩, -⟩ := hkq; exact q
  · obtain ⟨-, _, -, -, -, -, -, -, q⟩ := hkq; exact q
  · obtain ⟨-, _, -, -, -, -, -, -, q⟩ := hkq; exact q
  · obtain ⟨-, _, -, -, -, -, -, -, q⟩ := hkq; exact q
  · omega
theorem bc_acmp (hC : Cb M Q Z p l e R s m args below meth cc ad cA D A X h0) (hk : ∀ pc c ls st h, k pc c ls st h → BtC M Z p l e R s m args below meth cc ad cA D A X h0 pc c ls st h) {cd : ACond} {off : Int} {t : Nat}
    (hd : decode M.b pc = .ok (.if_acmp cd off, 3)) (ht : (pc : Int) + off = (t : Int)) (hs : qacmp k pc t c cd ls st h) : BtC M Z p l e R s m args below meth cc ad cA D A X h0 pc c ls st h := by
  intro H locs cells slots lsA hW hl h1 h2 h3
  obtain ⟨⟨hx, hb, hml, hown, hts⟩, hK, hA, hKQ, hCQ, hX, hfl, hst, hroom, hnm0, hend⟩ := hC
  have hW0 := hW
  obtain ⟨L, hP, hD, hS, hKd, hMd, hLw⟩ := hW
  unfold qacmp at hs
  split at hs
  · rename_i y x r
    obtain ⟨hxy, hs⟩ := hs
    have inj : ad x = ad y → x = y := by
      intro ea
      rcases hxy with q | ⟨q1, q2, q3, q4⟩
      · exact q
      · exfalso
        have hn := cst_A hKQ hMd hKd q4
        apply hn
        rw [← ea]
        have q5 : qkd h x < 32 := by
          rcases hKd x q2 with ⟨-, -, z⟩ | ⟨z, -⟩
          · exact z
          · exact absurd q1 (Nat.not_le.mpr z)
        obtain ⟨i, hi⟩ := pq_get (X := X h) (ad := ad) (cA := cA) hKd q2 q5
        rw [ad_own hCQ q1]
        exact hD.2 i _ hi
    have go : ∀ pc' : Nat, k pc' c ls r h → W p l e R s m args below meth cc H locs cells slots Z (F0 m pc' lsA (r.map (tr ad))) := fun pc' h9 => hk _ _ _ _ _ h9 H locs cells slots lsA hW0 hl h1 h2 h3
    have e1 : ∀ {u v : Nat}, some (ad u) = some (ad v) → ad u = ad v := fun h => Option.some.inj h
    cases cd
    · exact lv_acmp_eq (rx := some (ad x)) (ry := some (ad y)) hx hb hd ht (fun q => go _ (hs.1 (inj (e1 q)))) (fun q => go _ (hs.2 (fun z => q (by rw [z]))))
    · exact lv_acmp_ne (rx := some (ad x)) (ry := some (ad y)) hx hb hd ht (fun q => go _ (hs.1 (fun z => q (by rw [z])))) (fun q => go _ (hs.2 (inj (e1 q))))
  · cases hs
theorem bc_nat (hC : Cb M Q Z p l e R s m args below meth cc ad cA D A X h0) (hk : ∀ pc c ls st h, k pc c ls st h → BtC M Z p l e R s m args below meth cc ad cA D A X h0 pc c ls st h) {idx kind : Nat} (hR : 1 ≤ M.fr ∧ 60 ≤ M.lo)
    (hd : match kind with
      | 17 => decode M.b pc = .ok (.invokevirtual idx, 3)
      | 18 => decode M.b pc = .ok (.invokespecial idx, 3)
      | _ => decode M.b pc = .ok (.invokestatic idx, 3))
    (hw : match kind with
      | 10 => Cond.methodLink M.y.cls idx Lib.Math.min.name ∈ tbG
      | 11 => Cond.methodLink M.y.cls idx Lib.Math.max.name ∈ tbG
      | 12 => Cond.methodLink M.y.cls idx Lib.Math.abs.name ∈ tbG
      | 15 => Cond.methodLink M.y.cls idx arraycopyName ∈ tbG
      | 16 => Cond.methodLink M.y.cls idx arraycopyName ∈ tbG
      | 17 => Cond.methodLink M.y.cls idx ⟨"java/lang/Object", "getClass", "()Ljava/lang/Class;"⟩ ∈ tbG
      | _ => Cond.methodLink M.y.cls idx Lib.objectInit ∈ tbG)
    (hs : qnat k pc kind c ls st h) : BtC M Z p l e R s m args below meth cc ad cA D A X h0 pc c ls st h := by
  intro H locs cells slots lsA hW hl h1 h2 h3
  obtain ⟨⟨hx, hb, hml, hown, hts⟩, hK, hA, hKQ, hCQ, hX, hfl, hst, ⟨r1, r2, r3, r4⟩, hnm0, hend⟩ := hC
  have hW0 := hW
  obtain ⟨L, hP, hD, hS, hKd, hMd, hLw⟩ := hW
  have hsz : cc.maxLocals = lsA.size := hml.trans hl.1.symm
  have go : ∀ (st' : List Value), k (pc + 3) c ls st' h → W p l e R s m args below meth cc H locs cells slots Z (F0 m (pc + 3) lsA (st'.map (tr ad))) := fun st' h9 => hk _ _ _ _ _ h9 H locs cells slots lsA hW0 hl h1 h2 h3
  have own : ∀ n t, qkd h n = 16 + t → t < 16 → ad n = dq n := fun n t ht h16 => ad_own hCQ (hKd.own (by omega) (by omega)).1
  unfold qnat at hs
  match kind, hd, hw, hs with
  | 10, hd, hw, hs =>
    simp only at hs
    split at hs
    · rename_i y x r _
      obtain ⟨h8, hs⟩ := cat8_of hs
      exact va_mmin hx hb hsz hown (hts _ hw) (hts _ mm_min.1) (hts _ mm_min.2.1) (hts _ mm_min.2.2) (by omega) (by rw [cat_tr]; omega) (by omega) (by omega) hd (go _ hs)
    · cases hs
  | 11, hd, hw, hs =>
    simp only at hs
    split at hs
    · rename_i y x r _
      obtain ⟨h8, hs⟩ := cat8_of hs
      exact va_mmax hx hb hsz hown (hts _ hw) (hts _ mm_max.1) (hts _ mm_max.2.1) (hts _ mm_max.2.2) (by omega) (by rw [cat_tr]; omega) (by omega) (by omega) hd (go _ hs)
    · cases hs
  | 12, hd, hw, hs =>
    simp only at hs
    split at hs
    · rename_i x r _
      obtain ⟨h8, hs⟩ := cat8_of hs
      exact va_mabs hx hb hsz hown (hts _ hw) (hts _ mm_abs.1) (hts _ mm_abs.2.1) (hts _ mm_abs.2.2) (by omega) (by rw [cat_tr]; omega) (by omega) (by omega) hd (go _ hs)
    · cases hs
  | 15, hd, hw, hs =>
    simp only at hs
    split at hs
    · rename_i n dp b sp a r _
      obtain ⟨h8, hs⟩ := cat8_of hs
      obtain ⟨⟨ka, kb⟩, ⟨u1, u2, u3, u4, u5⟩, hfit, hs⟩ := hs
      obtain ⟨-, -, ib, hib⟩ := arr_at (X := X) (ad := ad) (cA := cA) hKd (t := 1) kb (by decide)
      have hib0 : (X h ++ pq ad cA h L)[ib]? = some (dq b, celQ ad cA h b) := by rw [hib, celQ_ar (t := 1) kb]
      have fin : ∀ (H1 : Heap) (locs1 : List Loc), va_P D pmCl ((X h ++ pq ad cA h L).set ib (dq b, .inl (cA 1, qln h b, .inl (va_cpy (h.1 a) (h.1 b) sp.toNatClampNeg dp.toNatClampNeg n.toNatClampNeg)))) H1 → va_D A ((X h ++ pq ad cA h L).set ib (dq b, .inl (cA 1, qln h b, .inl (va_cpy (h.1 a) (h.1 b) sp.toNatClampNeg dp.toNatClampNeg n.toNatClampNeg)))) → va_S A s.heap H1 locs1 → W p l e R s m args below meth cc H1 locs1 cells slots Z (F0 m (pc + 3) lsA (r.map (tr ad))) := by
        intro H1 locs1 hP1 hD1 hS1
        refine hk _ _ _ _ _ hs H1 locs1 cells slots lsA (WL.set hX hKd hMd hLw (by omega) (by omega) hD hib0 (Oth.cpi h a sp.toNatClampNeg b dp.toNatClampNeg n.toNatClampNeg) rfl ?_ hP1 hD1 hS1) hl h1 h2 h3
        rw [celQ_ar (h := cpi h a sp.toNatClampNeg b dp.toNatClampNeg n.toNatClampNeg) (t := 1) kb]
        show _ = Sum.inl (cA 1, qln h b, Sum.inl (if b = b then va_cpy (h.1 a) (h.1 b) sp.toNatClampNeg dp.toNatClampNeg n.toNatClampNeg else h.1 b))
        rw [if_pos rfl]
      show W p l e R s m args below meth cc H locs cells slots Z (F0 m pc lsA (.int n :: .int dp :: .ref (ad b) :: .int sp :: .ref (ad a) :: r.map (tr ad)))
      rw [own b 1 kb (by decide)]
      rcases ka with ka | ka
      · obtain ⟨-, -, ia, hia⟩ := arr_at (X := X) (ad := ad) (cA := cA) hKd (t := 1) ka (by decide)
        rw [own a 1 ka (by decide)]
        exact va_copyi hx hb hsz hown (hts _ hw) (hts _ mm_cpy.1) (hts _ mm_cpy.2.1) (hts _ mm_cpy.2.2) hK hP hD hS ia ib 1 1 hia hib rfl rfl rfl u1 u2 u3 u4 u5 hfit (by omega) (by rw [cat_tr, nfw7]; omega) hd fin
      · exact cpy_cst hx hb hsz hown (hts _ hw) (hts _ mm_cpy.1) (hts _ mm_cpy.2.1) (hts _ mm_cpy.2.2) hK hP hD hS ((cst_T hKQ hMd hKd a).2.1 ka) ib 1 hib rfl u1 u2 u3 u4 u5 hfit (by omega) (by rw [cat_tr, nfw7]; omega) hd fin
    · cases hs
  | 16, hd, hw, hs =>
    simp only at hs
    split at hs
    · rename_i n dp b sp a r _
      obtain ⟨h8, hs⟩ := cat8_of hs
      obtain ⟨⟨ka, kb⟩, ⟨u1, u2, u3, u4, u5⟩, ⟨g, hg, hel⟩, hs⟩ := hs
      obtain ⟨-, -, ia, hia⟩ := arr_at (X := X) (ad := ad) (cA := cA) hKd (t := 7) ka (by decide)
      obtain ⟨-, -, ib, hib⟩ := arr_at (X := X) (ad := ad) (cA := cA) hKd (t := 7) kb (by decide)
      have hib0 : (X h ++ pq ad cA h L)[ib]? = some (dq b, celQ ad cA h b) := by rw [hib, celQ_ar (t := 7) kb]
      have ec : va_cpy (fun j => (h.2.2.1 a j).map ad) (fun j => (h.2.2.1 b j).map ad) sp.toNatClampNeg dp.toNatClampNeg n.toNatClampNeg = fun j => ((cpr h a sp.toNatClampNeg b dp.toNatClampNeg n.toNatClampNeg).2.2.1 b j).map ad := by
        funext j
        show _ = ((if b = b then va_cpy (h.2.2.1 a) (h.2.2.1 b) sp.toNatClampNeg dp.toNatClampNeg n.toNatClampNeg else h.2.2.1 b) j).map ad
        rw [if_pos rfl]
        unfold va_cpy
        split <;> rfl
      show W p l e R s m args below meth cc H locs cells slots Z (F0 m pc lsA (.int n :: .int dp :: .ref (ad b) :: .int sp :: .ref (ad a) :: r.map (tr ad)))
      rw [own b 7 kb (by decide), own a 7 ka (by decide)]
      refine va_copyq (C := if g = 1 then RX12 else "[I") hx hb hsz hown (hts _ hw) (hts _ mm_cpy.1) (hts _ mm_cpy.2.1) (hts _ mm_cpy.2.2) hK hP hD hS ia ib 7 7 hia hib rfl rfl u1 u2 u3 u4 u5 ?_ (cls_asg hCQ hg) (by omega) (by rw [cat_tr, nfw7]; omega) hd ?_
      · intro i hi y hy
        have hy2 : (gr h a (sp.toNatClampNeg + i)).map ad = some y := hy
        cases hz : gr h a (sp.toNatClampNeg + i) with
        | none => rw [hz] at hy2; cases hy2
        | some z =>
          rw [hz] at hy2
          cases hy2
          exact cls_own (X := X) hK hCQ hKd hP hg (hel i hi z hz)
      · intro H1 locs1 hP1 hD1 hS1
        refine hk _ _ _ _ _ hs H1 locs1 cells slots lsA (WL.set hX hKd hMd hLw (by omega) (by omega) hD hib0 (Oth.cpr h a sp.toNatClampNeg b dp.toNatClampNeg n.toNatClampNeg) rfl ?_ hP1 hD1 hS1) hl h1 h2 h3
        rw [celQ_ar (h := cpr h a sp.toNatClampNeg b dp.toNatClampNeg n.toNatClampNeg) (t := 7) kb, ec]
        rfl
    · cases hs
  | 17, hd, hw, hs =>
    simp only at hs
    split at hs
    · rename_i a r _
      obtain ⟨h8, hs⟩ := cat8_of hs
      obtain ⟨ka, hs⟩ := hs
      obtain ⟨-, -, ia, hia⟩ := arr_at (X := X) (ad := ad) (cA := cA) hKd (t := 7) ka (by decide)
      show W p l e R s m args below meth cc H locs cells slots Z (F0 m pc lsA (.ref (ad a) :: r.map (tr ad)))
      rw [own a 7 ka (by decide)]
      exact va_getC hx hb hsz hown (hts _ hw) (va_Nw.use rfl (hCQ.2.1 _ (by decide +kernel))) (hts _ gc_ok.2.2) (hts _ gc_ok.2.1) (hts _ gc_ok.1) hCQ.2.2.2.2.2.2.1 ⟨_, hP ia _ hia, rfl, cA_nameO hK (t := 7) rfl⟩ (by omega) (by rw [cat_tr]; omega) hd (go _ hs)
    · cases hs
  | 18, hd, hw, hs =>
    simp only at hs
    split at hs
    · rename_i a r _
      obtain ⟨h8, hs⟩ := cat8_of hs
      exact W.objInit hx hb hown (hts _ hw) (hts _ oi_ok.1) (hts _ oi_ok.2) (g := F0 m pc lsA ((Value.ref a :: r).map (tr ad))) rfl hsz.symm rfl hd (by omega) (by show 2 * 0 + _ + 12 ≤ _; rw [cat_tr]; omega) (go _ hs)
    · cases hs
  | 0, _, _, hs => exact hs.elim
  | 1, _, _, hs => exact hs.elim
  | 2, _, _, hs => exact hs.elim
  | 3, _, _, hs => exact hs.elim
  | 4, _, _, hs => exact hs.elim
  | 5, _, _, hs => exact hs.elim
  | 6, _, _, hs => exact hs.elim
  | 7, _, _, hs => exact hs.elim
  | 8, _, _, hs => exact hs.elim
  | 9, _, _, hs => exact hs.elim
  | 13, _, _, hs => exact hs.elim
  | 14, _, _, hs => exact hs.elim
  | _ + 19, _, _, hs => exact hs.elim
end
end
section
/-! ===== the law's calls ===== -/
/-- what a method of the law, called, leaves as it is -/
def FrM (M' : MI) (h h' : PH) : Prop := match flQ M' with
  | true => Md h h'
  | false => Lw h h'
/-- a receiver's kind: 3 also a constant String -/
def rcvQ (h : PH) (b rc : Nat) : Prop := qkd h b = rc ∨ (rc = 3 ∧ qkd h b = 35)
/-- a call: 0 a method of the receiver's own class, 1 static, 2 static of a nest mate, 3 a constructor, 4 one of a nest mate, 5 inherited, 6 by super, 7 by an interface, 9 a public method of the class -/
def qcal (mq mp : MI → List Value → PH → (Res → PH → Prop) → Prop) (M : MI) (k : KT) (pc : Nat) (M' : MI) (kind n rt rc mcv : Nat) (c : Nat) (ls : Lc) (st : List Value) (h : PH) : Prop := match kind with
  | 1 => len9 n st <| cat8 (st.drop n) <| capk c mcv M.cap (mq M' (st.take n).reverse h (conk rt (fun _ _ => False) (fun vs h' => FrM M' h h' → k (pc + 3) (c + mcv) ls (vs ++ st.drop n) h')))
  | 2 => len9 n st <| cat8 (st.drop n) <| capk c mcv M.cap (mq M' (st.take n).reverse h (conk rt (fun _ _ => False) (fun vs h' => FrM M' h h' → k (pc + 3) (c + mcv) ls (vs ++ st.drop n) h')))
  | 7 => match st.drop n with
    | .ref b :: rest => rcvQ h b rc ∧ (cat8 rest <| capk c mcv M.cap (mq M' (.ref b :: (st.take n).reverse) h (conk rt (fun _ _ => False) (fun vs h' => FrM M' h h' → k (pc + 5) (c + mcv) ls (vs ++ rest) h'))))
    | _ => False
  | 9 => match st.drop n with
    | .ref b :: rest => b = 0 ∧ (cat8 rest <| capk c mcv M.cap (mp M' (.ref b :: (st.take n).reverse) h (conk rt (fun _ _ => False) (fun vs h' => Hi h h' → k (pc + 3) (c + mcv) ls (vs ++ rest) h'))))
    | _ => False
  | 3 => match st.drop n with
    | .ref b :: rest => cat8 rest <| capk c mcv M.cap (mq M' (.ref b :: (st.take n).reverse) h (conk rt (fun _ _ => False) (fun vs h' => FrM M' h h' → k (pc + 3) (c + mcv) ls (vs ++ rest) h')))
    | _ => False
  | 4 => match st.drop n with
    | .ref b :: rest => cat8 rest <| capk c mcv M.cap (mq M' (.ref b :: (st.take n).reverse) h (conk rt (fun _ _ => False) (fun vs h' => FrM M' h h' → k (pc + 3) (c + mcv) ls (vs ++ rest) h')))
    | _ => False
  | _ => match st.drop n with
    | .ref b :: rest => rcvQ h b rc ∧ (cat8 rest <| capk c mcv M.cap (mq M' (.ref b :: (st.take n).reverse) h (conk rt (fun _ _ => False) (fun vs h' => FrM M' h h' → k (pc + 3) (c + mcv) ls (vs ++ rest) h'))))
    | _ => False
/-- the tables know the method: 0 of an object, 1 static, 2 a constructor, 4 of an object, in a class above, 5 static, of the law, with calls of the class -/
def MOQ (M : MI) : Prop := headM M ∈ tbG ∧ Cond.initialized M.y.cls ∈ tbG ∧ plainName M.y.cls = true ∧ M.hh = [] ∧ (match M.sk with
  | 0 => Cond.instanceMethod M.y ∈ tbG ∧ Cond.selects M.y.cls M.y M.y ∈ tbG
  | 1 => Cond.static M.y ∈ tbG
  | 2 => Cond.instanceMethod M.y ∈ tbG ∧ M.y.name = "<init>" ∧ M.ret = none
  | 4 => Cond.instanceMethod M.y ∈ tbG
  | 5 => Cond.static M.y ∈ tbG
  | _ => False)
theorem MOQ.good {M : MI} (h : MOQ M) : GoodIn tbG (wsM M) := by
  intro w hw
  rcases List.mem_cons.mp hw with rfl | hw
  · exact tbG_good _ h.1
  · exact tbG_good _ hw
theorem MOQ.head {M : MI} (h : MOQ M) : headM M = Cond.code M.y M.b M.nl M.ret := by
  unfold headM; rw [h.2.2.2.1]
/-- a run of len bytes of code, of a call -/
def RunQ (p : Program) (l : Launch) (e : Env) (R : Room) (s : State) (m : MethodId) (args : Array Value) (below : List Frame) (meth : Method) (c : Code) (H : Heap) (locs : List Loc) (cells slots mc ms len : Nat) (g : JFrame) (rest : List Value) (Qa : State → Outcome → State → Prop) (free : Addr → Prop) : Prop :=
  ∀ T : State, T.heap = H → Stand p l e R s m args below meth c T locs cells slots → ∃ (v : Option Value) (st₀ t T' : State) (L : List Loc), st₀.heap = H ∧ Stand p l e R s m args below meth c T' (locs ++ L) (cells + mc) (slots + ms) ∧ (∀ q ∈ L, free q.base) ∧ T'.heap = t.heap ∧ T'.vm = t.vm ∧ Qa st₀ (.returned v) t ∧
    Goes p e below T g T' { g with pc := g.pc + len, stack := v.toList ++ rest }
/-- the classes of receivers -/
def rcN (rc : Nat) : String := match rc with
  | 1 => RX12
  | 2 => RX13
  | 3 => "java/lang/String"
  | 4 => "java/lang/StringBuilder"
  | 5 => RJx4a65c
  | 6 => RJx35411
  | _ => ""
section
variable {M : MI} {Q : Res → PH → Prop} {Z : State → Prop} {p : Program} {l : Launch} {e : Env} {R : Room} {s : State} {m : MethodId} {args : Array Value} {below : List Frame} {meth : Method} {cc : Code} {ad : Nat → Nat} {cA : Nat → ClassId} {D : va_G} {A : Nat → Prop} {X : PH → va_W} {h0 : PH} {k : KT} {pc c : Nat} {ls : Lc} {st : List Value} {h : PH}
theorem frQ_sub {L : List Nat} {H : Heap} {locs : List Loc} (hA : ∀ q, s.heap.size ≤ q → A q) (hD : va_D A (X h ++ pq ad cA h L)) (hS : va_S A s.heap H locs) : ∀ q, frQ (X h) L H.size q → A q := by
  intro q hq
  rcases hq with ⟨i, e9, hi⟩ | hq | hq
  · exact hD.2 i (q, e9) ((List.getElem?_append_left (List.getElem?_eq_some_iff.mp hi).1).trans hi)
  · obtain ⟨i, hi⟩ := va_pl_get (X := X h) (f := fun a => celQ ad cA h (uq a)) hq
    exact hD.2 i _ hi
  · exact hA q (Nat.le_trans hS.1 hq)
/-- the caller's world is a callee's start -/
theorem pcq_start {M' : MI} (hfm : flQ M' = true → flQ M = true) (hC : Cb M Q Z p l e R s m args below meth cc ad cA D A X h0) {H : Heap} {locs : List Loc} {L : List Nat} (hP : va_P D pmCl (X h ++ pq ad cA h L) H) (hD : va_D A (X h ++ pq ad cA h L)) (hS : va_S A s.heap H locs) (hKd : KdOk h L) (hMd : Md h0 h) {As : List Value} : PreS s H (va_Pc (As.map (tr ad)) (PcQ (flQ M') ad cA D X L H.size h)) (As.map (tr ad)) := by
  obtain ⟨⟨hx, hb, hml, hown, hts⟩, hK, hA, hKQ, hCQ, hX, hfl, hst, hroom, hnm, hend⟩ := hC
  have hsub := frQ_sub hA hD hS
  refine ⟨fun a U g mk hq => ?_, fun U hU hWU => ⟨rfl, ?_⟩⟩
  · obtain ⟨q0, q1, q2, q3, q4, q5, q6, q7, q8⟩ := hq
    refine ⟨q0, q1, q2, va_K.moved (u := U) (U := U.calling g mk a) (Vm.Alike.refl U.vm) q3, q4, q5, q6.moved (u := U) (U := U.calling g mk a) (Vm.Alike.refl U.vm), q7.same (u := U) (U := U.calling g mk a) rfl, fun z => ?_⟩
    obtain ⟨r1, r2, r3⟩ := q8 z
    exact ⟨r1, r2.moved (u := U) (U := U.calling g mk a) (Vm.Alike.refl U.vm), r3.same (u := U) (U := U.calling g mk a) rfl⟩
  · have hvm := hWU.alike
    refine ⟨by rw [hU], by rw [hU]; exact hP, va_K.moved hvm hK, hD.weaken (fun _ _ _ _ => trivial), hKd, ?_, ?_, fun z => ?_⟩
    · rw [hU]
      exact (((hKQ.of hMd hKd).kept (fun a h1 h2 => hS.2.1 a h1 h2)).moved hvm).narrow hsub
    · rw [hU]
      exact ((hCQ.kept (fun a h1 h2 => hS.2.1 a h1 h2)).moved hWU).narrow hsub
    · obtain ⟨r1, r2, r3⟩ := hfl (hfm z)
      refine ⟨r1, ?_, r3.warm hWU⟩
      rw [hU]
      exact ((r2.kept (fun a h1 h2 => hS.2.1 a h1 h2)).moved hvm).narrow hsub
theorem wdX_addr {h h' : PH} {i : Nat} {q : Nat × va_E} (hq : (wd ad cA h')[i]? = some q) : ∃ e, (wd ad cA h)[i]? = some (q.1, e) := by
  have hi : i < NK := by
    have := (List.getElem?_eq_some_iff.mp hq).1
    simpa [wd] using this
  rw [wd_get hi] at hq
  cases hq
  exact ⟨_, wd_get hi⟩
/-- behind a call of the law -/
theorem bc_run {M' : MI} {Q' : Res → PH → Prop} {rest st0 : List Value} {lsA : Array Slot} {a : Array Value} {len : Nat} {H : Heap} {locs : List Loc} {cells slots : Nat} {L : List Nat} (hfm : flQ M' = true → flQ M = true) (hC : Cb M Q Z p l e R s m args below meth cc ad cA D A X h0)
    (hP : va_P D pmCl (X h ++ pq ad cA h L) H) (hD : va_D A (X h ++ pq ad cA h L)) (hS : va_S A s.heap H locs) (hKd : KdOk h L) (hMd : Md h0 h) (hLw : flQ M = false → Lw h0 h)
    (hr : RunQ p l e R s m args below meth cc H locs cells slots M'.cap (12 * M'.cap) len (F0 m pc lsA st0) rest (QcQ (flQ M') ad cA D X L H.size h Q' a) (frQ (X h) L H.size))
    (kk : ∀ (v : Option Value) (h' : PH) (H1 : Heap) (locs1 : List Loc), Q' (.inl v) h' → FrM M' h h' → WL (flQ M) ad cA D X h0 A h' s s.heap H1 locs1 → W p l e R s m args below meth cc H1 locs1 (cells + M'.cap) (slots + 12 * M'.cap) Z (F0 m (pc + len) lsA ((v.map (tr ad)).toList ++ rest))) :
    W p l e R s m args below meth cc H locs cells slots Z (F0 m pc lsA st0) := by
  obtain ⟨⟨hx, hb, hml, hown, hts⟩, hK, hA, hKQ, hCQ, hX, hfl, hst, hroom, hnm, hend⟩ := hC
  have hsub := frQ_sub hA hD hS
  intro T hT XX
  obtain ⟨v, st₀, t, T', L9, h09, X', hL, e1, e2, ⟨⟨v', h', L', hv, hq, hP1, hD1, hsubL, hKd1, hMd1, hLw1⟩, hz, hF⟩, sg⟩ := hr T hT XX
  cases hv
  rw [h09] at hz hF
  have hDA : va_D A (X h' ++ pq ad cA h' L') := by
    refine hD1.weaken ?_
    intro i q hq _
    rcases Nat.lt_or_ge i (X h').length with w | w
    · rw [List.getElem?_append_left w] at hq
      cases hf : flQ M' with
      | false =>
        rw [hX _ _ (hLw1 hf)] at hq
        exact hD.2 i q (by rw [List.getElem?_append_left (List.getElem?_eq_some_iff.mp hq).1]; exact hq)
      | true =>
        have eX := (hfl (hfm hf)).1
        rw [eX] at hq hD
        obtain ⟨e9, he9⟩ := wdX_addr (h := h) hq
        exact hD.2 i (q.1, e9) (by rw [List.getElem?_append_left (List.getElem?_eq_some_iff.mp he9).1]; exact he9)
    · rw [List.getElem?_append_right w] at hq
      have hm : q.1 ∈ L' := by
        have hm := List.mem_of_getElem? hq
        unfold pq va_pl at hm
        obtain ⟨b, hb1, hb2⟩ := List.mem_map.mp hm
        rw [← hb2]; exact hb1
      exact hsub _ (Or.inr (hsubL _ hm))
  have hS1 : va_S A s.heap T'.heap (locs ++ L9) := ⟨Nat.le_trans hS.1 (by rw [e1]; exact hz), fun q h1 h2 => by rw [e1, hF q (Nat.lt_of_lt_of_le h1 hS.1) (fun z => h2 (hsub q z))]; exact hS.2.1 q h1 h2, fun q hq => by
      rcases List.mem_append.mp hq with h9 | h9
      · exact hS.2.2 q h9
      · exact hsub _ (hL q h9)⟩
  have hFr : FrM M' h h' := by
    unfold FrM
    cases hf : flQ M' with
    | true => exact hMd1
    | false => exact hLw1 hf
  have hlw : flQ M = false → Lw h0 h' := fun z => (hLw z).trans (hLw1 (by
    cases hf : flQ M' with
    | false => rfl
    | true => rw [hfm hf] at z; cases z))
  obtain ⟨t2, a1, b1⟩ := kk v' h' T'.heap (locs ++ L9) hq hFr ⟨L', by rw [e1]; exact hP1, hDA, hS1, hKd1, hMd.trans hMd1, hlw⟩ T' rfl X'
  exact ⟨t2, sg t2 a1, b1⟩
/-- a receiver of the law's own, or a constant String -/
theorem rcv_at {L : List Nat} {H : Heap} {locs : List Loc} (hK : va_K D pmCl (pmTy cA) s) (hKQ : KQ ad A s s.heap h0) (hCQ : CQ ad A s s.heap) (hMd : Md h0 h) (hKd : KdOk h L) (hP : va_P D pmCl (X h ++ pq ad cA h L) H) (hS : va_S A s.heap H locs) {b rc : Nat} (h1 : 1 ≤ rc) (h6 : rc ≤ 6) (hb : rcvQ h b rc) : ∃ cell : Cell, H[ad b]? = some cell ∧ cell.vm.isStatics = false ∧ s.vm.findClass (rcN rc) = some cell.cls := by
  rcases hb with hb | ⟨rfl, hb⟩
  · obtain ⟨i, hi⟩ := pq_get (X := X h) (ad := ad) (cA := cA) hKd (n := b) (by omega) (by omega)
    rw [celQ_ob (ci := rc + 8) (by omega) (by omega)] at hi
    rw [ad_own hCQ (hKd.own (n := b) (by omega) (by omega)).1]
    match rc, h1, h6, hi with
    | 1, _, _, hi => exact va_recv hK hP (ci := 9) (q := (RX12, TX12, 6)) rfl hi
    | 2, _, _, hi => exact va_recv hK hP (ci := 10) (q := (RX13, TX13, 28)) rfl hi
    | 3, _, _, hi => exact va_recv hK hP (ci := 11) (q := ("java/lang/String", TJ0, 4)) rfl hi
    | 4, _, _, hi => exact va_recv hK hP (ci := 12) (q := ("java/lang/StringBuilder", TJ4, 4)) rfl hi
    | 5, _, _, hi => exact va_recv hK hP (ci := 13) (q := (RJx4a65c, TJx4a65c, 3)) rfl hi
    | 6, _, _, hi => exact va_recv hK hP (ci := 14) (q := (RJx35411, TJx35411, 4)) rfl hi
    | n + 7, _, h6, _ => exact absurd h6 (by omega)
  · have hkq := (hKQ.of hMd hKd) b
    unfold kqF at hkq
    rw [hb] at hkq
    exact va_Orecv hkq.2.1 hS
end
end
section
/-! ===== the law's calls: sound ===== -/
theorem Hi.kd {x y : PH} (a : Hi x y) (n : Nat) : qkd y n = qkd x n := by
  unfold qkd
  split
  · rfl
  · rename_i hb
    rw [(a n (by
      rcases Nat.lt_or_ge n 1000 with q | q
      · rw [Nat.blt_eq.mpr q] at hb; cases hb
      · exact q)).2.2.2]
theorem va_D_addr {A : Nat → Prop} {ws ws' : va_W} (h : va_D A ws) (he : ∀ (i : Nat) (q : Nat × va_E), ws'[i]? = some q → ∃ e, ws[i]? = some (q.1, e)) : va_D A ws' := by
  refine ⟨fun i j x y hi hj hxy => ?_, fun i q hq => ?_⟩
  · obtain ⟨e1, h1⟩ := he i x hi
    obtain ⟨e2, h2⟩ := he j y hj
    exact h.1 i j _ _ h1 h2 hxy
  · obtain ⟨e1, h1⟩ := he i q hq
    exact h.2 i (q.1, e1) h1
theorem pq_hi {ad : Nat → Nat} {cA : Nat → ClassId} {h h' : PH} {L : List Nat} (a : Hi h h') : pq ad cA h' L = pq ad cA h L := by
  unfold pq va_pl
  exact List.map_congr_left fun b _ => Prod.ext rfl (celQ_eq (a (uq b) (uq_hi b)))
section
variable {M : MI} {Q : Res → PH → Prop} {Z : State → Prop} {p : Program} {l : Launch} {e : Env} {R : Room} {s : State} {m : MethodId} {args : Array Value} {below : List Frame} {meth : Method} {cc : Code} {ad : Nat → Nat} {cA : Nat → ClassId} {D : va_G} {A : Nat → Prop} {X : PH → va_W} {h0 : PH} {k : KT} {pc c : Nat} {ls : Lc} {st : List Value} {h : PH}
/-- the caller's world is the start of a method of the class -/
theorem pcm_start (hfl : flQ M = true) (hC : Cb M Q Z p l e R s m args below meth cc ad cA D A X h0) {H : Heap} {locs : List Loc} {L : List Nat} (hP : va_P D pmCl (X h ++ pq ad cA h L) H) (hD : va_D A (X h ++ pq ad cA h L)) (hS : va_S A s.heap H locs) {As : List Value} : PreS s H (va_Pc (As.map (tr ad)) (PcM ad cA D h 0 H.size h)) (As.map (tr ad)) := by
  obtain ⟨⟨hx, hb, hml, hown, hts⟩, hK, hA, hKQ, hCQ, hX, hfX, hst, hroom, hnm, hend⟩ := hC
  obtain ⟨rfl, hCF, hxw⟩ := hfX hfl
  have hsub : ∀ q, adA ad H.size q → A q := by
    intro q hq
    refine frQ_sub (L := L) hA hD hS q ?_
    rcases hq with ⟨a, ha, rfl⟩ | hq
    · exact Or.inl ⟨a, _, wd_get ha⟩
    · exact Or.inr (Or.inr hq)
  refine ⟨fun a U g mk hq => ?_, fun U hU hWU => ⟨rfl, ?_⟩⟩
  · obtain ⟨q0, q1, q2, q3, q4, q5, q6, q7⟩ := hq
    exact ⟨q0, q1, q2, va_K.moved (u := U) (U := U.calling g mk a) (Vm.Alike.refl U.vm) q3, q4, q5, (q6.moved (u := U) (U := U.calling g mk a) (Vm.Alike.refl U.vm)), q7.same (u := U) (U := U.calling g mk a) rfl⟩
  · refine ⟨by rw [hU], ?_, va_K.moved hWU.alike hK, ?_, fun _ _ => ⟨rfl, rfl, rfl, rfl⟩, ?_, hxw.warm hWU⟩
    · rw [hU]
      exact fun i q hq => hP i q (by rw [List.getElem?_append_left (List.getElem?_eq_some_iff.mp hq).1]; exact hq)
    · exact va_D.weaken (A := A) ⟨fun i j x y hi hj hxy => hD.1 i j x y (by rw [List.getElem?_append_left (List.getElem?_eq_some_iff.mp hi).1]; exact hi) (by rw [List.getElem?_append_left (List.getElem?_eq_some_iff.mp hj).1]; exact hj) hxy, fun i q hq => hD.2 i q (by rw [List.getElem?_append_left (List.getElem?_eq_some_iff.mp hq).1]; exact hq)⟩ (fun _ _ _ _ => trivial)
    · rw [hU]
      exact ((hCF.kept (fun a h1 h2 => hS.2.1 a h1 h2)).moved hWU.alike).narrow hsub
theorem bc_runC {M' : MI} {Q' : Res → PH → Prop} {rest st0 : List Value} {lsA : Array Slot} {a : Array Value} {H : Heap} {locs : List Loc} {cells slots : Nat} {L : List Nat} (hfl : flQ M = true) (hC : Cb M Q Z p l e R s m args below meth cc ad cA D A X h0)
    (hP : va_P D pmCl (X h ++ pq ad cA h L) H) (hD : va_D A (X h ++ pq ad cA h L)) (hS : va_S A s.heap H locs) (hKd : KdOk h L) (hMd : Md h0 h)
    (hr : vx_Run p l e R s m args below meth cc H locs cells slots M'.cap (6 * M'.cap) (F0 m pc lsA st0) rest (QcM ad cA D h 0 H.size Q' a) (XcM ad cA D h 0 H.size Q') (adA ad H.size)) (hno : ∀ x h', ¬ Q' (.inr x) h')
    (kk : ∀ (v : Option Value) (h' : PH) (H1 : Heap) (locs1 : List Loc), Q' (.inl v) h' → Hi h h' → WL (flQ M) ad cA D X h0 A h' s s.heap H1 locs1 → W p l e R s m args below meth cc H1 locs1 (cells + M'.cap) (slots + 6 * M'.cap) Z (F0 m (pc + 3) lsA ((v.map (tr ad)).toList ++ rest))) :
    W p l e R s m args below meth cc H locs cells slots Z (F0 m pc lsA st0) := by
  obtain ⟨⟨hx, hb, hml, hown, hts⟩, hK, hA, hKQ, hCQ, hX, hfX, hst, hroom, hnm, hend⟩ := hC
  obtain ⟨rfl, hCF, hxw⟩ := hfX hfl
  have hsub : ∀ q, adA ad H.size q → A q := by
    intro q hq
    refine frQ_sub (L := L) hA hD hS q ?_
    rcases hq with ⟨a, ha, rfl⟩ | hq
    · exact Or.inl ⟨a, _, wd_get ha⟩
    · exact Or.inr (Or.inr hq)
  intro T hT XX
  rcases hr T hT XX with ⟨v, st₀, t, T', L9, h09, X', hL, e1, e2, ⟨⟨v', h', hv, hq, hP1, hD1, hHi⟩, hz, hF⟩, sg⟩ | ⟨q, st₀, t, T', L', E, ce, h0', X', hL, e1, e2, ⟨⟨x, h', hE, hq, hP⟩, hF⟩, hce, hcv, hcl, sg⟩
  · cases hv
    rw [h09] at hz hF
    have hHi : Hi h h' := hHi
    have hlen : (wd ad cA h').length = (wd ad cA h).length := by simp [wd]
    have hDA : va_D A (wd ad cA h' ++ pq ad cA h' L) := by
      refine va_D_addr hD ?_
      intro i q hq
      rcases Nat.lt_or_ge i (wd ad cA h').length with w | w
      · rw [List.getElem?_append_left w] at hq
        obtain ⟨e9, he9⟩ := wdX_addr (h := h) hq
        exact ⟨e9, by rw [List.getElem?_append_left (List.getElem?_eq_some_iff.mp he9).1]; exact he9⟩
      · rw [List.getElem?_append_right w, pq_hi hHi, hlen] at hq
        exact ⟨q.2, by rw [List.getElem?_append_right (by rw [← hlen]; exact w)]; exact hq⟩
    have hP2 : va_P D pmCl (wd ad cA h' ++ pq ad cA h' L) T'.heap := by
      rw [e1]
      refine va_P.app (hP1) ?_
      rw [pq_hi hHi]
      intro i q hq
      have hq2 : (wd ad cA h ++ pq ad cA h L)[(wd ad cA h).length + i]? = some q := by
        rw [List.getElem?_append_right (Nat.le_add_right _ _), Nat.add_sub_cancel_left]; exact hq
      have hat := hP _ q hq2
      refine hat.kept (hF q.1 hat.lt ?_)
      intro hadA
      rcases hadA with ⟨a9, ha9, ea⟩ | hge
      · have hw := wd_get (ad := ad) (cA := cA) (h := h) ha9
        have hw2 : (wd ad cA h ++ pq ad cA h L)[a9]? = _ := (List.getElem?_append_left (List.getElem?_eq_some_iff.mp hw).1).trans hw
        have := hD.1 _ _ _ _ hq2 hw2 ea
        have hl9 := (List.getElem?_eq_some_iff.mp hw).1
        omega
      · exact absurd hat.lt (Nat.not_lt.mpr hge)
    have hS1 : va_S A s.heap T'.heap (locs ++ L9) := ⟨Nat.le_trans hS.1 (by rw [e1]; exact hz), fun q h1 h2 => by rw [e1, hF q (Nat.lt_of_lt_of_le h1 hS.1) (fun z => h2 (hsub q z))]; exact hS.2.1 q h1 h2, fun q hq => by
      rcases List.mem_append.mp hq with h9 | h9
      · exact hS.2.2 q h9
      · exact hsub _ (hL q h9)⟩
    have hKd1 : KdOk h' L := by
      intro n hn
      rw [hHi.kd] at hn ⊢
      exact hKd n hn
    obtain ⟨t2, a1, b1⟩ := kk v' h' T'.heap (locs ++ L9) hq hHi ⟨L, hP2, hDA, hS1, hKd1, hMd.trans hHi.md, fun z => by rw [hfl] at z; cases z⟩ T' rfl X'
    exact ⟨t2, sg t2 a1, b1⟩
  · exact absurd hq (hno x h')
end
theorem conk_no {rt : Nat} {kk : List Value → PH → Prop} (x : Nat) (h : PH) : ¬ conk rt (fun _ _ => False) kk (.inr x) h := fun hc => conk_inr hc
end
section
/-! ===== the law's calls: the step ===== -/
theorem FQ_get {x : String × MethodName × MethodName} (h : x ∈ FQ) : (x.1 = RJx4a65c ∨ x.1 = RJx35411) := by
  have : FQ.all (fun x => decide (x.1 = RJx4a65c ∨ x.1 = RJx35411)) = true := by decide +kernel
  exact of_decide_eq_true (List.all_eq_true.mp this x h)
theorem sel_priv {s : State} {args : Array Value} {C : String} {y z : MethodName} {c : ClassId} (hc : s.vm.findClass C = some c) (hz : (Cond.selects C z z).before args s = true) (hzy : z.cls = y.cls) (hpriv : s.PrivateAt y) (hinst : (Cond.instanceMethod y).before args s = true) (hy : y.cls ≠ "java/lang/invoke/MethodHandle" ∧ y.cls ≠ "java/lang/invoke/VarHandle") : (Cond.selects C y y).before args s = true := by
  obtain ⟨mk, methM, hnamed, hmethM, -, -⟩ := Cond.instanceMethod_spec hinst
  have hfound : s.methodFound? y.cls y.name y.desc = some mk := State.methodFound?_of_named hnamed hy
  obtain ⟨c2, r2, m2, -, -, q3, -, kP, hkP, hkPi⟩ := Cond.selects_spec hz
  have hcls : m2.cls = mk.cls := Option.some.inj ((findClass_of_methodNamed q3).symm.trans ((congrArg s.vm.findClass hzy).trans (findClass_of_methodNamed hnamed)))
  have hsel : selectMethod {} s.vm c mk = .method mk := selectMethod_private hmethM (hpriv mk methM hnamed hmethM)
  rw [hcls] at hkP
  simp only [Cond.before, Cond.holds, Cond.value, hc, hfound, hnamed, hsel, hkP]
  simp
  exact hkPi
section
variable {M : MI} {Q : Res → PH → Prop} {Z : State → Prop} {p : Program} {l : Launch} {e : Env} {R : Room} {s : State} {m : MethodId} {args : Array Value} {below : List Frame} {meth : Method} {cc : Code} {ad : Nat → Nat} {cA : Nat → ClassId} {D : va_G} {A : Nat → Prop} {X : PH → va_W} {h0 : PH} {k : KT} {pc c : Nat} {ls : Lc} {st : List Value} {h : PH}
theorem cal_at (hK : va_K D pmCl (pmTy cA) s) {rc : Nat} (h1 : 1 ≤ rc) (h6 : rc ≤ 6) : ∃ cC, ClassAt s (rcN rc) cC := by
  match rc, h1, h6 with
  | 1, _, _ => exact ⟨_, (hK.1 9 (RX12, TX12, 6) rfl).2⟩
  | 2, _, _ => exact ⟨_, (hK.1 10 (RX13, TX13, 28) rfl).2⟩
  | 3, _, _ => exact ⟨_, (hK.1 11 ("java/lang/String", TJ0, 4) rfl).2⟩
  | 4, _, _ => exact ⟨_, (hK.1 12 ("java/lang/StringBuilder", TJ4, 4) rfl).2⟩
  | 5, _, _ => exact ⟨_, (hK.1 13 (RJx4a65c, TJx4a65c, 3) rfl).2⟩
  | 6, _, _ => exact ⟨_, (hK.1 14 (RJx35411, TJx35411, 4) rfl).2⟩
  | n + 7, _, h6 => exact absurd h6 (by omega)
set_option maxHeartbeats 1000000 in
theorem bc_cal (hC : Cb M Q Z p l e R s m args below meth cc ad cA D A X h0) (hk : ∀ pc c ls st h, k pc c ls st h → BtC M Z p l e R s m args below meth cc ad cA D A X h0 pc c ls st h) {idx kind n rt rc mcv : Nat} {M' : MI} (hM' : MOQ M')
    (hd : match kind with
      | 1 => decode M.b pc = .ok (.invokestatic idx, 3)
      | 2 => decode M.b pc = .ok (.invokestatic idx, 3)
      | 3 => decode M.b pc = .ok (.invokespecial idx, 3)
      | 4 => decode M.b pc = .ok (.invokespecial idx, 3)
      | 6 => decode M.b pc = .ok (.invokespecial idx, 3)
      | 7 => ∃ cn, decode M.b pc = .ok (.invokeinterface idx cn, 5)
      | _ => decode M.b pc = .ok (.invokevirtual idx, 3))
    (hB : calB M M' n mcv rt = true) (hfm : flQ M' = true → flQ M = true)
    (hKd : match kind with
      | 0 => M'.sk = 0 ∧ Cond.methodLink M.y.cls idx M'.y ∈ tbG ∧ rcN rc = M'.y.cls ∧ 1 ≤ rc ∧ rc ≤ 6
      | 1 => (M'.sk = 1 ∨ M'.sk = 5) ∧ Cond.methodLink M.y.cls idx M'.y ∈ tbG
      | 2 => (M'.sk = 1 ∨ M'.sk = 5) ∧ Cond.methodLinkNest M.y.cls idx M'.y RL ∈ XQ
      | 3 => M'.sk = 2 ∧ Cond.methodLink M.y.cls idx M'.y ∈ tbG
      | 4 => M'.sk = 2 ∧ Cond.methodLinkNest M.y.cls idx M'.y RL ∈ XQ
      | 5 => M'.sk = 4 ∧ Cond.methodLink M.y.cls idx M'.y ∈ tbG ∧ Cond.sameMethod M'.y.cls M'.y.cls M'.y.name M'.y.desc ∈ tbG ∧ Cond.selects (rcN rc) M'.y M'.y ∈ tbG ∧ 1 ≤ rc ∧ rc ≤ 6
      | 6 => M'.sk = 4 ∧ Cond.methodLink M.y.cls idx M'.y ∈ tbG ∧ Cond.sameMethod M'.y.cls M'.y.cls M'.y.name M'.y.desc ∈ tbG ∧ Cond.superclass M.y.cls M'.y.cls ∈ tbG ∧ M'.y.name ≠ "<init>" ∧ 1 ≤ rc ∧ rc ≤ 6
      | 7 => M'.sk = 0 ∧ ∃ x ∈ FQ, x.1 = rcN rc ∧ x.2.2 = M'.y ∧ x.2.1.desc = M'.y.desc ∧ Cond.methodLink M.y.cls idx x.2.1 ∈ tbG ∧ Cond.selects (rcN rc) x.2.1 M'.y ∈ tbG ∧ 1 ≤ rc ∧ rc ≤ 6
      | 13 => M'.sk = 4 ∧ Cond.methodLink M.y.cls idx M'.y ∈ tbG ∧ Cond.sameMethod M'.y.cls M'.y.cls M'.y.name M'.y.desc ∈ tbG ∧ Cond.privateMethod M'.y ∈ tbG ∧ (∃ z : MethodName, z.cls = M'.y.cls ∧ Cond.selects (rcN rc) z z ∈ tbG) ∧ 1 ≤ rc ∧ rc ≤ 6
      | 14 => M'.sk = 4 ∧ (∃ (x : MethodName) (b0 : ByteArray) (m0 : Nat) (r0 : Option FieldType), Cond.methodLink M.y.cls idx x ∈ tbG ∧ Cond.sameMethod x.cls x.cls x.name x.desc ∈ tbG ∧ Cond.instanceMethod x ∈ tbG ∧ Cond.selects (rcN rc) x M'.y ∈ tbG ∧ Cond.code x b0 m0 r0 ∈ tbG ∧ x.desc = M'.y.desc ∧ x.cls ≠ "java/lang/invoke/MethodHandle" ∧ x.cls ≠ "java/lang/invoke/VarHandle") ∧ 1 ≤ rc ∧ rc ≤ 6
      | 9 => flQ M = true ∧ M'.sk = 0 ∧ Cond.methodLink M.y.cls idx M'.y ∈ tbG ∧ M'.y.cls = RX11
      | _ => False)
    (hs : qcal MetQ MetPM M k pc M' kind n rt rc mcv c ls st h) : BtC M Z p l e R s m args below meth cc ad cA D A X h0 pc c ls st h := by
  intro H locs cells slots lsA hW hl h1 h2 h3
  have hC0 := hC
  obtain ⟨⟨hx, hb, hml, hown, hts⟩, hK, hA, hKQ, hCQ, hX, hfX, hst, hroom, hnm, hend⟩ := hC
  obtain ⟨L, hP, hD, hS, hKd0, hMd, hLw⟩ := hW
  obtain ⟨e1, e2, e3, e4, e5, e6⟩ := calB_of hB
  subst e1
  have hR : (rmQ M').frames + 1 ≤ R.frames ∧ 8 + (M'.nl + 11) + (rmQ M').locals ≤ R.locals := ⟨by show M'.fr + 1 ≤ _; omega, by show 8 + (M'.nl + 11) + M'.lo ≤ _; omega⟩
  have hcap : c + M'.cap ≤ M.cap → cells + M'.cap ≤ R.cells ∧ slots + 12 * M'.cap ≤ R.slots := fun h9 => ⟨by omega, by omega⟩
  have hini : (Cond.initialized M'.y.cls).before args s = true := hts _ hM'.2.1
  have hhead := hM'.head
  have hwsM := hM'.good
  have hS0 : CallFix p m cc M.b M.nl s args tbG M.y.cls := ⟨hx, hb, hml, hown, hts⟩
  have goQ : ∀ (len : Nat) (rest as : List Value) (aa : Array Value), c + M'.cap ≤ M.cap → MetQ M' as h (conk rt (fun _ _ => False) (fun vs h' => FrM M' h h' → k (pc + len) (c + M'.cap) ls (vs ++ rest) h')) →
      (∀ (Q' : Res → PH → Prop), Met l M'.y (wsM M') (rmQ M') (va_Pc (as.map (tr ad)) (PcQ (flQ M') ad cA D X L H.size h)) (QcQ (flQ M') ad cA D X L H.size h Q') M'.cap (12 * M'.cap) (frQ (X h) L H.size) → RunQ p l e R s m args below meth cc H locs cells slots M'.cap (12 * M'.cap) len (F0 m pc lsA (st.map (tr ad))) (rest.map (tr ad)) (QcQ (flQ M') ad cA D X L H.size h Q' aa) (frQ (X h) L H.size)) →
      W p l e R s m args below meth cc H locs cells slots Z (F0 m pc lsA (st.map (tr ad))) := by
    intro len rest as aa hcp hmp hrun
    refine bc_run (M' := M') hfm hC0 hP hD hS hKd0 hMd hLw (hrun _ (hmp l ad cA D X L H.size hst hX)) ?_
    intro v h' H1 locs1 hq hfr hW1
    have hq1 := conk_inl (kk := fun vs h' => FrM M' h h' → k (pc + len) (c + M'.cap) ls (vs ++ rest) h') hq hfr
    have := hk _ _ _ _ _ hq1 H1 locs1 (cells + M'.cap) (slots + 12 * M'.cap) lsA hW1 hl (by omega) (by omega) hcp
    rw [List.map_append, ← tr_toList] at this
    exact this
  have hpre := fun (As : List Value) => pcq_start (As := As) hfm hC0 hP hD hS hKd0 hMd
  have dropL : ∀ (b : Nat) (rest : List Value), st.drop n = .ref b :: rest → (st.take n).length = n := by
    intro b rest hdrop
    rw [List.length_take]
    have h9 := congrArg List.length hdrop
    rw [List.length_drop, List.length_cons] at h9
    omega
  have stE : ∀ (b : Nat) (rest : List Value), st.drop n = .ref b :: rest → st.map (tr ad) = ((st.take n).reverse.map (tr ad)).reverse ++ Value.ref (ad b) :: rest.map (tr ad) := by
    intro b rest hdrop
    rw [st_split ad st n, hdrop]
    rfl
  have hdd : M'.y.cls ≠ "java/lang/invoke/MethodHandle" ∧ M'.y.cls ≠ "java/lang/invoke/VarHandle" ∧ (parseMethodDescriptor M'.y.desc).map (fun d => d.parameters.length) = some n := ⟨e4, e5, e6⟩
  have hx3 := hM'.2.2.2.2
  unfold qcal at hs
  match kind, hd, hKd, hs with
  | 0, hd, hKd, hs =>
    obtain ⟨hsk, hlink, hcls, g1, g6⟩ := hKd
    rw [hsk] at hx3
    simp only at hs
    split at hs
    · rename_i b rest hdrop
      obtain ⟨hrc, hs⟩ := hs
      obtain ⟨h8, hs⟩ := cat8_of hs
      obtain ⟨hcp, hmp⟩ := capk_of hs h3
      refine goQ 3 rest _ (Value.ref (ad b) :: ((st.take n).reverse.map (tr ad))).toArray hcp hmp ?_
      intro Q' hMet
      have hcell := rcv_at (X := X) hK hKQ hCQ hMd hKd0 hP hS g1 g6 hrc
      rw [hcls] at hcell
      exact va_runV (g := F0 m pc lsA (st.map (tr ad))) (C := M'.y.cls) (y := M'.y) (bytes := M'.b) (maxL := M'.nl) (ret := M'.ret) (n := n) (b := ad b) (As := (st.take n).reverse.map (tr ad)) (rest := rest.map (tr ad)) (Ts := tbG) hS0 hMet ⟨callB_of n hts hwsM (by unfold wsM; rw [hhead]) rfl rfl hini (hts _ hlink) hdd hR, hts _ hx3.1, hts _ hx3.2⟩ ⟨(hpre _).1, hcell, fun U hU hWU => (hpre (.ref b :: (st.take n).reverse)).2 U hU hWU⟩ rfl (by rw [List.length_map, List.length_reverse]; exact dropL _ _ hdrop) hl.1 (stE _ _ hdrop) (lv_room (by rw [cat_tr]; exact h8)) hd (hcap hcp)
    · cases hs
  | 1, hd, hKd, hs =>
    obtain ⟨hsk, hlink⟩ := hKd
    have hstat : Cond.static M'.y ∈ tbG := by rcases hsk with hsk | hsk <;> rw [hsk] at hx3 <;> exact hx3
    simp only at hs
    obtain ⟨hlen0, hs⟩ := len9_of hs
    have hlen : (st.take n).length = n := by rw [List.length_take]; omega
    obtain ⟨h8, hs⟩ := cat8_of hs
    obtain ⟨hcp, hmp⟩ := capk_of hs h3
    refine goQ 3 (st.drop n) _ ((st.take n).reverse.map (tr ad)).toArray hcp hmp ?_
    intro Q' hMet
    exact va_runS (g := F0 m pc lsA (st.map (tr ad))) (y := M'.y) (bytes := M'.b) (maxL := M'.nl) (ret := M'.ret) (n := n) (As := (st.take n).reverse.map (tr ad)) (rest := (st.drop n).map (tr ad)) (Ts := tbG) hS0 hMet ⟨callB_of n hts hwsM (by unfold wsM; rw [hhead]) rfl rfl hini (hts _ hlink) hdd hR, hts _ hstat⟩ (hpre _) rfl (by rw [List.length_map, List.length_reverse]; exact hlen) hl.1 (st_split ad st n) (lv_room (by rw [cat_tr]; exact h8)) hd (hcap hcp)
  | 2, hd, hKd, hs =>
    obtain ⟨hsk, hlink⟩ := hKd
    have hstat : Cond.static M'.y ∈ tbG := by rcases hsk with hsk | hsk <;> rw [hsk] at hx3 <;> exact hx3
    simp only at hs
    obtain ⟨hlen0, hs⟩ := len9_of hs
    have hlen : (st.take n).length = n := by rw [List.length_take]; omega
    obtain ⟨h8, hs⟩ := cat8_of hs
    obtain ⟨hcp, hmp⟩ := capk_of hs h3
    refine goQ 3 (st.drop n) _ ((st.take n).reverse.map (tr ad)).toArray hcp hmp ?_
    intro Q' hMet
    exact va_runSN (host := RL) (g := F0 m pc lsA (st.map (tr ad))) (y := M'.y) (bytes := M'.b) (maxL := M'.nl) (ret := M'.ret) (n := n) (As := (st.take n).reverse.map (tr ad)) (rest := (st.drop n).map (tr ad)) (Ts := tbG) hS0 hMet ⟨va_cnB n hts hwsM (by unfold wsM; rw [hhead]) rfl rfl (hCQ.2.1 _ hlink) hini hdd hR, hts _ hstat, trivial⟩ (hpre _) rfl (by rw [List.length_map, List.length_reverse]; exact hlen) hl.1 (st_split ad st n) (lv_room (by rw [cat_tr]; exact h8)) hd (hcap hcp)
  | 3, hd, hKd, hs =>
    obtain ⟨hsk, hlink⟩ := hKd
    rw [hsk] at hx3
    simp only at hs
    split at hs
    · rename_i b rest hdrop
      obtain ⟨h8, hs⟩ := cat8_of hs
      obtain ⟨hcp, hmp⟩ := capk_of hs h3
      refine goQ 3 rest _ (Value.ref (ad b) :: ((st.take n).reverse.map (tr ad))).toArray hcp hmp ?_
      intro Q' hMet
      exact va_runI (g := F0 m pc lsA (st.map (tr ad))) (y := M'.y) (bytes := M'.b) (maxL := M'.nl) (n := n) (b := ad b) (As := (st.take n).reverse.map (tr ad)) (rest := rest.map (tr ad)) (Ts := tbG) hS0 hMet ⟨callB_of n hts hwsM (by unfold wsM; rw [hhead, hx3.2.2]) rfl rfl hini (hts _ hlink) hdd hR, hx3.2.1, hts _ hx3.1⟩ (hpre (.ref b :: (st.take n).reverse)) rfl (by rw [List.length_map, List.length_reverse]; exact dropL _ _ hdrop) hl.1 (stE _ _ hdrop) (lv_room (by rw [cat_tr]; exact h8)) hd (hcap hcp)
    · cases hs
  | 4, hd, hKd, hs =>
    obtain ⟨hsk, hlink⟩ := hKd
    rw [hsk] at hx3
    simp only at hs
    split at hs
    · rename_i b rest hdrop
      obtain ⟨h8, hs⟩ := cat8_of hs
      obtain ⟨hcp, hmp⟩ := capk_of hs h3
      refine goQ 3 rest _ (Value.ref (ad b) :: ((st.take n).reverse.map (tr ad))).toArray hcp hmp ?_
      intro Q' hMet
      exact va_runIN (host := RL) (g := F0 m pc lsA (st.map (tr ad))) (y := M'.y) (bytes := M'.b) (maxL := M'.nl) (n := n) (b := ad b) (As := (st.take n).reverse.map (tr ad)) (rest := rest.map (tr ad)) (Ts := tbG) hS0 hMet ⟨va_cnB n hts hwsM (by unfold wsM; rw [hhead, hx3.2.2]) rfl rfl (hCQ.2.1 _ hlink) hini hdd hR, hx3.2.1, hts _ hx3.1⟩ (hpre (.ref b :: (st.take n).reverse)) rfl (by rw [List.length_map, List.length_reverse]; exact dropL _ _ hdrop) hl.1 (stE _ _ hdrop) (lv_room (by rw [cat_tr]; exact h8)) hd (hcap hcp)
    · cases hs
  | 5, hd, hKd, hs =>
    obtain ⟨hsk, hlink, hsame, hsel, g1, g6⟩ := hKd
    rw [hsk] at hx3
    simp only at hs
    split at hs
    · rename_i b rest hdrop
      obtain ⟨hrc, hs⟩ := hs
      obtain ⟨h8, hs⟩ := cat8_of hs
      obtain ⟨hcp, hmp⟩ := capk_of hs h3
      refine goQ 3 rest _ (Value.ref (ad b) :: ((st.take n).reverse.map (tr ad))).toArray hcp hmp ?_
      intro Q' hMet
      have hcell := rcv_at (X := X) hK hKQ hCQ hMd hKd0 hP hS g1 g6 hrc
      have hG : GoodIn tbG (va_wsU M.y.cls idx (rcN rc) M'.y.cls M'.y M'.y (wsM M')) := by
        intro w hw
        unfold va_wsU at hw
        rcases List.mem_append.mp hw with hw | hw
        · simp only [List.mem_cons, List.mem_nil_iff, or_false] at hw
          rcases hw with rfl | rfl | rfl | rfl | rfl
          · exact tbG_good _ hlink
          · exact tbG_good _ hsame
          · exact tbG_good _ hsel
          · exact tbG_good _ hx3
          · exact tbG_good _ hM'.2.1
        · exact hwsM w hw
      exact va_runU (g := F0 m pc lsA (st.map (tr ad))) (C := rcN rc) (owner := M'.y.cls) (x := M'.y) (y := M'.y) (bytes := M'.b) (maxL := M'.nl) (ret := M'.ret) (n := n) (b := ad b) (As := (st.take n).reverse.map (tr ad)) (rest := rest.map (tr ad)) (Ts := tbG) hS0 hMet (va_cwU n hts hG (by unfold wsM; rw [hhead]) rfl rfl rfl hdd hR) ⟨(hpre _).1, hcell, fun U hU hWU => (hpre (.ref b :: (st.take n).reverse)).2 U hU hWU⟩ rfl (by rw [List.length_map, List.length_reverse]; exact dropL _ _ hdrop) hl.1 (stE _ _ hdrop) (lv_room (by rw [cat_tr]; exact h8)) hd (hcap hcp)
    · cases hs
  | 6, hd, hKd, hs =>
    obtain ⟨hsk, hlink, hsame, hsup, hno, g1, g6⟩ := hKd
    rw [hsk] at hx3
    simp only at hs
    split at hs
    · rename_i b rest hdrop
      obtain ⟨hrc, hs⟩ := hs
      obtain ⟨h8, hs⟩ := cat8_of hs
      obtain ⟨hcp, hmp⟩ := capk_of hs h3
      refine goQ 3 rest _ (Value.ref (ad b) :: ((st.take n).reverse.map (tr ad))).toArray hcp hmp ?_
      intro Q' hMet
      have hcell := rcv_at (X := X) hK hKQ hCQ hMd hKd0 hP hS g1 g6 hrc
      obtain ⟨cC, hat⟩ := cal_at hK g1 g6
      have hG : GoodIn tbG (va_wsSU M.y.cls idx M'.y (wsM M')) := by
        intro w hw
        unfold va_wsSU at hw
        rcases List.mem_append.mp hw with hw | hw
        · simp only [List.mem_cons, List.mem_nil_iff, or_false] at hw
          rcases hw with rfl | rfl | rfl | rfl | rfl
          · exact tbG_good _ hlink
          · exact tbG_good _ hsame
          · exact tbG_good _ hsup
          · exact tbG_good _ hx3
          · exact tbG_good _ hM'.2.1
        · exact hwsM w hw
      exact va_runSU (g := F0 m pc lsA (st.map (tr ad))) (C := rcN rc) (y := M'.y) (bytes := M'.b) (maxL := M'.nl) (ret := M'.ret) (n := n) (b := ad b) (As := (st.take n).reverse.map (tr ad)) (rest := rest.map (tr ad)) (Ts := tbG) hat hS0 hMet (va_cwSU n hts hG (by unfold wsM; rw [hhead]) rfl rfl ⟨hno, e6⟩ hR) ⟨(hpre _).1, hcell, fun U hU hWU => (hpre (.ref b :: (st.take n).reverse)).2 U hU hWU⟩ rfl (by rw [List.length_map, List.length_reverse]; exact dropL _ _ hdrop) hl.1 (stE _ _ hdrop) (lv_room (by rw [cat_tr]; exact h8)) hd (hcap hcp)
    · cases hs
  | 7, hd, hKd, hs =>
    obtain ⟨hsk, x, hxF, hx1, hx2, hxd, hlink, hsel, g1, g6⟩ := hKd
    rw [hsk] at hx3
    obtain ⟨cn, hd⟩ := hd
    simp only at hs
    split at hs
    · rename_i b rest hdrop
      obtain ⟨hrc, hs⟩ := hs
      obtain ⟨h8, hs⟩ := cat8_of hs
      obtain ⟨hcp, hmp⟩ := capk_of hs h3
      refine goQ 5 rest _ (Value.ref (ad b) :: ((st.take n).reverse.map (tr ad))).toArray hcp hmp ?_
      intro Q' hMet
      have hcell := rcv_at (X := X) hK hKQ hCQ hMd hKd0 hP hS g1 g6 hrc
      obtain ⟨cC, hat⟩ := cal_at hK g1 g6
      have hF := hCQ.2.2.2.1 x hxF
      rw [hx1, hx2] at hF
      have hmh := FQ_mh x hxF
      have hG : GoodIn tbG (va_wsF M.y.cls idx (rcN rc) x.2.1 M'.y (wsM M')) := by
        intro w hw
        unfold va_wsF at hw
        rcases List.mem_append.mp hw with hw | hw
        · simp only [List.mem_cons, List.mem_nil_iff, or_false] at hw
          rcases hw with rfl | rfl | rfl | rfl
          · exact tbG_good _ hlink
          · exact tbG_good _ hsel
          · exact tbG_good _ hx3.1
          · exact tbG_good _ hM'.2.1
        · exact hwsM w hw
      exact va_runF (g := F0 m pc lsA (st.map (tr ad))) (C := rcN rc) (x := x.2.1) (y := M'.y) (bytes := M'.b) (maxL := M'.nl) (ret := M'.ret) (n := n) (b := ad b) (As := (st.take n).reverse.map (tr ad)) (rest := rest.map (tr ad)) (Ts := tbG) hat hS0 hMet (va_cwF n hts hG (by unfold wsM; rw [hhead]) rfl rfl hF ⟨hmh.1, hmh.2, by rw [hxd]; exact e6⟩ hR) ⟨(hpre _).1, hcell, fun U hU hWU => (hpre (.ref b :: (st.take n).reverse)).2 U hU hWU⟩ rfl (by rw [List.length_map, List.length_reverse]; exact dropL _ _ hdrop) hl.1 (stE _ _ hdrop) (lv_room (by rw [cat_tr]; exact h8)) hd (hcap hcp)
    · cases hs
  | 9, hd, hKd, hs =>
    obtain ⟨hfl, hsk, hlink, hcls⟩ := hKd
    rw [hsk] at hx3
    have hRM : (rmM M').frames + 1 ≤ R.frames ∧ 8 + (M'.nl + 11) + (rmM M').locals ≤ R.locals := hR
    simp only at hs
    split at hs
    · rename_i b rest hdrop
      obtain ⟨rfl, hs⟩ := hs
      obtain ⟨h8, hs⟩ := cat8_of hs
      obtain ⟨hcp, hmp⟩ := capk_of hs h3
      have hpm := fun (As : List Value) => pcm_start (As := As) hfl hC0 hP hD hS
      have hcell : ∃ cell : Cell, H[ad 0]? = some cell ∧ cell.vm.isStatics = false ∧ s.vm.findClass M'.y.cls = some cell.cls := by
        rw [hcls]
        have eX := (hfX hfl).1
        rw [eX] at hP
        have hw := wd_get (ad := ad) (cA := cA) (h := h) (a := 0) (by decide)
        exact va_recv hK hP (ci := 8) (q := pmCl[8]) rfl ((List.getElem?_append_left (List.getElem?_eq_some_iff.mp hw).1).trans hw)
      refine bc_runC (M' := M') (rest := rest.map (tr ad)) (a := (Value.ref (ad 0) :: ((st.take n).reverse.map (tr ad))).toArray) hfl hC0 hP hD hS hKd0 hMd (vx_runV (g := F0 m pc lsA (st.map (tr ad))) (C := M'.y.cls) (y := M'.y) (bytes := M'.b) (maxL := M'.nl) (ret := M'.ret) (n := n) (b := ad 0) (As := (st.take n).reverse.map (tr ad)) (rest := rest.map (tr ad)) (Ts := tbG) hS0 (hmp l ad cA D h 0 H.size hst) ⟨callB_of n hts hwsM (by unfold wsM; rw [hhead]) rfl rfl hini (hts _ hlink) hdd hRM, hts _ hx3.1, hts _ hx3.2⟩ ⟨(hpm _).1, hcell, fun U hU hWU => (hpm (.ref 0 :: (st.take n).reverse)).2 U hU hWU⟩ rfl (by rw [List.length_map, List.length_reverse]; exact dropL _ _ hdrop) hl.1 (stE _ _ hdrop) (lv_room (by rw [cat_tr]; exact h8)) hd ⟨(hcap hcp).1, by omega⟩) (fun x h' => conk_no x h') ?_
      intro v h' H1 locs1 hq hHi hW1
      have hq1 := conk_inl (kk := fun vs h' => Hi h h' → k (pc + 3) (c + M'.cap) ls (vs ++ rest) h') hq hHi
      have := hk _ _ _ _ _ hq1 H1 locs1 (cells + M'.cap) (slots + 6 * M'.cap) lsA hW1 hl (by omega) (by omega) hcp
      rw [List.map_append, ← tr_toList] at this
      exact this
    · cases hs
  | 13, hd, hKd, hs =>
    obtain ⟨hsk, hlink, hsame, hpriv, ⟨z, hzc, hz⟩, g1, g6⟩ := hKd
    rw [hsk] at hx3
    simp only at hs
    split at hs
    · rename_i b rest hdrop
      obtain ⟨hrc, hs⟩ := hs
      obtain ⟨h8, hs⟩ := cat8_of hs
      obtain ⟨hcp, hmp⟩ := capk_of hs h3
      refine goQ 3 rest _ (Value.ref (ad b) :: ((st.take n).reverse.map (tr ad))).toArray hcp hmp ?_
      intro Q' hMet
      have hcell := rcv_at (X := X) hK hKQ hCQ hMd hKd0 hP hS g1 g6 hrc
      obtain ⟨cC, hat⟩ := cal_at hK g1 g6
      have hcode := hts _ hM'.1
      rw [hhead] at hcode
      have hcu : va_CU R s args M.y.cls (rcN rc) M'.y.cls idx M'.y M'.y M'.b M'.nl M'.ret (wsM M') (rmQ M') M'.cap (12 * M'.cap) n := by
        refine ⟨⟨rfl, rfl, hR.1, hR.2, pay_in hts hwsM, by unfold wsM; rw [hhead]; exact List.mem_cons_self⟩, hcode, hini, ⟨e4, e5⟩, fun sig h => ?_, hts _ hlink, hts _ hsame, va_Decl.of (hts _ hx3) hcode, sel_priv hat.1 (hts _ hz) hzc (Cond.privateMethod_at (hts _ hpriv)) (hts _ hx3) ⟨e4, e5⟩, hts _ hx3⟩
        have h2 := e6
        rw [h] at h2
        exact (Option.some.inj h2).symm
      exact va_runU (g := F0 m pc lsA (st.map (tr ad))) (C := rcN rc) (owner := M'.y.cls) (x := M'.y) (y := M'.y) (bytes := M'.b) (maxL := M'.nl) (ret := M'.ret) (n := n) (b := ad b) (As := (st.take n).reverse.map (tr ad)) (rest := rest.map (tr ad)) (Ts := tbG) hS0 hMet hcu ⟨(hpre _).1, hcell, fun U hU hWU => (hpre (.ref b :: (st.take n).reverse)).2 U hU hWU⟩ rfl (by rw [List.length_map, List.length_reverse]; exact dropL _ _ hdrop) hl.1 (stE _ _ hdrop) (lv_room (by rw [cat_tr]; exact h8)) hd (hcap hcp)
    · cases hs
  | 14, hd, hKd, hs =>
    obtain ⟨hsk, ⟨x, b0, m0, r0, hlink, hsame, hix, hsel, hcx, hxd, x4, x5⟩, g1, g6⟩ := hKd
    rw [hsk] at hx3
    simp only at hs
    split at hs
    · rename_i b rest hdrop
      obtain ⟨hrc, hs⟩ := hs
      obtain ⟨h8, hs⟩ := cat8_of hs
      obtain ⟨hcp, hmp⟩ := capk_of hs h3
      refine goQ 3 rest _ (Value.ref (ad b) :: ((st.take n).reverse.map (tr ad))).toArray hcp hmp ?_
      intro Q' hMet
      have hcell := rcv_at (X := X) hK hKQ hCQ hMd hKd0 hP hS g1 g6 hrc
      have hG : GoodIn tbG (va_wsO M.y.cls idx (rcN rc) x.cls x M'.y (wsM M')) := by
        intro w hw
        unfold va_wsO at hw
        rcases List.mem_append.mp hw with hw | hw
        · simp only [List.mem_cons, List.mem_nil_iff, or_false] at hw
          rcases hw with rfl | rfl | rfl | rfl | rfl | rfl
          · exact tbG_good _ hlink
          · exact tbG_good _ hsame
          · exact tbG_good _ hix
          · exact tbG_good _ hsel
          · exact tbG_good _ hx3
          · exact tbG_good _ hM'.2.1
        · exact hwsM w hw
      exact va_runU (g := F0 m pc lsA (st.map (tr ad))) (C := rcN rc) (owner := x.cls) (x := x) (y := M'.y) (bytes := M'.b) (maxL := M'.nl) (ret := M'.ret) (n := n) (b := ad b) (As := (st.take n).reverse.map (tr ad)) (rest := rest.map (tr ad)) (Ts := tbG) hS0 hMet (va_cwO n hts hG (by unfold wsM; rw [hhead]) rfl rfl hcx ⟨x4, x5, by rw [hxd]; exact e6⟩ hR) ⟨(hpre _).1, hcell, fun U hU hWU => (hpre (.ref b :: (st.take n).reverse)).2 U hU hWU⟩ rfl (by rw [List.length_map, List.length_reverse]; exact dropL _ _ hdrop) hl.1 (stE _ _ hdrop) (lv_room (by rw [cat_tr]; exact h8)) hd (hcap hcp)
    · cases hs
  | 8, _, hKd, _ => exact hKd.elim
  | 10, _, hKd, _ => exact hKd.elim
  | 11, _, hKd, _ => exact hKd.elim
  | 12, _, hKd, _ => exact hKd.elim
  | k9 + 15, _, hKd, _ => exact hKd.elim
end
end
section
/-! ===== BEGIN new T[n][m]: the outer array a place, the inner ones among the pooled ===== -/
/-- f, but v at every address of l -/
def vr_up {α : Type} (f : Nat → α) (l : List Nat) (v : α) : Nat → α := fun a => if a ∈ l then v else f a
theorem vr_up_in {α : Type} {f : Nat → α} {l : List Nat} {v : α} {a : Nat} (h : a ∈ l) : vr_up f l v a = v := if_pos h
theorem vr_up_ne {α : Type} {f : Nat → α} {l : List Nat} {v : α} {a : Nat} (h : a ∉ l) : vr_up f l v a = f a := if_neg h
theorem vr_rows {L l : List Nat} {f : Nat → va_E} {e : va_E} (h : ∀ a, a ∈ l → a ∉ L) : va_pl L f ++ l.map (fun a => (a, e)) = va_pl (L ++ l) (vr_up f l e) := by
  unfold va_pl
  rw [List.map_append]
  congr 1
  · apply List.map_congr_left
    intro a ha
    rw [vr_up_ne (fun q => h a q ha)]
  · apply List.map_congr_left
    intro a ha
    rw [vr_up_in ha]
theorem vr_lay {X rows : va_W} {x : Nat × va_E} {pl : va_W} {D : va_G} {cl : List vw_C} {H : Heap} (hP : va_P D cl (((X ++ pl) ++ [x]) ++ rows) H) : va_P D cl ((X ++ [x]) ++ (pl ++ rows)) H := by
  rw [List.append_assoc (X ++ pl)] at hP
  have h := va_P.swap hP
  rw [← List.append_assoc X] at h
  have h2 := va_P.swap h
  rw [List.append_assoc (X ++ [x])] at h2
  exact h2
theorem vr_layD {X rows : va_W} {x : Nat × va_E} {pl : va_W} {A : Nat → Prop} (hD : va_D A (((X ++ pl) ++ [x]) ++ rows)) : va_D A ((X ++ [x]) ++ (pl ++ rows)) := by
  rw [List.append_assoc (X ++ pl)] at hD
  have h := va_D.swap hD
  rw [← List.append_assoc X] at h
  have h2 := va_D.swap h
  rw [List.append_assoc (X ++ [x])] at h2
  exact h2
theorem vr_outer (c : ClassId) (N h0 : Nat) : ∀ i : Nat, Jvm.Free.Multi.outerC c N h0 i = arrV c N (fun j => va_rf (if j < i then some (h0 + 1 + j) else none))
  | 0 => by
    show ({ cls := c, slots := Array.replicate N .null, vm := .none } : Cell) = _
    rw [arrV_new]
    refine congrArg (arrV c N) (funext fun j => ?_)
    simp [va_rf]
  | i + 1 => by
    show (Jvm.Free.Multi.outerC c N h0 i).setSlot i (.ref (h0 + 1 + i)) = _
    rw [vr_outer c N h0 i, arrV_store]
    refine congrArg (arrV c N) (funext fun j => ?_)
    by_cases e : j = i
    · subst e
      simp [updV, va_rf]
    · by_cases h : j < i
      · simp [updV, e, h, Nat.lt_succ_of_lt h]
      · simp [updV, e, h, show ¬ j < i + 1 by omega]
section VGM
variable {p : Program} {l : Launch} {e : Env} {R : Room} {s : State} {m : MethodId} {args : Array Value} {below : List Frame} {meth : Method} {c : Code} {H : Heap} {locs : List Loc} {cells slots : Nat} {Q : State → Prop}
variable {cc : ByteArray} {pc : Nat} {ls : Array Slot} {rest : List Value} {D : va_G} {cl : List vw_C} {A : Nat → Prop} {a : Nat} {tys : List (ClassId × FieldType)} {ws : va_W} {H0 : Heap}
theorem va_mna {X : va_W} {L : List Nat} {f : Nat → va_E} {cc : ByteArray} (hexec : p.tables.exec = Jvm.exec) (hb : c.code = cc) {own : String} {index : Nat} {ty : FieldType} {cy : ClassId} (hown : s.vm.findClass own = some m.cls) (hclink : (Cond.classLink own index ("[" ++ (FieldType.array ty).toString)).before args s = true) (hover : (Cond.arrayOver (.array ty)).before args s = true) (harr : (Cond.arrayClass ty).before args s = true) (hcy : s.vm.findClass (FieldType.array ty).toString = some cy)
    (hK : va_K D cl tys s) (hP : va_P D cl (X ++ va_pl L f) H) (hD : va_D A (X ++ va_pl L f)) (hS : va_S A H0 H locs) (hA : ∀ q, H0.size ≤ q → A q) {n k : Int32} {N' K' : Nat} {z : vp_A} (hn : ¬ n < 0) (hk : ¬ k < 0) (hN : n.toNatClampNeg = N') (hM : k.toNatClampNeg = K')
    (hb1 : N' * 4 ≤ 536870912) (hb2 : K' * componentBytes ty ≤ 536870912) (hb3 : K' ≤ 536870912) (hdf : fits ty (defaultValue ty) = true) (hdd : (defaultValue ty).isDefault = true) (hcells : cells + (1 + N') ≤ R.cells) (hslots : slots + (N' + N' * K') ≤ R.slots) (hz : ∀ c : ClassId, Jvm.Free.Multi.innerC c K' (defaultValue ty) = vp_cell c z) (hdg : decode cc pc = .ok (.multianewarray index 2, 4))
    (kk : ∀ (q : Nat) (r : Nat → Nat) (cA : ClassId) (H1 : Heap), (∀ i j : Nat, i < N' → j < N' → r i = r j → i = j) → (∀ i : Nat, i < N' → r i ∉ L) → va_K D cl (tys ++ [(cA, .array ty)]) s →
      va_P D cl ((X ++ [(q, .inl (cA, N', .inr (.inr (.inr (.inr (fun i => if i < N' then some (r i) else none))))))]) ++ va_pl (L ++ (List.range N').map r) (vr_up f ((List.range N').map r) (.inl (cy, z)))) H1 → va_D A ((X ++ [(q, .inl (cA, N', .inr (.inr (.inr (.inr (fun i => if i < N' then some (r i) else none))))))]) ++ va_pl (L ++ (List.range N').map r) (vr_up f ((List.range N').map r) (.inl (cy, z)))) → va_S A H0 H1 locs →
      W p l e R s m args below meth c H1 locs (cells + 1 + N') (slots + N' + N' * K') Q (F0 m (pc + 4) ls (.ref q :: rest))) : W p l e R s m args below meth c H locs cells slots Q (F0 m pc ls (.int k :: .int n :: rest)) := by
  subst hN
  subst hM
  intro T hT Xs
  obtain ⟨vm₁, cA, comp, -, fA, fC, hO, -, X', step⟩ := Xs.multianewarray2F hexec hown hclink hover harr (g := F0 m pc ls (.int k :: .int n :: rest)) rfl (by rw [hb]; exact hdg) rfl hn hk hb1 hb2 hb3 hdf hdd hcells hslots
  have ec : some cy = some comp := hcy.symm.trans fC
  cases ec
  generalize hF : Jvm.Free.Multi.fill (T.setVm vm₁) cA cy n.toNatClampNeg k.toNatClampNeg (defaultValue ty) n.toNatClampNeg = F at X' step
  have hTh : (T.setVm vm₁).heap = H := hT
  obtain ⟨f1, f2, -, -⟩ := Jvm.Free.Multi.fill_facts (T.setVm vm₁) cA cy n.toNatClampNeg k.toNatClampNeg (defaultValue ty) n.toNatClampNeg
  rw [hF, hTh] at f1 f2
  have hold : ∀ x : Nat, x < H.size → F.heap[x]? = H[x]? := fun x hx => by
    have := Jvm.Free.Multi.fill_old (T.setVm vm₁) cA cy n.toNatClampNeg k.toNatClampNeg (defaultValue ty) (a := x) (by rw [hTh]; exact hx) n.toNatClampNeg
    rw [hF, hTh] at this
    exact this
  have hrow : ∀ j : Nat, j < n.toNatClampNeg → F.heap[H.size + 1 + j]? = some (vp_cell cy z) := fun j hj => by
    have := Jvm.Free.Multi.fill_inner (T.setVm vm₁) cA cy n.toNatClampNeg k.toNatClampNeg (defaultValue ty) n.toNatClampNeg j hj
    rw [hF, hTh, hz] at this
    exact this
  have hout : Jvm.Free.Multi.outerC cA n.toNatClampNeg H.size n.toNatClampNeg = vp_cell cA (n.toNatClampNeg, .inr (.inr (.inr (.inr (fun i => if i < n.toNatClampNeg then some (H.size + 1 + i) else none))))) := by
    rw [vp_cell_q]
    exact vr_outer cA n.toNatClampNeg H.size n.toNatClampNeg
  rw [hout] at f2
  have hlt : ∀ a, a ∈ L → a < H.size := fun a ha => by
    obtain ⟨k9, hk9⟩ := va_pl_get (X := X) (f := f) ha
    exact (hP k9 _ hk9).lt
  have hnl : ∀ i : Nat, i < n.toNatClampNeg → H.size + 1 + i ∉ L := fun i _ h => by
    have := hlt _ h
    omega
  have hnm : ∀ a, a ∈ (List.range n.toNatClampNeg).map (fun i => H.size + 1 + i) → a ∉ L := fun a ha h => by
    obtain ⟨i, -, rfl⟩ := List.mem_map.mp ha
    have := hlt _ h
    omega
  have hP0 : va_P D cl (X ++ va_pl L f) F.heap := hP.kept (fun k9 x hx => hold x.1 ((hP k9 x hx).lt))
  have hP1 : va_P D cl ((X ++ va_pl L f) ++ [(H.size, .inl (cA, n.toNatClampNeg, .inr (.inr (.inr (.inr (fun i => if i < n.toNatClampNeg then some (H.size + 1 + i) else none))))))]) F.heap := hP0.app (fun k9 x hx => by
    have h0 : k9 < 1 := (List.getElem?_eq_some_iff.mp hx).1
    rw [show k9 = 0 by omega] at hx
    cases hx
    exact f2)
  have hP2 : va_P D cl (((X ++ va_pl L f) ++ [(H.size, .inl (cA, n.toNatClampNeg, .inr (.inr (.inr (.inr (fun i => if i < n.toNatClampNeg then some (H.size + 1 + i) else none))))))]) ++ ((List.range n.toNatClampNeg).map (fun i => H.size + 1 + i)).map (fun a => (a, .inl (cy, z)))) F.heap := hP1.app (fun k9 x hx => by
    obtain ⟨a, ha, rfl⟩ := List.mem_map.mp (List.mem_of_getElem? hx)
    obtain ⟨i, hi, rfl⟩ := List.mem_map.mp ha
    exact hrow i (List.mem_range.mp hi))
  have hD2 : va_D A (((X ++ va_pl L f) ++ [(H.size, .inl (cA, n.toNatClampNeg, .inr (.inr (.inr (.inr (fun i => if i < n.toNatClampNeg then some (H.size + 1 + i) else none))))))]) ++ ((List.range n.toNatClampNeg).map (fun i => H.size + 1 + i)).map (fun a => (a, .inl (cy, z)))) := by
    have hD1 := hD.push (e := .inl (cA, n.toNatClampNeg, .inr (.inr (.inr (.inr (fun i => if i < n.toNatClampNeg then some (H.size + 1 + i) else none)))))) hP rfl (hA _ hS.1)
    generalize hW1 : (X ++ va_pl L f) ++ [(H.size, .inl (cA, n.toNatClampNeg, .inr (.inr (.inr (.inr (fun i => if i < n.toNatClampNeg then some (H.size + 1 + i) else none))))))] = W1 at hD1 hP1 ⊢
    have hle : ∀ (k9 : Nat) (x : Nat × va_E), W1[k9]? = some x → x.1 ≤ H.size := fun k9 x hx => by
      rw [← hW1] at hx
      by_cases hl : k9 < (X ++ va_pl L f).length
      · rw [List.getElem?_append_left hl] at hx
        exact Nat.le_of_lt ((hP k9 x hx).lt)
      · rw [List.getElem?_append_right (by omega)] at hx
        have h0 : k9 - (X ++ va_pl L f).length < 1 := (List.getElem?_eq_some_iff.mp hx).1
        rw [show k9 - (X ++ va_pl L f).length = 0 by omega] at hx
        cases hx
        exact Nat.le_refl _
    have hr : ∀ (k9 : Nat) (x : Nat × va_E), (((List.range n.toNatClampNeg).map (fun i => H.size + 1 + i)).map (fun a => ((a, .inl (cy, z)) : Nat × va_E)))[k9]? = some x → x.1 = H.size + 1 + k9 := fun k9 x hx => by
      rw [List.getElem?_map, List.getElem?_map] at hx
      by_cases h9 : k9 < n.toNatClampNeg
      · rw [List.getElem?_range h9] at hx
        cases hx
        rfl
      · have hn0 : (List.range n.toNatClampNeg)[k9]? = none := List.getElem?_eq_none (by rw [List.length_range]; omega)
        rw [hn0] at hx
        cases hx
    refine ⟨fun i j x y hi hj hxy => ?_, fun k9 x hx => ?_⟩
    · by_cases h1 : i < W1.length <;> by_cases h2 : j < W1.length
      · rw [List.getElem?_append_left h1] at hi
        rw [List.getElem?_append_left h2] at hj
        exact hD1.1 i j x y hi hj hxy
      · rw [List.getElem?_append_left h1] at hi
        rw [List.getElem?_append_right (by omega)] at hj
        have := hle _ _ hi
        have := hr _ _ hj
        omega
      · rw [List.getElem?_append_right (by omega)] at hi
        rw [List.getElem?_append_left h2] at hj
        have := hle _ _ hj
        have := hr _ _ hi
        omega
      · rw [List.getElem?_append_right (by omega)] at hi hj
        have := hr _ _ hi
        have := hr _ _ hj
        omega
    · by_cases h1 : k9 < W1.length
      · rw [List.getElem?_append_left h1] at hx
        exact hD1.2 k9 x hx
      · rw [List.getElem?_append_right (by omega)] at hx
        have := hr _ _ hx
        exact hA _ (by have := hS.1; omega)
  have hAr : ArrOfT s cA (.array ty) := fun N9 z9 => by
    obtain ⟨-, k9, hk9, cm9, hkk9⟩ := (hO 0 0 0).1
    exact ⟨(fun q hq => by cases hq), k9, hk9, cm9, hkk9⟩
  have hK2 : va_K D cl (tys ++ [(cA, .array ty)]) s := ⟨hK.1, fun k9 x hx => by
    by_cases hl : k9 < tys.length
    · rw [List.getElem?_append_left hl] at hx
      exact hK.2 k9 x hx
    · rw [List.getElem?_append_right (by omega)] at hx
      have h0 : k9 - tys.length < 1 := (List.getElem?_eq_some_iff.mp hx).1
      rw [show k9 - tys.length = 0 by omega] at hx
      cases hx
      exact ⟨hAr, fA⟩⟩
  obtain ⟨t, a1, b1⟩ := kk H.size (fun i => H.size + 1 + i) cA F.heap (fun i j _ _ h => by have h9 : H.size + 1 + i = H.size + 1 + j := h; omega) hnl hK2 (by rw [← vr_rows hnm]; exact vr_lay hP2) (by rw [← vr_rows hnm]; exact vr_layD hD2) ⟨by rw [f1]; have := hS.1; omega, fun x h1 h2 => (hold x (Nat.lt_of_lt_of_le h1 hS.1)).trans (hS.2.1 x h1 h2), hS.2.2⟩ F rfl X'
  refine ⟨t, step t ?_, b1⟩
  have e : T.heap.size = H.size := by rw [hT]
  rw [e]
  exact a1
end VGM
end
section
/-! ===== the law's step: new boolean[n][m] ===== -/
/-- what the new cells are: q the array of arrays, r i its rows -/
def mnQ (h h' : PH) (q : Nat) (r : Nat → Nat) (n m : Nat) : Prop :=
  (∀ a, a ≠ q → (∀ i, i < n → a ≠ r i) → h'.1 a = h.1 a ∧ h'.2.1 a = h.2.1 a ∧ h'.2.2.1 a = h.2.2.1 a ∧ h'.2.2.2 a = h.2.2.2 a) ∧
  qkd h' q = 24 ∧ qln h' q = n ∧ (∀ i, i < n → gr h' q i = some (r i)) ∧ (∀ i, i < n → qkd h' (r i) = 22 ∧ qln h' (r i) = m ∧ ∀ j, gi h' (r i) j = 0)
def qmna (M : MI) (k : KT) (pc c : Nat) (ls : Lc) (st : List Value) (h : PH) : Prop := match st with
  | .int m :: .int n :: rest => (¬ n < 0 ∧ ¬ m < 0 ∧ n.toNatClampNeg ≤ 12 ∧ m.toNatClampNeg ≤ 12) ∧ c + (1 + n.toNatClampNeg) ≤ M.cap ∧
    ∀ (h' : PH) (q : Nat) (r : Nat → Nat), 2000 ≤ q → qkd h q = 0 → (∀ i, i < n.toNatClampNeg → 2000 ≤ r i ∧ qkd h (r i) = 0 ∧ r i ≠ q) → (∀ i j, i < n.toNatClampNeg → j < n.toNatClampNeg → r i = r j → i = j) → mnQ h h' q r n.toNatClampNeg m.toNatClampNeg → Lw h h' →
      k (pc + 4) (c + (1 + n.toNatClampNeg)) ls (.ref q :: rest) h'
  | _ => False
/-- the heap with the new cells -/
noncomputable def mnw (h : PH) (q : Nat) (l : List Nat) (r : Nat → Nat) (n m : Nat) : PH :=
  (fun a => if a = q ∨ a ∈ l then fun _ => 0 else h.1 a, fun a => if a = q ∨ a ∈ l then fun _ => 0 else h.2.1 a,
   fun a => if a = q then (fun i => if i < n then some (r i) else none) else if a ∈ l then fun _ => none else h.2.2.1 a,
   fun a => if a = q then (fun j => if j = 0 then 24 else n) else if a ∈ l then (fun j => if j = 0 then 22 else m) else h.2.2.2 a)
theorem mnw_o {h : PH} {q : Nat} {l : List Nat} {r : Nat → Nat} {n m a : Nat} (h1 : a ≠ q) (h2 : a ∉ l) : (mnw h q l r n m).1 a = h.1 a ∧ (mnw h q l r n m).2.1 a = h.2.1 a ∧ (mnw h q l r n m).2.2.1 a = h.2.2.1 a ∧ (mnw h q l r n m).2.2.2 a = h.2.2.2 a := by
  have h3 : ¬ (a = q ∨ a ∈ l) := fun z => z.elim h1 h2
  exact ⟨if_neg h3, if_neg h3, (if_neg h1).trans (if_neg h2), (if_neg h1).trans (if_neg h2)⟩
theorem inner_z (c : ClassId) (K : Nat) : Jvm.Free.Multi.innerC c K (defaultValue .boolean) = vp_cell c (K, .inl (fun _ => 0)) := arrV_new ..
section
variable {M : MI} {Q : Res → PH → Prop} {Z : State → Prop} {p : Program} {l : Launch} {e : Env} {R : Room} {s : State} {m : MethodId} {args : Array Value} {below : List Frame} {meth : Method} {cc : Code} {ad : Nat → Nat} {cA : Nat → ClassId} {D : va_G} {A : Nat → Prop} {X : PH → va_W} {h0 : PH} {k : KT} {pc c : Nat} {ls : Lc} {st : List Value} {h : PH}
set_option maxHeartbeats 1000000 in
theorem bc_mna (hC : Cb M Q Z p l e R s m args below meth cc ad cA D A X h0) (hk : ∀ pc c ls st h, k pc c ls st h → BtC M Z p l e R s m args below meth cc ad cA D A X h0 pc c ls st h) {idx : Nat} (w1 : Cond.classLink M.y.cls idx "[[Z" ∈ tbG) (w2 : Cond.arrayClass .boolean ∈ tbG)
    (hd : decode M.b pc = .ok (.multianewarray idx 2, 4)) (hs : qmna M k pc c ls st h) : BtC M Z p l e R s m args below meth cc ad cA D A X h0 pc c ls st h := by
  intro H locs cells slots lsA hW hl h1 h2 h3
  obtain ⟨⟨hx, hb, hml, hown, hts⟩, hK, hA, hKQ, hCQ, hX, hfl, hst, hroom, hnm0, hend⟩ := hC
  obtain ⟨L, hP, hD, hS, hKd, hMd, hLw⟩ := hW
  unfold qmna at hs
  split at hs
  · rename_i kk n rest
    obtain ⟨⟨g1, g2, g3, g4⟩, hcap, hs⟩ := hs
    have hmul : n.toNatClampNeg * kk.toNatClampNeg ≤ n.toNatClampNeg * 12 := Nat.mul_le_mul_left _ g4
    refine va_mna (X := X h) (L := L) (f := fun a => celQ ad cA h (uq a)) (ty := .boolean) (cy := cA 6) (own := M.y.cls) (index := idx) (z := (kk.toNatClampNeg, .inl (fun _ => 0))) hx hb hown (hts _ w1) hCQ.2.2.2.2.2.2.2.2.1 (hts _ w2) (cA_name hK (t := 6) rfl (by intro C; exact nofun)) hK hP hD hS hA g1 g2 rfl rfl
      (by omega) (by show kk.toNatClampNeg * 1 ≤ 536870912; omega) (by omega) rfl rfl (by omega) (by omega) (fun c9 => inner_z c9 _) hd ?_
    intro q r cA1 H1 hinj hnl hK2 hP2 hD2 hS2
    have eA : cA1 = cA 8 := by
      have f1 := cA_name hK (t := 8) (ty := .array .boolean) rfl (by intro C; exact nofun)
      have hlen : ((pmTy cA) ++ [(cA1, FieldType.array .boolean)])[(pmTy cA).length]? = some (cA1, .array .boolean) := by rw [List.getElem?_append_right (Nat.le_refl _), Nat.sub_self]; rfl
      have f2 := (hK2.2 _ _ hlen).2
      unfold va_RA at f2
      exact Option.some.inj (f2.symm.trans f1)
    subst eA
    generalize hrows : (List.range n.toNatClampNeg).map r = rows at hP2 hD2
    have hq1 : ((X h ++ [(q, (Sum.inl (cA 8, n.toNatClampNeg, .inr (.inr (.inr (.inr (fun i => if i < n.toNatClampNeg then some (r i) else none))))) : va_E))]) ++ va_pl (L ++ rows) (vr_up (fun a => celQ ad cA h (uq a)) rows (.inl (cA 6, (kk.toNatClampNeg, .inl (fun _ => 0))))))[(X h).length]? = some (q, .inl (cA 8, n.toNatClampNeg, .inr (.inr (.inr (.inr (fun i => if i < n.toNatClampNeg then some (r i) else none)))))) := by
      rw [List.append_assoc, List.getElem?_append_right (Nat.le_refl _), Nat.sub_self]; rfl
    have hqn : q ∉ L ++ rows := by
      intro hm
      obtain ⟨i, hi⟩ := va_pl_get (X := X h ++ [(q, (Sum.inl (cA 8, n.toNatClampNeg, .inr (.inr (.inr (.inr (fun i => if i < n.toNatClampNeg then some (r i) else none))))) : va_E))]) (f := vr_up (fun a => celQ ad cA h (uq a)) rows (.inl (cA 6, (kk.toNatClampNeg, .inl (fun _ => 0))))) hm
      have e9 := hD2.1 _ _ _ _ hi hq1 rfl
      have : i < (X h).length + 1 := by omega
      rw [e9] at hi
      have hi2 := hq1.symm.trans hi
      -- the place of q among the later ones is behind its own
      have hpos : ∃ j : Nat, (L ++ rows)[j]? = some q := List.getElem?_of_mem hm
      obtain ⟨j, hj⟩ := hpos
      have hj2 : ((X h ++ [(q, (Sum.inl (cA 8, n.toNatClampNeg, .inr (.inr (.inr (.inr (fun i => if i < n.toNatClampNeg then some (r i) else none))))) : va_E))]) ++ va_pl (L ++ rows) (vr_up (fun a => celQ ad cA h (uq a)) rows (.inl (cA 6, (kk.toNatClampNeg, .inl (fun _ => 0))))))[(X h).length + 1 + j]? = some (q, vr_up (fun a => celQ ad cA h (uq a)) rows (.inl (cA 6, (kk.toNatClampNeg, .inl (fun _ => 0)))) q) := by
        rw [List.getElem?_append_right (by simp)]
        simp only [List.length_append, List.length_singleton]
        rw [show (X h).length + 1 + j - ((X h).length + 1) = j by omega]
        unfold va_pl
        rw [List.getElem?_map, hj]
        rfl
      have := hD2.1 _ _ _ _ hj2 hq1 rfl
      omega
    have hqL : q ∉ L := fun z => hqn (List.mem_append_left _ z)
    have hqr : q ∉ rows := fun z => hqn (List.mem_append_right _ z)
    have hfree : ∀ a, a ∉ L → qkd h (uq a) = 0 := by
      intro a ha
      by_cases z : qkd h (uq a) = 0
      · exact z
      · rcases hKd _ z with ⟨-, b, -⟩ | ⟨b, -⟩
        · rw [dq_uq] at b; exact absurd b ha
        · have := uq_ge a; omega
    have hr : ∀ i, i < n.toNatClampNeg → r i ∈ rows := fun i hi => by rw [← hrows]; exact List.mem_map.mpr ⟨i, List.mem_range.mpr hi, rfl⟩
    have hr2 : ∀ a, a ∈ rows → ∃ i, i < n.toNatClampNeg ∧ a = r i := fun a ha => by
      rw [← hrows] at ha
      obtain ⟨i, hi, e9⟩ := List.mem_map.mp ha
      exact ⟨i, List.mem_range.mp hi, e9.symm⟩
    let h' : PH := mnw h (uq q) (rows.map uq) (fun i => uq (r i)) n.toNatClampNeg kk.toNatClampNeg
    have hmr : ∀ a, uq a ∈ rows.map uq ↔ a ∈ rows := fun a => by
      constructor
      · intro z
        obtain ⟨b, hb1, hb2⟩ := List.mem_map.mp z
        rw [← uq_inj hb2]; exact hb1
      · exact fun z => List.mem_map_of_mem z
    have ho : ∀ a, a ≠ uq q → a ∉ rows.map uq → h'.1 a = h.1 a ∧ h'.2.1 a = h.2.1 a ∧ h'.2.2.1 a = h.2.2.1 a ∧ h'.2.2.2 a = h.2.2.2 a := fun a z1 z2 => mnw_o z1 z2
    have k4 : h'.2.2.2 (uq q) = fun j => if j = 0 then 24 else n.toNatClampNeg := if_pos rfl
    have k3 : h'.2.2.1 (uq q) = fun i => if i < n.toNatClampNeg then some (uq (r i)) else none := if_pos rfl
    have r4 : ∀ a, a ∈ rows → h'.2.2.2 (uq a) = fun j => if j = 0 then 22 else kk.toNatClampNeg := fun a ha => (if_neg (fun z => hqr (by rw [← uq_inj z]; exact ha))).trans (if_pos ((hmr a).mpr ha))
    have r1 : ∀ a, a ∈ rows → h'.1 (uq a) = fun _ => 0 := fun a ha => if_pos (Or.inr ((hmr a).mpr ha))
    have hlw : Lw h h' := fun a ha => ho a (by have := uq_ge q; omega) (fun z => by
      obtain ⟨b, -, hb2⟩ := List.mem_map.mp z
      have := uq_ge b
      omega)
    have kq : qkd h' (uq q) = 24 := by rw [qkd_hi (uq_hi _), k4]; rfl
    have kr : ∀ a, a ∈ rows → qkd h' (uq a) = 22 := fun a ha => by rw [qkd_hi (uq_hi _), r4 a ha]; rfl
    have lr : ∀ a, a ∈ rows → qln h' (uq a) = kk.toNatClampNeg := fun a ha => by unfold qln; rw [r4 a ha]; rfl
    have eq : ad (uq q) = q := (ad_own hCQ (uq_ge _)).trans (dq_uq _)
    have er : ∀ i, ad (uq (r i)) = r i := fun i => (ad_own hCQ (uq_ge _)).trans (dq_uq _)
    have cq : celQ ad cA h' (uq q) = .inl (cA 8, n.toNatClampNeg, .inr (.inr (.inr (.inr (fun i => if i < n.toNatClampNeg then some (r i) else none))))) := by
      rw [celQ_ar (t := 8) kq]
      unfold aeq qln
      rw [k4, k3]
      have : (fun j => (if j < n.toNatClampNeg then some (uq (r j)) else none).map ad) = fun i => if i < n.toNatClampNeg then some (r i) else none := by
        funext j
        split
        · show some (ad (uq (r j))) = _; rw [er]
        · rfl
      simp only [this]
      rfl
    have cr : ∀ a, a ∈ rows → celQ ad cA h' (uq a) = .inl (cA 6, (kk.toNatClampNeg, .inl (fun _ => 0))) := fun a ha => by
      rw [celQ_ar (t := 6) (kr a ha), lr a ha]
      unfold aeq
      rw [r1 a ha]
      rfl
    have hlist : (X h ++ [(q, (Sum.inl (cA 8, n.toNatClampNeg, .inr (.inr (.inr (.inr (fun i => if i < n.toNatClampNeg then some (r i) else none))))) : va_E))]) ++ va_pl (L ++ rows) (vr_up (fun a => celQ ad cA h (uq a)) rows (.inl (cA 6, (kk.toNatClampNeg, .inl (fun _ => 0))))) = X h' ++ pq ad cA h' (q :: (L ++ rows)) := by
      rw [hX _ _ hlw, List.append_assoc]
      refine congrArg (fun w => X h ++ w) ?_
      have e1 : va_pl (L ++ rows) (vr_up (fun a => celQ ad cA h (uq a)) rows (.inl (cA 6, (kk.toNatClampNeg, .inl (fun _ => 0))))) = pq ad cA h' (L ++ rows) := by
        refine pq_congr ?_
        intro a ha
        by_cases z : a ∈ rows
        · rw [vr_up_in z, cr a z]
        · rw [vr_up_ne z]
          exact (celQ_eq (ho (uq a) (fun w => hqn (by rw [← uq_inj w]; exact ha)) (fun w => z ((hmr a).mp w)))).symm
      rw [e1, ← cq]
      rfl
    rw [hlist] at hP2 hD2
    have hKd2 : KdOk h' (q :: (L ++ rows)) := by
      intro a ha
      by_cases z1 : a = uq q
      · subst z1
        exact Or.inl ⟨uq_ge _, by rw [dq_uq]; exact List.mem_cons_self, by rw [kq]; decide⟩
      · by_cases z2 : a ∈ rows.map uq
        · obtain ⟨b, hb1, hb2⟩ := List.mem_map.mp z2
          subst hb2
          exact Or.inl ⟨uq_ge _, by rw [dq_uq]; exact List.mem_cons_of_mem _ (List.mem_append_right _ hb1), by rw [kr b hb1]; decide⟩
        · have e9 : qkd h' a = qkd h a := by unfold qkd; rw [(ho a z1 z2).2.2.2]
          rw [e9] at ha ⊢
          rcases hKd a ha with ⟨q1, q2, q3⟩ | q1
          · exact Or.inl ⟨q1, List.mem_cons_of_mem _ (List.mem_append_left _ q2), q3⟩
          · exact Or.inr q1
    have hfin := hs h' (uq q) (fun i => uq (r i)) (uq_ge _) (hfree q hqL) (fun i hi => ⟨uq_ge _, hfree _ (hnl i hi), fun z => hqr (by rw [← uq_inj z]; exact hr i hi)⟩) (fun i j hi hj z => hinj i j hi hj (uq_inj z))
      ⟨fun a z1 z2 => ho a z1 (fun w => by
        obtain ⟨b, hb1, hb2⟩ := List.mem_map.mp w
        obtain ⟨i, hi, hbi⟩ := hr2 b hb1
        exact z2 i hi (by rw [← hb2, hbi])), kq, by unfold qln; rw [k4]; rfl, fun i hi => by unfold gr; rw [k3]; exact if_pos hi, fun i hi => ⟨kr _ (hr i hi), lr _ (hr i hi), fun j => by unfold gi; rw [r1 _ (hr i hi)]⟩⟩ hlw
    have hgo := hk _ _ _ _ _ hfin H1 locs (cells + 1 + n.toNatClampNeg) (slots + n.toNatClampNeg + n.toNatClampNeg * kk.toNatClampNeg) lsA ⟨q :: (L ++ rows), hP2, hD2, hS2, hKd2, hMd.trans hlw.md, fun z => (hLw z).trans hlw⟩ hl (by omega) (by omega) hcap
    have e9 : ((Value.ref (uq q) :: rest).map (tr ad)) = .ref q :: rest.map (tr ad) := by
      show Value.ref (ad (uq q)) :: _ = _
      rw [eq]
    rw [e9] at hgo
    exact hgo
  · cases hs
end
end
section
/-! ===== the law's machine: one step ===== -/
/-- a method with another room of its own -/
def wcap (M : MI) (n : Nat) : MI := (M.1, M.2.1, M.2.2.1, M.2.2.2.1, M.2.2.2.2.1, M.2.2.2.2.2.1, n, M.2.2.2.2.2.2.2.1, M.2.2.2.2.2.2.2.2)
/-- a static call whose cost is chosen -/
def qcv (mq : MI → List Value → PH → (Res → PH → Prop) → Prop) (M : MI) (k : KT) (pc : Nat) (M' : MI) (n rt : Nat) (c : Nat) (ls : Lc) (st : List Value) (h : PH) : Prop :=
  len9 n st <| cat8 (st.drop n) <| ∃ cp, c + cp ≤ M.cap ∧ mq (wcap M' cp) (st.take n).reverse h (conk rt (fun _ _ => False) (fun vs h' => FrM M' h h' → k (pc + 3) (c + cp) ls (vs ++ st.drop n) h'))
def qst (mq mp : MI → List Value → PH → (Res → PH → Prop) → Prop) (M : MI) (Q : Res → PH → Prop) (k : KT) (e : En) (c : Nat) (ls : Lc) (st : List Value) (h : PH) : Prop :=
  match e with
  | (pc, i, len, ax, ms) => match i with
    | .getfield _ => match ax with
      | [ci, j, so, _, _] => qget k pc c ls st h ci j so
      | _ => False
    | .putfield _ => match ax with
      | [ci, j, so, _, _] => qput k pc c ls st h ci j so
      | _ => False
    | .new _ => match ax with
      | ci :: _ => qnew M k pc c ls st h ci
      | _ => False
    | .newarray _ => match ax with
      | t :: _ => qnewa M k pc 2 c ls st h t
      | _ => False
    | .anewarray _ => qnewa M k pc 3 c ls st h 7
    | .multianewarray _ _ => qmna M k pc c ls st h
    | .iaload => qald k 0 pc c ls st h
    | .baload => match ax with
      | t :: _ => qald k t pc c ls st h
      | _ => False
    | .aaload => match ax with
      | t :: _ => qald k t pc c ls st h
      | _ => False
    | .iastore => qast k 0 pc c ls st h
    | .bastore => match ax with
      | t :: _ => qast k t pc c ls st h
      | _ => False
    | .aastore => qast k 7 pc c ls st h
    | .arraylength => qaln k pc c ls st h
    | .checkcast _ => match ax with
      | t :: _ => qcast k t pc c ls st h
      | _ => False
    | .getstatic _ => qgst k pc c ls st h ax
    | .ldc _ => qldc k pc c ls st h ax
    | .if_acmp cd _ => match ax with
      | t :: _ => qacmp k pc t c cd ls st h
      | _ => False
    | .dup_x1 => match st with
      | x :: y :: r => (x.category = 1 ∧ y.category = 1) ∧ k (pc + 1) c ls (x :: y :: x :: r) h
      | _ => False
    | .ineg => match st with
      | .int x :: r => k (pc + 1) c ls (.int (-x) :: r) h
      | _ => False
    | .areturn => str Q 5 st h
    | .invokevirtual _ => match ax, ms with
      | kind :: n :: rt :: rc :: mcv :: _, [M'] => qcal mq mp M k pc M' kind n rt rc mcv c ls st h
      | kind :: _, [] => qnat k pc kind c ls st h
      | _, _ => False
    | .invokestatic _ => match ax, ms with
      | 8 :: n :: rt :: _, [M'] => qcv mq M k pc M' n rt c ls st h
      | kind :: n :: rt :: rc :: mcv :: _, [M'] => qcal mq mp M k pc M' kind n rt rc mcv c ls st h
      | kind :: _, [] => qnat k pc kind c ls st h
      | _, _ => False
    | .invokespecial _ => match ax, ms with
      | kind :: n :: rt :: rc :: mcv :: _, [M'] => qcal mq mp M k pc M' kind n rt rc mcv c ls st h
      | kind :: _, [] => qnat k pc kind c ls st h
      | _, _ => False
    | .invokeinterface _ _ => match ax, ms with
      | kind :: n :: rt :: rc :: mcv :: _, [M'] => qcal mq mp M k pc M' kind n rt rc mcv c ls st h
      | _, _ => False
    | _ => stp mp M Q k k e c ls st h
def okQc (M M' : MI) (n rt mcv : Nat) : Bool := calB M M' n mcv rt && (!(flQ M') || flQ M)
def okQ (M : MI) (e : En) : Bool := match e with
  | (pc, i, len, ax, ms) => match i with
    | .getfield idx => decide (decode M.b pc = .ok (.getfield idx, 3)) && (match ax with
      | [ci, j, so, p, nst] => fldQ M idx ci j so p nst
      | _ => false)
    | .putfield idx => decide (decode M.b pc = .ok (.putfield idx, 3)) && (match ax with
      | [ci, j, so, p, nst] => fldQ M idx ci j so p nst && !(Nat.beq nst 1) && (match pmCl[ci]? with
        | some (_, T, _) => !(T j).2.2.2 || (decide (M.y.name = "<init>") && decide ((T j).1 = M.y.cls))
        | none => false)
      | _ => false)
    | .new idx => decide (decode M.b pc = .ok (.new idx, 3)) && (match ax with
      | [ci, p1, p2, p3] => Nat.ble 9 ci && (match pmCl[ci]? with
        | some (C, _, N) => atW p1 (.classLink M.y.cls idx C) && atW p2 (.instantiable C N) && atW p3 (.initialized C)
        | none => false)
      | _ => false)
    | .newarray at' => decide (decode M.b pc = .ok (.newarray at', 2)) && (match ax with
      | [t, p] => ((Nat.beq t 0 && decide (newarray.typeOf at' = .int)) || (Nat.beq t 1 && decide (newarray.typeOf at' = .byte))) && atW p (.arrayClass (newarray.typeOf at'))
      | _ => false)
    | .anewarray idx => decide (decode M.b pc = .ok (.anewarray idx, 3)) && (match ax with
      | [p] => atW p (.classLink M.y.cls idx "java/lang/Object")
      | _ => false)
    | .multianewarray idx _ => decide (decode M.b pc = .ok (.multianewarray idx 2, 4)) && (match ax with
      | [p1, p2] => atW p1 (.classLink M.y.cls idx "[[Z") && atW p2 (.arrayClass .boolean)
      | _ => false)
    | .iaload => decide (decode M.b pc = .ok (.iaload, 1))
    | .baload => decide (decode M.b pc = .ok (.baload, 1)) && (match ax with
      | [t] => Nat.beq t 1 || Nat.beq t 6
      | _ => false)
    | .aaload => decide (decode M.b pc = .ok (.aaload, 1)) && (match ax with
      | [t] => Nat.beq t 7 || Nat.beq t 8
      | _ => false)
    | .iastore => decide (decode M.b pc = .ok (.iastore, 1))
    | .bastore => decide (decode M.b pc = .ok (.bastore, 1)) && (match ax with
      | [t] => Nat.beq t 1 || Nat.beq t 6
      | _ => false)
    | .aastore => decide (decode M.b pc = .ok (.aastore, 1))
    | .arraylength => decide (decode M.b pc = .ok (.arraylength, 1))
    | .checkcast idx => decide (decode M.b pc = .ok (.checkcast idx, 3)) && (match ax with
      | [0, p] => atW p (.classLink M.y.cls idx RX12)
      | [1, p] => atW p (.classLink M.y.cls idx "[Ljava/lang/Object;")
      | _ => false)
    | .getstatic idx => decide (decode M.b pc = .ok (.getstatic idx, 3)) && (match ax with
      | [0, i, p] => gQ.any (fun q => Nat.beq q.2.2.2 i && atW p (.fieldLink M.y.cls idx q.1 q.2.1 q.2.2.1))
      | [1, _, p] => atW p (.fieldLink M.y.cls idx "java/lang/String" "COMPACT_STRINGS" "Z")
      | [2, _, p] => atW p (.fieldLink M.y.cls idx cPre cFmt cBiF)
      | _ => false)
    | .ldc idx => decide (decode M.b pc = .ok (.ldc idx, 2)) && (match ax with
      | [n, p] => atW p (.constant M.y.cls idx (nI n))
      | [i] => decide (M.y.cls = RX13) && (match sQi[i]? with
        | some (j, _) => Nat.beq j idx
        | none => false)
      | [_, _, p] => atW p (.classLink M.y.cls idx "[Ljava/lang/Object;")
      | _ => false)
    | .if_acmp cd off => decide (decode M.b pc = .ok (.if_acmp cd off, 3)) && (match ax with
      | [t] => decide ((pc : Int) + off = (t : Int))
      | _ => false)
    | .dup_x1 => decide (decode M.b pc = .ok (.dup_x1, 1))
    | .ineg => decide (decode M.b pc = .ok (.ineg, 1))
    | .areturn => decide (decode M.b pc = .ok (.areturn, 1)) && (match M.ret with
      | some (.object _) => true
      | some (.array _) => true
      | _ => false)
    | .invokevirtual idx => decide (decode M.b pc = .ok (.invokevirtual idx, 3)) && (match ax, ms with
      | 0 :: n :: rt :: rc :: mcv :: [p], [M'] => okQc M M' n rt mcv && Nat.beq M'.sk 0 && atW p (.methodLink M.y.cls idx M'.y) && decide (rcN rc = M'.y.cls) && Nat.ble 1 rc && Nat.ble rc 6
      | 5 :: n :: rt :: rc :: mcv :: [p, p1, p2], [M'] => okQc M M' n rt mcv && Nat.beq M'.sk 4 && atW p (.methodLink M.y.cls idx M'.y) && atW p1 (.sameMethod M'.y.cls M'.y.cls M'.y.name M'.y.desc) && atW p2 (.selects (rcN rc) M'.y M'.y) && Nat.ble 1 rc && Nat.ble rc 6
      | 13 :: n :: rt :: rc :: mcv :: [p, p1, p2, p3], [M'] => okQc M M' n rt mcv && Nat.beq M'.sk 4 && atW p (.methodLink M.y.cls idx M'.y) && atW p1 (.sameMethod M'.y.cls M'.y.cls M'.y.name M'.y.desc) && atW p2 (.privateMethod M'.y) && atW p3 (.selects (rcN rc) yJ5_isLatin1_aae02 yJ5_isLatin1_aae02) && decide (yJ5_isLatin1_aae02.cls = M'.y.cls) && Nat.ble 1 rc && Nat.ble rc 6
      | 14 :: n :: rt :: rc :: mcv :: [p, p1, p2, p3, p4], [M'] => okQc M M' n rt mcv && Nat.beq M'.sk 4 && atW p (.methodLink M.y.cls idx yJ5_length_8abf5) && atW p1 (.sameMethod yJ5_length_8abf5.cls yJ5_length_8abf5.cls yJ5_length_8abf5.name yJ5_length_8abf5.desc) && atW p2 (.instanceMethod yJ5_length_8abf5) && atW p3 (.selects (rcN rc) yJ5_length_8abf5 M'.y) && atW p4 (.code yJ5_length_8abf5 cJ5_length_8abf5 1 (some .int)) && decide (yJ5_length_8abf5.desc = M'.y.desc) && Nat.ble 1 rc && Nat.ble rc 6
      | 9 :: n :: rt :: _ :: mcv :: [p], [M'] => okQc M M' n rt mcv && flQ M && Nat.beq M'.sk 0 && atW p (.methodLink M.y.cls idx M'.y) && decide (M'.y.cls = RX11)
      | [17, p], [] => Nat.ble 1 M.fr && Nat.ble 60 M.lo && atW p (.methodLink M.y.cls idx ⟨"java/lang/Object", "getClass", "()Ljava/lang/Class;"⟩)
      | _, _ => false)
    | .invokestatic idx => decide (decode M.b pc = .ok (.invokestatic idx, 3)) && (match ax, ms with
      | 1 :: n :: rt :: _ :: mcv :: [p], [M'] => okQc M M' n rt mcv && (Nat.beq M'.sk 1 || Nat.beq M'.sk 5) && atW p (.methodLink M.y.cls idx M'.y)
      | 8 :: n :: rt :: _ :: mcv :: [p], [M'] => okQc M M' n rt mcv && (Nat.beq M'.sk 1 || Nat.beq M'.sk 5) && atW p (.methodLink M.y.cls idx M'.y)
      | 2 :: n :: rt :: _ :: mcv :: [p], [M'] => okQc M M' n rt mcv && (Nat.beq M'.sk 1 || Nat.beq M'.sk 5) && (match XQ[p]? with
        | some w => decide (w = .methodLinkNest M.y.cls idx M'.y RL)
        | none => false)
      | [10, p], [] => Nat.ble 1 M.fr && Nat.ble 60 M.lo && atW p (.methodLink M.y.cls idx Lib.Math.min.name)
      | [11, p], [] => Nat.ble 1 M.fr && Nat.ble 60 M.lo && atW p (.methodLink M.y.cls idx Lib.Math.max.name)
      | [12, p], [] => Nat.ble 1 M.fr && Nat.ble 60 M.lo && atW p (.methodLink M.y.cls idx Lib.Math.abs.name)
      | [15, p], [] => Nat.ble 1 M.fr && Nat.ble 60 M.lo && atW p (.methodLink M.y.cls idx arraycopyName)
      | [16, p], [] => Nat.ble 1 M.fr && Nat.ble 60 M.lo && atW p (.methodLink M.y.cls idx arraycopyName)
      | _, _ => false)
    | .invokespecial idx => decide (decode M.b pc = .ok (.invokespecial idx, 3)) && (match ax, ms with
      | 3 :: n :: rt :: _ :: mcv :: [p], [M'] => okQc M M' n rt mcv && Nat.beq M'.sk 2 && atW p (.methodLink M.y.cls idx M'.y)
      | 4 :: n :: rt :: _ :: mcv :: [p], [M'] => okQc M M' n rt mcv && Nat.beq M'.sk 2 && (match XQ[p]? with
        | some w => decide (w = .methodLinkNest M.y.cls idx M'.y RL)
        | none => false)
      | 6 :: n :: rt :: rc :: mcv :: [p, p1, p2], [M'] => okQc M M' n rt mcv && Nat.beq M'.sk 4 && atW p (.methodLink M.y.cls idx M'.y) && atW p1 (.sameMethod M'.y.cls M'.y.cls M'.y.name M'.y.desc) && atW p2 (.superclass M.y.cls M'.y.cls) && decide (M'.y.name ≠ "<init>") && Nat.ble 1 rc && Nat.ble rc 6
      | [18, p], [] => Nat.ble 1 M.fr && Nat.ble 60 M.lo && atW p (.methodLink M.y.cls idx Lib.objectInit)
      | _, _ => false)
    | .invokeinterface idx cn => decide (decode M.b pc = .ok (.invokeinterface idx cn, 5)) && (match ax, ms with
      | 7 :: n :: rt :: rc :: mcv :: [p, f, p2], [M'] => okQc M M' n rt mcv && Nat.beq M'.sk 0 && (match FQ[f]? with
        | some x => decide (x.1 = rcN rc) && decide (x.2.2 = M'.y) && decide (x.2.1.desc = M'.y.desc) && atW p (.methodLink M.y.cls idx x.2.1) && atW p2 (.selects (rcN rc) x.2.1 M'.y)
        | none => false) && Nat.ble 1 rc && Nat.ble rc 6
      | _, _ => false)
    | _ => pureI i && okE M e
end
section
/-! ===== the law's machine: one step is sound ===== -/
theorem MOQ.wc {M : MI} {n : Nat} (h : MOQ M) : MOQ (wcap M n) := h
theorem okQc_of {M M' : MI} {n rt mcv : Nat} (h : okQc M M' n rt mcv = true) : calB M M' n mcv rt = true ∧ (flQ M' = true → flQ M = true) := by
  unfold okQc at h
  simp only [Bool.and_eq_true, Bool.or_eq_true] at h
  refine ⟨h.1, fun z => ?_⟩
  rcases h.2 with w | w
  · rw [z] at w; cases w
  · exact w
section
variable {M : MI} {Q : Res → PH → Prop} {Z : State → Prop} {p : Program} {l : Launch} {e : Env} {R : Room} {s : State} {m : MethodId} {args : Array Value} {below : List Frame} {meth : Method} {cc : Code} {ad : Nat → Nat} {cA : Nat → ClassId} {D : va_G} {A : Nat → Prop} {X : PH → va_W} {h0 : PH} {k : KT} {c : Nat} {ls : Lc} {st : List Value} {h : PH}
set_option maxHeartbeats 2000000 in
theorem qst_btC (hC : Cb M Q Z p l e R s m args below meth cc ad cA D A X h0) (hk : ∀ pc c ls st h, k pc c ls st h → BtC M Z p l e R s m args below meth cc ad cA D A X h0 pc c ls st h)
    {en : En} (hE : okQ M en = true) (hms : ∀ M' ∈ en.2.2.2.2, MOQ M') (hs : qst MetQ MetPM M Q k en c ls st h) : BtC M Z p l e R s m args below meth cc ad cA D A X h0 en.1 c ls st h := by
  obtain ⟨pc, i, len, ax, ms⟩ := en
  have hx := hC.1.1
  have hb := hC.1.2.1
  show BtC M Z p l e R s m args below meth cc ad cA D A X h0 pc c ls st h
  cases i with
  | getfield idx =>
    simp only [okQ, Bool.and_eq_true, decide_eq_true_eq] at hE
    obtain ⟨hd, hE⟩ := hE
    simp only [qst] at hs
    split at hs
    · exact bc_get hC hk hd hE hs
    · cases hs
  | putfield idx =>
    simp only [okQ, Bool.and_eq_true, decide_eq_true_eq] at hE
    obtain ⟨hd, hE⟩ := hE
    simp only [qst] at hs
    split at hs
    · simp only [Bool.and_eq_true, Bool.not_eq_true'] at hE
      obtain ⟨⟨e1, e2⟩, e3⟩ := hE
      exact bc_put hC hk hd e1 e2 e3 hs
    · cases hs
  | new idx =>
    simp only [okQ, Bool.and_eq_true, decide_eq_true_eq] at hE
    obtain ⟨hd, hE⟩ := hE
    split at hE
    · rename_i ci p1 p2 p3
      simp only [Bool.and_eq_true] at hE
      obtain ⟨e1, hE⟩ := hE
      split at hE
      · rename_i C T N hc
        simp only [Bool.and_eq_true] at hE
        exact bc_new hC hk (Nat.le_of_ble_eq_true e1) hc (tbG_at hE.1.1) (tbG_at hE.1.2) (tbG_at hE.2) hd hs
      · cases hE
    · cases hE
  | newarray at' =>
    simp only [okQ, Bool.and_eq_true, decide_eq_true_eq] at hE
    obtain ⟨hd, hE⟩ := hE
    split at hE
    · rename_i t p1
      simp only [Bool.and_eq_true, Bool.or_eq_true, decide_eq_true_eq] at hE
      exact bc_newa hC hk (hE.1.imp (fun z => ⟨Nat.eq_of_beq_eq_true z.1, z.2⟩) (fun z => ⟨Nat.eq_of_beq_eq_true z.1, z.2⟩)) (tbG_at hE.2) hd hs
    · cases hE
  | anewarray idx =>
    simp only [okQ, Bool.and_eq_true, decide_eq_true_eq] at hE
    obtain ⟨hd, hE⟩ := hE
    split at hE
    · exact bc_newq hC hk (tbG_at hE) hd hs
    · cases hE
  | multianewarray idx dm =>
    simp only [okQ, Bool.and_eq_true, decide_eq_true_eq] at hE
    obtain ⟨hd, hE⟩ := hE
    split at hE
    · simp only [Bool.and_eq_true] at hE
      exact bc_mna hC hk (tbG_at hE.1) (tbG_at hE.2) hd hs
    · cases hE
  | iaload =>
    simp only [okQ, decide_eq_true_eq] at hE
    exact bc_ald hC hk (t := 0) hE hs
  | baload =>
    simp only [okQ, Bool.and_eq_true, decide_eq_true_eq] at hE
    obtain ⟨hd, hE⟩ := hE
    split at hE
    · rename_i t
      simp only [Bool.or_eq_true] at hE
      rcases hE with hE | hE
      · obtain rfl := Nat.eq_of_beq_eq_true hE
        exact bc_ald hC hk (t := 1) hd hs
      · obtain rfl := Nat.eq_of_beq_eq_true hE
        exact bc_ald hC hk (t := 6) hd hs
    · cases hE
  | aaload =>
    simp only [okQ, Bool.and_eq_true, decide_eq_true_eq] at hE
    obtain ⟨hd, hE⟩ := hE
    split at hE
    · rename_i t
      simp only [Bool.or_eq_true] at hE
      rcases hE with hE | hE
      · obtain rfl := Nat.eq_of_beq_eq_true hE
        exact bc_ald hC hk (t := 7) hd hs
      · obtain rfl := Nat.eq_of_beq_eq_true hE
        exact bc_ald hC hk (t := 8) hd hs
    · cases hE
  | iastore =>
    simp only [okQ, decide_eq_true_eq] at hE
    exact bc_ast hC hk (t := 0) hE hs
  | bastore =>
    simp only [okQ, Bool.and_eq_true, decide_eq_true_eq] at hE
    obtain ⟨hd, hE⟩ := hE
    split at hE
    · rename_i t
      simp only [Bool.or_eq_true] at hE
      rcases hE with hE | hE
      · obtain rfl := Nat.eq_of_beq_eq_true hE
        exact bc_ast hC hk (t := 1) hd hs
      · obtain rfl := Nat.eq_of_beq_eq_true hE
        exact bc_ast hC hk (t := 6) hd hs
    · cases hE
  | aastore =>
    simp only [okQ, decide_eq_true_eq] at hE
    exact bc_ast hC hk (t := 7) hE hs
  | arraylength =>
    simp only [okQ, decide_eq_true_eq] at hE
    exact bc_aln hC hk hE hs
  | checkcast idx =>
    simp only [okQ, Bool.and_eq_true, decide_eq_true_eq] at hE
    obtain ⟨hd, hE⟩ := hE
    split at hE
    · exact bc_cast hC hk (t := 0) (tbG_at hE) hd hs
    · exact bc_cast hC hk (t := 1) (tbG_at hE) hd hs
    · cases hE
  | getstatic idx =>
    simp only [okQ, Bool.and_eq_true, decide_eq_true_eq] at hE
    obtain ⟨hd, hE⟩ := hE
    refine bc_gst hC hk (ax := ax) ?_ hd hs
    split at hE
    · obtain ⟨q, hq, hE⟩ := List.any_eq_true.mp hE
      simp only [Bool.and_eq_true] at hE
      exact ⟨q, hq, Nat.eq_of_beq_eq_true hE.1, tbG_at hE.2⟩
    · exact tbG_at hE
    · exact tbG_at hE
    · cases hE
  | ldc idx =>
    simp only [okQ, Bool.and_eq_true, decide_eq_true_eq] at hE
    obtain ⟨hd, hE⟩ := hE
    refine bc_ldc hC hk (ax := ax) ?_ hd hs
    split at hE
    · exact tbG_at hE
    · simp only [Bool.and_eq_true, decide_eq_true_eq] at hE
      obtain ⟨e1, hE⟩ := hE
      split at hE
      · rename_i j tx hj
        exact ⟨e1, tx, by rw [← Nat.eq_of_beq_eq_true hE]; exact hj⟩
      · cases hE
    · exact tbG_at hE
    · cases hE
  | if_acmp cd off =>
    simp only [okQ, Bool.and_eq_true, decide_eq_true_eq] at hE
    obtain ⟨hd, hE⟩ := hE
    split at hE
    · exact bc_acmp hC hk hd (of_decide_eq_true hE) hs
    · cases hE
  | dup_x1 =>
    simp only [okQ, decide_eq_true_eq] at hE
    simp only [qst] at hs
    split at hs
    · rename_i x y r
      obtain ⟨⟨c1, c2⟩, hs⟩ := hs
      intro H locs cells slots lsA hW hl h1 h2 h3
      exact lv_dup_x1 hx hb hE (by rw [tr_cat]; exact c1) (by rw [tr_cat]; exact c2) (hk _ _ _ _ _ hs H locs cells slots lsA hW hl h1 h2 h3)
    · cases hs
  | ineg =>
    simp only [okQ, decide_eq_true_eq] at hE
    simp only [qst] at hs
    split at hs
    · intro H locs cells slots lsA hW hl h1 h2 h3
      exact lv_ineg hx hb hE (hk _ _ _ _ _ hs H locs cells slots lsA hW hl h1 h2 h3)
    · cases hs
  | areturn =>
    simp only [okQ, Bool.and_eq_true, decide_eq_true_eq] at hE
    obtain ⟨hd, hE⟩ := hE
    refine bc_str hC (rt := 5) hd (fun v hv => ⟨?_, hv⟩) hs
    split at hE
    · rename_i n hn; exact Or.inl ⟨n, hn⟩
    · rename_i n hn; exact Or.inr ⟨n, hn⟩
    · cases hE
  | invokevirtual idx =>
    simp only [okQ, Bool.and_eq_true, decide_eq_true_eq] at hE
    obtain ⟨hd, hE⟩ := hE
    split at hE
    · simp only [Bool.and_eq_true, decide_eq_true_eq] at hE
      obtain ⟨⟨⟨⟨⟨e1, e2⟩, e3⟩, e4⟩, e5⟩, e6⟩ := hE
      have e1 := okQc_of e1
      exact bc_cal (kind := 0) hC hk (hms _ List.mem_cons_self) hd e1.1 e1.2 ⟨Nat.eq_of_beq_eq_true e2, tbG_at e3, e4, Nat.le_of_ble_eq_true e5, Nat.le_of_ble_eq_true e6⟩ hs
    · simp only [Bool.and_eq_true, decide_eq_true_eq] at hE
      obtain ⟨⟨⟨⟨⟨⟨e1, e2⟩, e3⟩, e4⟩, e4'⟩, e5⟩, e6⟩ := hE
      have e1 := okQc_of e1
      exact bc_cal (kind := 5) hC hk (hms _ List.mem_cons_self) hd e1.1 e1.2 ⟨Nat.eq_of_beq_eq_true e2, tbG_at e3, tbG_at e4, tbG_at e4', Nat.le_of_ble_eq_true e5, Nat.le_of_ble_eq_true e6⟩ hs
    · simp only [Bool.and_eq_true, decide_eq_true_eq] at hE
      obtain ⟨⟨⟨⟨⟨⟨⟨⟨e1, e2⟩, e3⟩, e4⟩, e4'⟩, e7⟩, e8⟩, e5⟩, e6⟩ := hE
      have e1 := okQc_of e1
      exact bc_cal (kind := 13) hC hk (hms _ List.mem_cons_self) hd e1.1 e1.2 ⟨Nat.eq_of_beq_eq_true e2, tbG_at e3, tbG_at e4, tbG_at e4', ⟨_, e8, tbG_at e7⟩, Nat.le_of_ble_eq_true e5, Nat.le_of_ble_eq_true e6⟩ hs
    · simp only [Bool.and_eq_true, decide_eq_true_eq] at hE
      obtain ⟨⟨⟨⟨⟨⟨⟨⟨⟨e1, e2⟩, e3⟩, e4⟩, e4'⟩, e7⟩, e8⟩, e9⟩, e5⟩, e6⟩ := hE
      have e1 := okQc_of e1
      exact bc_cal (kind := 14) hC hk (hms _ List.mem_cons_self) hd e1.1 e1.2 ⟨Nat.eq_of_beq_eq_true e2, ⟨_, _, _, _, tbG_at e3, tbG_at e4, tbG_at e4', tbG_at e7, tbG_at e8, e9, by decide, by decide⟩, Nat.le_of_ble_eq_true e5, Nat.le_of_ble_eq_true e6⟩ hs
    · simp only [Bool.and_eq_true, decide_eq_true_eq] at hE
      obtain ⟨⟨⟨⟨e1, e2⟩, e3⟩, e4⟩, e5⟩ := hE
      have e1 := okQc_of e1
      exact bc_cal (kind := 9) (rc := 0) hC hk (hms _ List.mem_cons_self) hd e1.1 e1.2 ⟨e2, Nat.eq_of_beq_eq_true e3, tbG_at e4, e5⟩ hs
    · simp only [Bool.and_eq_true] at hE
      exact bc_nat (kind := 17) hC hk ⟨Nat.le_of_ble_eq_true hE.1.1, Nat.le_of_ble_eq_true hE.1.2⟩ hd (tbG_at hE.2) hs
    · cases hE
  | invokestatic idx =>
    simp only [okQ, Bool.and_eq_true, decide_eq_true_eq] at hE
    obtain ⟨hd, hE⟩ := hE
    split at hE
    · simp only [Bool.and_eq_true, Bool.or_eq_true] at hE
      obtain ⟨⟨e1, e2⟩, e3⟩ := hE
      have e1 := okQc_of e1
      exact bc_cal (kind := 1) (rc := 0) hC hk (hms _ List.mem_cons_self) hd e1.1 e1.2 ⟨e2.imp Nat.eq_of_beq_eq_true Nat.eq_of_beq_eq_true, tbG_at e3⟩ hs
    · rename_i n rt x9 mcv p9 M'
      simp only [Bool.and_eq_true, Bool.or_eq_true] at hE
      obtain ⟨⟨e1, e2⟩, e3⟩ := hE
      have e1 := okQc_of e1
      have hs : qcv MetQ M k pc M' n rt c ls st h := hs
      unfold qcv at hs
      obtain ⟨hlen0, hs⟩ := len9_of hs
      obtain ⟨h8, cp, hcp, hs⟩ := cat8_of hs
      have hB : calB M (wcap M' cp) n cp rt = true := by
        have hB0 := e1.1
        unfold calB at hB0 ⊢
        simp only [Bool.and_eq_true] at hB0 ⊢
        exact ⟨⟨⟨⟨Nat.beq_refl cp, hB0.1.1.1.2⟩, hB0.1.1.2⟩, hB0.1.2⟩, hB0.2⟩
      refine bc_cal (kind := 1) (rc := 0) (M' := wcap M' cp) hC hk (hms M' List.mem_cons_self).wc hd hB e1.2 ⟨e2.imp Nat.eq_of_beq_eq_true Nat.eq_of_beq_eq_true, tbG_at e3⟩ ?_
      show len9 n st _
      unfold len9
      rw [Nat.ble_eq.mpr hlen0]
      show cat8 (st.drop n) _
      unfold cat8
      rw [Nat.ble_eq.mpr h8]
      show capk c cp M.cap _
      cases cp with
      | zero => exact hs
      | succ cp => exact ⟨hcp, hs⟩
    · simp only [Bool.and_eq_true, Bool.or_eq_true] at hE
      obtain ⟨⟨e1, e2⟩, e3⟩ := hE
      have e1 := okQc_of e1
      split at e3
      · rename_i w hw
        exact bc_cal (kind := 2) (rc := 0) hC hk (hms _ List.mem_cons_self) hd e1.1 e1.2 ⟨e2.imp Nat.eq_of_beq_eq_true Nat.eq_of_beq_eq_true, by rw [← of_decide_eq_true e3]; exact List.mem_of_getElem? hw⟩ hs
      · cases e3
    · simp only [Bool.and_eq_true] at hE
      exact bc_nat (kind := 10) hC hk ⟨Nat.le_of_ble_eq_true hE.1.1, Nat.le_of_ble_eq_true hE.1.2⟩ hd (tbG_at hE.2) hs
    · simp only [Bool.and_eq_true] at hE
      exact bc_nat (kind := 11) hC hk ⟨Nat.le_of_ble_eq_true hE.1.1, Nat.le_of_ble_eq_true hE.1.2⟩ hd (tbG_at hE.2) hs
    · simp only [Bool.and_eq_true] at hE
      exact bc_nat (kind := 12) hC hk ⟨Nat.le_of_ble_eq_true hE.1.1, Nat.le_of_ble_eq_true hE.1.2⟩ hd (tbG_at hE.2) hs
    · simp only [Bool.and_eq_true] at hE
      exact bc_nat (kind := 15) hC hk ⟨Nat.le_of_ble_eq_true hE.1.1, Nat.le_of_ble_eq_true hE.1.2⟩ hd (tbG_at hE.2) hs
    · simp only [Bool.and_eq_true] at hE
      exact bc_nat (kind := 16) hC hk ⟨Nat.le_of_ble_eq_true hE.1.1, Nat.le_of_ble_eq_true hE.1.2⟩ hd (tbG_at hE.2) hs
    · cases hE
  | invokespecial idx =>
    simp only [okQ, Bool.and_eq_true, decide_eq_true_eq] at hE
    obtain ⟨hd, hE⟩ := hE
    split at hE
    · simp only [Bool.and_eq_true] at hE
      obtain ⟨⟨e1, e2⟩, e3⟩ := hE
      have e1 := okQc_of e1
      exact bc_cal (kind := 3) (rc := 0) hC hk (hms _ List.mem_cons_self) hd e1.1 e1.2 ⟨Nat.eq_of_beq_eq_true e2, tbG_at e3⟩ hs
    · simp only [Bool.and_eq_true] at hE
      obtain ⟨⟨e1, e2⟩, e3⟩ := hE
      have e1 := okQc_of e1
      split at e3
      · rename_i w hw
        exact bc_cal (kind := 4) (rc := 0) hC hk (hms _ List.mem_cons_self) hd e1.1 e1.2 ⟨Nat.eq_of_beq_eq_true e2, by rw [← of_decide_eq_true e3]; exact List.mem_of_getElem? hw⟩ hs
      · cases e3
    · simp only [Bool.and_eq_true, decide_eq_true_eq] at hE
      obtain ⟨⟨⟨⟨⟨⟨⟨e1, e2⟩, e3⟩, e4⟩, e4'⟩, e7⟩, e5⟩, e6⟩ := hE
      have e1 := okQc_of e1
      exact bc_cal (kind := 6) hC hk (hms _ List.mem_cons_self) hd e1.1 e1.2 ⟨Nat.eq_of_beq_eq_true e2, tbG_at e3, tbG_at e4, tbG_at e4', e7, Nat.le_of_ble_eq_true e5, Nat.le_of_ble_eq_true e6⟩ hs
    · simp only [Bool.and_eq_true] at hE
      exact bc_nat (kind := 18) hC hk ⟨Nat.le_of_ble_eq_true hE.1.1, Nat.le_of_ble_eq_true hE.1.2⟩ hd (tbG_at hE.2) hs
    · cases hE
  | invokeinterface idx cn =>
    simp only [okQ, Bool.and_eq_true, decide_eq_true_eq] at hE
    obtain ⟨hd, hE⟩ := hE
    split at hE
    · simp only [Bool.and_eq_true] at hE
      obtain ⟨⟨⟨⟨e1, e2⟩, e3⟩, e5⟩, e6⟩ := hE
      have e1 := okQc_of e1
      split at e3
      · rename_i x hx9
        simp only [Bool.and_eq_true, decide_eq_true_eq] at e3
        obtain ⟨⟨⟨⟨f1, f2⟩, f3⟩, f4⟩, f5⟩ := e3
        exact bc_cal (kind := 7) hC hk (hms _ List.mem_cons_self) ⟨cn, hd⟩ e1.1 e1.2 ⟨Nat.eq_of_beq_eq_true e2, x, List.mem_of_getElem? hx9, f1, f2, f3, tbG_at f4, tbG_at f5, Nat.le_of_ble_eq_true e5, Nat.le_of_ble_eq_true e6⟩ hs
      · cases e3
    · cases hE
  | _ =>
    simp only [okQ, Bool.and_eq_true] at hE
    exact stp_btC (mp := MetPM) (a := k) hC hk hE.2 hE.1 hs
end
end
section
/-! ===== the law's machine: a method's contract out of its entry; steps over a table ===== -/
theorem qst_ok {M : MI} {Q : Res → PH → Prop} {k : KT} {en : En} {c : Nat} {ls : Lc} {st : List Value} {h : PH} (hE : okQ M en = true) (hms : ∀ M' ∈ en.2.2.2.2, MOQ M') (hk : ∀ pc c ls st h, k pc c ls st h → Bt M Q pc c ls st h) (hs : qst MetQ MetPM M Q k en c ls st h) : Bt M Q en.1 c ls st h := by
  intro Z p l e R s m args below meth cc ad cA D A X h0 hC
  exact qst_btC hC (fun pc c ls st h h9 => hk pc c ls st h h9 Z p l e R s m args below meth cc ad cA D A X h0 hC) hE hms hs
def okCQ (M : MI) (C : Cd) : Bool := C.all (fun b => b.all (fun e => okQ M e))
def CdQ (M : MI) (C : Cd) : Prop := okCQ M C = true ∧ ∀ M' ∈ msC C, MOQ M'
/-- n steps, or up to a place where to stop -/
def vq (C : Cd) (M : MI) (Q : Res → PH → Prop) (stops : List Nat) : Nat → KT
  | 0 => Bt M Q
  | n + 1 => fun pc c ls st h => match stops.elem pc with
    | true => Bt M Q pc c ls st h
    | false => match lkE C pc with
      | some e => qst MetQ MetPM M Q (vq C M Q stops n) e c ls st h
      | none => False
theorem stepq_of {C : Cd} {M : MI} (hC : CdQ M C) {Q : Res → PH → Prop} {k : KT} (hk : ∀ pc c ls st h, k pc c ls st h → Bt M Q pc c ls st h) {pc c : Nat} {ls : Lc} {st : List Value} {h : PH} {e : En} (he : lkE C pc = some e) (hs : qst MetQ MetPM M Q k e c ls st h) : Bt M Q pc c ls st h := by
  obtain ⟨⟨b, hb, heb⟩, hpc⟩ := lkE_mem he
  have h1 := List.all_eq_true.mp (List.all_eq_true.mp hC.1 b hb) e heb
  have h2 : ∀ M' ∈ e.2.2.2.2, MOQ M' := fun M' hm => hC.2 M' (List.mem_flatMap.mpr ⟨b, hb, List.mem_flatMap.mpr ⟨e, heb, hm⟩⟩)
  rw [← hpc]
  exact qst_ok h1 h2 hk hs
theorem vq_ok {C : Cd} {M : MI} (hC : CdQ M C) {Q : Res → PH → Prop} {stops : List Nat} : ∀ (n pc c : Nat) (ls : Lc) (st : List Value) (h : PH), vq C M Q stops n pc c ls st h → Bt M Q pc c ls st h := by
  intro n
  induction n with
  | zero => intro pc c ls st h h9; exact h9
  | succ n ih =>
    intro pc c ls st h h9
    unfold vq at h9
    split at h9
    · exact h9
    · split at h9
      · rename_i e he
        exact stepq_of hC ih he h9
      · exact h9.elim
/-- from a stop on: the first step is taken -/
def vgq (C : Cd) (M : MI) (Q : Res → PH → Prop) (stops : List Nat) (n : Nat) : KT := fun pc c ls st h => match lkE C pc with
  | some e => qst MetQ MetPM M Q (vq C M Q stops n) e c ls st h
  | none => False
theorem vgq_ok {C : Cd} {M : MI} (hC : CdQ M C) {Q : Res → PH → Prop} {stops : List Nat} (n pc c : Nat) (ls : Lc) (st : List Value) (h : PH) (h9 : vgq C M Q stops n pc c ls st h) : Bt M Q pc c ls st h := by
  unfold vgq at h9
  split at h9
  · rename_i e he
    exact stepq_of hC (vq_ok hC n) he h9
  · exact h9.elim
set_option maxHeartbeats 1000000 in
theorem met_ofQ {M : MI} {as : List Value} {h : PH} {Q : Res → PH → Prop} (hM : MOQ M) (hfr : (ent as).length ≤ M.nl) (hat : Bt M Q 0 0 (entL M.nl as) [] h) : MetQ M as h Q := by
  intro l ad cA D X L sz hst hX
  refine Met.ofW (cc := M.b) (maxL := M.nl) (ret := M.ret) hM.2.2.1 (by unfold wsM; rw [hM.head]) ?_
  intro p e s m args below meth c s₁ B hml hv
  obtain ⟨rfl, hsz, hP, hK, hD0, hKd, hKQ, hCQ, hfl⟩ := hv
  subst hsz
  have hts0 := atoms_spec (ws := wsM M) B.pre
  have hts : ∀ w ∈ tbG, w.before (as.map (tr ad)).toArray s = true := fun w hw => hts0 w (List.mem_cons_of_mem _ hw)
  have hown : s.vm.findClass M.y.cls = some m.cls := findClass_of_methodNamed B.named
  have hlocks := B.notSynchronized
  have hD : va_D (frQ (X h) L s.heap.size) (X h ++ pq ad cA h L) := by
    refine hD0.weaken ?_
    intro i q hq _
    rcases Nat.lt_or_ge i (X h).length with w | w
    · rw [List.getElem?_append_left w] at hq
      exact Or.inl ⟨i, q.2, hq⟩
    · rw [List.getElem?_append_right w] at hq
      have hm := List.mem_of_getElem? hq
      unfold pq va_pl at hm
      obtain ⟨b, hb1, hb2⟩ := List.mem_map.mp hm
      exact Or.inr (Or.inl (by rw [← hb2]; exact hb1))
  have hlv := lv_entry (as.map (tr ad)) (n := M.nl) (by rw [← (ent_lv ad as).1]; exact hfr)
  rw [lg_entry_eq]
  refine hat _ p l e _ s m _ below meth c ad cA D (frQ (X h) L s.heap.size) X h ?_ s.heap [] 0 0 _ ⟨L, hP, hD, va_S.rf, hKd, Md.refl h, fun _ => Lw.refl h⟩ (lv_mono hlv ?_) (Nat.le_refl 0) (Nat.zero_le _) (Nat.zero_le _)
  · refine ⟨⟨B.exec, B.bytes, hml, hown, hts⟩, hK, fun q hq => Or.inr (Or.inr hq), hKQ, hCQ, hX, hfl, hst, ⟨Nat.le_refl _, Nat.le_refl _, Nat.le_refl _, Nat.le_refl _⟩, (name_of_methodNamed B.named B.method).1, ?_⟩
    intro v h' H locs cells slots pc i ls hd hr hq hW hc hs
    refine W.widen (k := M.cap) (n := 12 * M.cap) hc hs ?_
    obtain ⟨L', hP', hD', hS', hKd', hMd', hLw'⟩ := hW
    have hadr : ∀ (i : Nat) (q : Nat) (e : va_E), (X h)[i]? = some (q, e) → ∃ e', (X h')[i]? = some (q, e') := by
      intro i q e9 hi
      cases hf : flQ M with
      | false => exact ⟨e9, by rw [hX _ _ (hLw' hf)]; exact hi⟩
      | true =>
        rw [(hfl hf).1] at hi ⊢
        exact wdX_addr (h := h') hi
    have hnew : ∀ q, q ∈ L' → q ∈ L ∨ s.heap.size ≤ q := by
      intro q hq
      obtain ⟨j, hj⟩ := List.getElem?_of_mem hq
      have hj2 : (X h' ++ pq ad cA h' L')[(X h').length + j]? = some (q, celQ ad cA h' (uq q)) := by
        rw [List.getElem?_append_right (Nat.le_add_right _ _), Nat.add_sub_cancel_left]
        unfold pq va_pl
        rw [List.getElem?_map, hj]
        rfl
      rcases hD'.2 _ _ hj2 with ⟨i, e9, hi⟩ | w
      · obtain ⟨e8, hi8⟩ := hadr i q e9 hi
        have hl8 := (List.getElem?_eq_some_iff.mp hi8).1
        have := hD'.1 _ _ _ _ ((List.getElem?_append_left hl8).trans hi8) hj2 rfl
        omega
      · exact w
    have hqc : ∀ t : State, t.heap = H → s.WarmedH t.vm → QcQ (flQ M) ad cA D X L s.heap.size h Q (as.map (tr ad)).toArray s (.returned (v.map (tr ad))) t := fun t ht _ => ⟨⟨v, h', L', rfl, hq, by rw [ht]; exact hP', hD'.weaken (fun _ _ _ _ => trivial), hnew, hKd', hMd', hLw'⟩, hS'.F ht⟩
    · have hf := hS'.2.2
      have hret := B.returns
      cases i <;> simp only [rtOk] at hr
      case return_ =>
        obtain ⟨rfl, hr⟩ := hr
        exact W.vret B.exec B.bytes (hret.trans hr) hqc hf hd
      case ireturn =>
        obtain ⟨x, ty, rfl, hr, hn⟩ := hr
        exact W.zret B.exec B.bytes (hret.trans hr) hn hqc hf hd
      case lreturn =>
        obtain ⟨x, rfl, hr⟩ := hr
        exact W.lret B.exec B.bytes (hret.trans hr) hqc hf hd
      case freturn =>
        obtain ⟨x, rfl, hr⟩ := hr
        exact W.fret B.exec B.bytes (hret.trans hr) hqc hf hd
      case dreturn =>
        obtain ⟨x, rfl, hr⟩ := hr
        exact W.dret B.exec B.bytes (hret.trans hr) hqc hf hd
      case areturn =>
        obtain ⟨hty, hv⟩ := hr
        have hty2 : ∃ rt, M.ret = some rt ∧ ((∃ n, rt = .object n) ∨ ∃ t, rt = .array t) := by
          rcases hty with ⟨n, hn⟩ | ⟨t, hn⟩
          · exact ⟨_, hn, Or.inl ⟨n, rfl⟩⟩
          · exact ⟨_, hn, Or.inr ⟨t, rfl⟩⟩
        obtain ⟨rt, hr1, hr2⟩ := hty2
        rcases hv with rfl | ⟨a, rfl⟩
        · exact W.aret B.exec B.bytes (hret.trans hr1) hr2 (Or.inl rfl) hqc hf hd
        · exact W.aret B.exec B.bytes (hret.trans hr1) hr2 (Or.inr ⟨_, rfl⟩) hqc hf hd
  · intro q hq
    obtain ⟨v, hv, he⟩ := tl_mem.mp hq
    exact (ent_lv ad as).2 0 q ⟨v, getD_app hv, Nat.zero_le _, he⟩
end
