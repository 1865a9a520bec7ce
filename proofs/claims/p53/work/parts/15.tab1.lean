/-! ===== tables of the methods' code, 1 ===== -/
/-! ===== tables ===== -/
theorem tbG_atS {p : Nat} {w : Jvm.Cond} (h : (decide ((k2_sels lw_privs)[p]? = some w) && goodWord w) = true) : w ∈ tbG := by
  simp only [Bool.and_eq_true, decide_eq_true_eq] at h
  exact List.mem_filter.mpr ⟨List.mem_append_left _ (List.mem_of_getElem? h.1), h.2⟩
theorem MOKi {M : MI} (h1 : headM M ∈ tbG) (h2 : Cond.initialized M.y.cls ∈ tbG) (h3 : plainName M.y.cls = true) (h4 : M.sk = 0) (h5 : M.hh = []) (h6 : Cond.instanceMethod M.y ∈ tbG) (h7 : Cond.selects M.y.cls M.y M.y ∈ tbG) : MOK M := ⟨h1, h2, h3, by rw [h4]; exact ⟨h5, h6, h7⟩⟩
theorem MOKs {M : MI} (h1 : headM M ∈ tbG) (h2 : Cond.initialized M.y.cls ∈ tbG) (h3 : plainName M.y.cls = true) (h4 : M.sk = 1) (h5 : M.hh = []) (h6 : Cond.static M.y ∈ tbG) : MOK M := ⟨h1, h2, h3, by rw [h4]; exact ⟨h5, h6⟩⟩
theorem MOKh {M : MI} (h1 : headM M ∈ tbG) (h2 : Cond.initialized M.y.cls ∈ tbG) (h3 : plainName M.y.cls = true) (h4 : M.sk = 2) (h5 : M.hh ≠ []) (h6 : Cond.static M.y ∈ tbG) : MOK M := ⟨h1, h2, h3, by rw [h4]; exact ⟨h5, h6⟩⟩
def allM : List MI → Prop
  | [] => True
  | M :: r => MOK M ∧ allM r
theorem allM_of {l : List MI} (h : allM l) : ∀ M ∈ l, MOK M := by
  induction l with
  | nil => intro M hM; cases hM
  | cons a r ih =>
    intro M hM
    rcases List.mem_cons.mp hM with rfl | hM
    · exact h.1
    · exact ih h.2 M hM
def m_X10_append : MI := (yX10_append, cX10_append, 3, none, 0, 0, 0, [], 0)
def m_X11_feed : MI := (yX11_feed, cX11_feed, 6, some .int, 6, 89, 1, [], 0)
def m_X11_truncate : MI := (yX11_truncate, cX11_truncate, 2, some .int, 6, 89, 1, [], 0)
def m_X5_reset : MI := (yX5_reset, cX5_reset, 1, none, 0, 0, 0, [], 0)
def m_X8_reset : MI := (yX8_reset, cX8_reset, 1, none, 0, 0, 0, [], 0)
def m_X10_scanWord : MI := (yX10_scanWord, cX10_scanWord, 1, none, 0, 0, 0, [], 0)
def m_X10_scanNumber : MI := (yX10_scanNumber, cX10_scanNumber, 1, none, 0, 0, 0, [], 0)
def m_X10_advance : MI := (yX10_advance, cX10_advance, 2, none, 1, 20, 0, [], 0)
def m_X10_begin : MI := (yX10_begin, cX10_begin, 1, none, 2, 41, 0, [], 0)
def m_J0_coder_7d493 : MI := (yJ0_coder_7d493, cJ0_coder_7d493, 1, some .byte, 0, 0, 0, [], 0)
def m_J0_length_8abf5 : MI := (yJ0_length_8abf5, cJ0_length_8abf5, 1, some .int, 1, 20, 0, [], 0)
def m_J0_isLatin1_aae02 : MI := (yJ0_isLatin1_aae02, cJ0_isLatin1_aae02, 1, some .boolean, 0, 0, 0, [], 0)
def m_J3_checkIndex_8e157 : MI := (yJ3_checkIndex_8e157, cJ3_checkIndex_8e157, 3, some .int, 0, 0, 0, [], 1)
def m_J0_checkIndex_df160 : MI := (yJ0_checkIndex_df160, cJ0_checkIndex_df160, 2, none, 1, 22, 0, [], 1)
def m_J1_charAt_3b067 : MI := (yJ1_charAt_3b067, cJ1_charAt_3b067, 2, some .char, 2, 43, 0, [], 1)
def m_J2_length_9d52b : MI := (yJ2_length_9d52b, cJ2_length_9d52b, 1, some .int, 0, 0, 0, [], 1)
def m_J2_checkIndex_2214a : MI := (yJ2_checkIndex_2214a, cJ2_checkIndex_2214a, 2, none, 2, 43, 0, [], 1)
def m_J2_getChar_3b067 : MI := (yJ2_getChar_3b067, cJ2_getChar_3b067, 2, some .char, 0, 0, 0, [], 1)
def m_J2_charAt_3b067 : MI := (yJ2_charAt_3b067, cJ2_charAt_3b067, 2, some .char, 3, 64, 0, [], 1)
def m_J0_charAt_5068e : MI := (yJ0_charAt_5068e, cJ0_charAt_5068e, 2, some .char, 4, 85, 0, [], 0)
def m_X10_isWord : MI := (yX10_isWord, cX10_isWord, 5, some .boolean, 5, 106, 0, [], 0)
def m_X9_at : MI := (yX9_at, cX9_at, 5, some (.object "WaveUpgrade$Statement"), 6, 130, 0, [], 1)
def m_X10_fail : MI := (yX10_fail, cX10_fail, 2, some .boolean, 0, 0, 0, [], 0)
def m_X6_isFull : MI := (yX6_isFull, cX6_isFull, 1, some .boolean, 0, 0, 0, [], 0)
def m_X1_errorOfFirstWord : MI := (yX1_errorOfFirstWord, cX1_errorOfFirstWord, 2, some .int, 1, 60, 0, [], 0)
def m_X6_numberOf : MI := (yX6_numberOf, cX6_numberOf, 4, some .int, 0, 0, 0, [], 0)
def m_X10_takeNewName : MI := (yX10_takeNewName, cX10_takeNewName, 4, some .long, 2, 41, 0, [], 0)
def m_X10_takeNumber : MI := (yX10_takeNumber, cX10_takeNumber, 4, some .int, 2, 41, 0, [], 0)
def m_X6_add : MI := (yX6_add, cX6_add, 3, none, 0, 0, 0, [], 0)
def m_X5_addVersion : MI := (yX5_addVersion, cX5_addVersion, 6, none, 1, 22, 0, [], 0)
def m_X1_readVersion : MI := (yX1_readVersion, cX1_readVersion, 5, some .boolean, 3, 64, 0, [], 0)
def m_X10_findName : MI := (yX10_findName, cX10_findName, 3, some .int, 1, 23, 0, [], 0)
def m_X5_talkersOf : MI := (yX5_talkersOf, cX5_talkersOf, 2, some .int, 0, 0, 0, [], 0)
def m_X11_isIn : MI := (yX11_isIn, cX11_isIn, 2, some .boolean, 0, 0, 0, [], 1)
def m_X5_addTalk : MI := (yX5_addTalk, cX5_addTalk, 3, none, 0, 0, 0, [], 0)
theorem o_X10_append : MOK m_X10_append := MOKi (tbG_at (p := 1339) (by decide +kernel)) (tbG_at (p := 21) (by decide +kernel)) (by decide +kernel) rfl rfl (tbG_at (p := 1337) (by decide +kernel)) (tbG_at (p := 1338) (by decide +kernel))
theorem o_X11_feed : MOK m_X11_feed := MOKi (tbG_at (p := 1320) (by decide +kernel)) (tbG_at (p := 20) (by decide +kernel)) (by decide +kernel) rfl rfl (tbG_at (p := 1318) (by decide +kernel)) (tbG_at (p := 1319) (by decide +kernel))
theorem o_X11_truncate : MOK m_X11_truncate := MOKi (tbG_at (p := 1347) (by decide +kernel)) (tbG_at (p := 20) (by decide +kernel)) (by decide +kernel) rfl rfl (tbG_at (p := 1345) (by decide +kernel)) (tbG_at (p := 1346) (by decide +kernel))
theorem o_X5_reset : MOK m_X5_reset := MOKi (tbG_at (p := 112) (by decide +kernel)) (tbG_at (p := 23) (by decide +kernel)) (by decide +kernel) rfl rfl (tbG_at (p := 110) (by decide +kernel)) (tbG_at (p := 111) (by decide +kernel))
theorem o_X8_reset : MOK m_X8_reset := MOKi (tbG_at (p := 222) (by decide +kernel)) (tbG_at (p := 22) (by decide +kernel)) (by decide +kernel) rfl rfl (tbG_at (p := 220) (by decide +kernel)) (tbG_at (p := 221) (by decide +kernel))
theorem o_X10_scanWord : MOK m_X10_scanWord := MOKi (tbG_at (p := 415) (by decide +kernel)) (tbG_at (p := 21) (by decide +kernel)) (by decide +kernel) rfl rfl (tbG_at (p := 414) (by decide +kernel)) (tbG_atS (p := 0) (by decide +kernel))
theorem o_X10_scanNumber : MOK m_X10_scanNumber := MOKi (tbG_at (p := 419) (by decide +kernel)) (tbG_at (p := 21) (by decide +kernel)) (by decide +kernel) rfl rfl (tbG_at (p := 418) (by decide +kernel)) (tbG_atS (p := 1) (by decide +kernel))
theorem o_X10_advance : MOK m_X10_advance := MOKi (tbG_at (p := 411) (by decide +kernel)) (tbG_at (p := 21) (by decide +kernel)) (by decide +kernel) rfl rfl (tbG_at (p := 409) (by decide +kernel)) (tbG_at (p := 410) (by decide +kernel))
theorem o_X10_begin : MOK m_X10_begin := MOKi (tbG_at (p := 407) (by decide +kernel)) (tbG_at (p := 21) (by decide +kernel)) (by decide +kernel) rfl rfl (tbG_at (p := 405) (by decide +kernel)) (tbG_at (p := 406) (by decide +kernel))
theorem o_J0_coder_7d493 : MOK m_J0_coder_7d493 := MOKi (tbG_at (p := 440) (by decide +kernel)) (tbG_at (p := 7) (by decide +kernel)) (by decide +kernel) rfl rfl (tbG_at (p := 438) (by decide +kernel)) (tbG_at (p := 439) (by decide +kernel))
theorem o_J0_length_8abf5 : MOK m_J0_length_8abf5 := MOKi (tbG_at (p := 436) (by decide +kernel)) (tbG_at (p := 7) (by decide +kernel)) (by decide +kernel) rfl rfl (tbG_at (p := 434) (by decide +kernel)) (tbG_at (p := 435) (by decide +kernel))
theorem o_J0_isLatin1_aae02 : MOK m_J0_isLatin1_aae02 := MOKi (tbG_at (p := 450) (by decide +kernel)) (tbG_at (p := 7) (by decide +kernel)) (by decide +kernel) rfl rfl (tbG_at (p := 448) (by decide +kernel)) (tbG_at (p := 449) (by decide +kernel))
theorem o_J3_checkIndex_8e157 : MOK m_J3_checkIndex_8e157 := MOKs (tbG_at (p := 461) (by decide +kernel)) (tbG_at (p := 13) (by decide +kernel)) (by decide +kernel) rfl rfl (tbG_at (p := 460) (by decide +kernel))
theorem o_J0_checkIndex_df160 : MOK m_J0_checkIndex_df160 := MOKs (tbG_at (p := 456) (by decide +kernel)) (tbG_at (p := 7) (by decide +kernel)) (by decide +kernel) rfl rfl (tbG_at (p := 455) (by decide +kernel))
theorem o_J1_charAt_3b067 : MOK m_J1_charAt_3b067 := MOKs (tbG_at (p := 453) (by decide +kernel)) (tbG_at (p := 14) (by decide +kernel)) (by decide +kernel) rfl rfl (tbG_at (p := 452) (by decide +kernel))
theorem o_J2_length_9d52b : MOK m_J2_length_9d52b := MOKs (tbG_at (p := 470) (by decide +kernel)) (tbG_at (p := 8) (by decide +kernel)) (by decide +kernel) rfl rfl (tbG_at (p := 469) (by decide +kernel))
theorem o_J2_checkIndex_2214a : MOK m_J2_checkIndex_2214a := MOKs (tbG_at (p := 467) (by decide +kernel)) (tbG_at (p := 8) (by decide +kernel)) (by decide +kernel) rfl rfl (tbG_at (p := 466) (by decide +kernel))
theorem o_J2_getChar_3b067 : MOK m_J2_getChar_3b067 := MOKs (tbG_at (p := 474) (by decide +kernel)) (tbG_at (p := 8) (by decide +kernel)) (by decide +kernel) rfl rfl (tbG_at (p := 473) (by decide +kernel))
theorem o_J2_charAt_3b067 : MOK m_J2_charAt_3b067 := MOKs (tbG_at (p := 464) (by decide +kernel)) (tbG_at (p := 8) (by decide +kernel)) (by decide +kernel) rfl rfl (tbG_at (p := 463) (by decide +kernel))
theorem o_J0_charAt_5068e : MOK m_J0_charAt_5068e := MOKi (tbG_at (p := 446) (by decide +kernel)) (tbG_at (p := 7) (by decide +kernel)) (by decide +kernel) rfl rfl (tbG_at (p := 444) (by decide +kernel)) (tbG_at (p := 445) (by decide +kernel))
theorem o_X10_isWord : MOK m_X10_isWord := MOKi (tbG_at (p := 432) (by decide +kernel)) (tbG_at (p := 21) (by decide +kernel)) (by decide +kernel) rfl rfl (tbG_at (p := 430) (by decide +kernel)) (tbG_at (p := 431) (by decide +kernel))
theorem o_X9_at : MOK m_X9_at := MOKs (tbG_at (p := 426) (by decide +kernel)) (tbG_at (p := 35) (by decide +kernel)) (by decide +kernel) rfl rfl (tbG_at (p := 425) (by decide +kernel))
theorem o_X10_fail : MOK m_X10_fail := MOKi (tbG_at (p := 484) (by decide +kernel)) (tbG_at (p := 21) (by decide +kernel)) (by decide +kernel) rfl rfl (tbG_at (p := 482) (by decide +kernel)) (tbG_at (p := 483) (by decide +kernel))
theorem o_X6_isFull : MOK m_X6_isFull := MOKi (tbG_at (p := 500) (by decide +kernel)) (tbG_at (p := 24) (by decide +kernel)) (by decide +kernel) rfl rfl (tbG_at (p := 498) (by decide +kernel)) (tbG_at (p := 499) (by decide +kernel))
theorem o_X1_errorOfFirstWord : MOK m_X1_errorOfFirstWord := MOKi (tbG_at (p := 488) (by decide +kernel)) (tbG_at (p := 27) (by decide +kernel)) (by decide +kernel) rfl rfl (tbG_at (p := 487) (by decide +kernel)) (tbG_atS (p := 3) (by decide +kernel))
theorem o_X6_numberOf : MOK m_X6_numberOf := MOKi (tbG_at (p := 518) (by decide +kernel)) (tbG_at (p := 24) (by decide +kernel)) (by decide +kernel) rfl rfl (tbG_at (p := 516) (by decide +kernel)) (tbG_at (p := 517) (by decide +kernel))
theorem o_X10_takeNewName : MOK m_X10_takeNewName := MOKi (tbG_at (p := 513) (by decide +kernel)) (tbG_at (p := 21) (by decide +kernel)) (by decide +kernel) rfl rfl (tbG_at (p := 511) (by decide +kernel)) (tbG_at (p := 512) (by decide +kernel))
theorem o_X10_takeNumber : MOK m_X10_takeNumber := MOKi (tbG_at (p := 522) (by decide +kernel)) (tbG_at (p := 21) (by decide +kernel)) (by decide +kernel) rfl rfl (tbG_at (p := 520) (by decide +kernel)) (tbG_at (p := 521) (by decide +kernel))
theorem o_X6_add : MOK m_X6_add := MOKi (tbG_at (p := 530) (by decide +kernel)) (tbG_at (p := 24) (by decide +kernel)) (by decide +kernel) rfl rfl (tbG_at (p := 528) (by decide +kernel)) (tbG_at (p := 529) (by decide +kernel))
theorem o_X5_addVersion : MOK m_X5_addVersion := MOKi (tbG_at (p := 526) (by decide +kernel)) (tbG_at (p := 23) (by decide +kernel)) (by decide +kernel) rfl rfl (tbG_at (p := 524) (by decide +kernel)) (tbG_at (p := 525) (by decide +kernel))
theorem o_X1_readVersion : MOK m_X1_readVersion := MOKi (tbG_at (p := 509) (by decide +kernel)) (tbG_at (p := 27) (by decide +kernel)) (by decide +kernel) rfl rfl (tbG_at (p := 508) (by decide +kernel)) (tbG_atS (p := 5) (by decide +kernel))
theorem o_X10_findName : MOK m_X10_findName := MOKi (tbG_at (p := 538) (by decide +kernel)) (tbG_at (p := 21) (by decide +kernel)) (by decide +kernel) rfl rfl (tbG_at (p := 536) (by decide +kernel)) (tbG_at (p := 537) (by decide +kernel))
theorem o_X5_talkersOf : MOK m_X5_talkersOf := MOKi (tbG_at (p := 542) (by decide +kernel)) (tbG_at (p := 23) (by decide +kernel)) (by decide +kernel) rfl rfl (tbG_at (p := 540) (by decide +kernel)) (tbG_at (p := 541) (by decide +kernel))
theorem o_X11_isIn : MOK m_X11_isIn := MOKs (tbG_at (p := 545) (by decide +kernel)) (tbG_at (p := 20) (by decide +kernel)) (by decide +kernel) rfl rfl (tbG_at (p := 544) (by decide +kernel))
theorem o_X5_addTalk : MOK m_X5_addTalk := MOKi (tbG_at (p := 549) (by decide +kernel)) (tbG_at (p := 23) (by decide +kernel)) (by decide +kernel) rfl rfl (tbG_at (p := 547) (by decide +kernel)) (tbG_at (p := 548) (by decide +kernel))
def c_X10_append : Cd := [
  [(0, .bipush 24, 2, [], []), (2, .istore_n 2, 1, [], []), (3, .iload_n 2, 1, [], []), (4, .ifCond .lt 44, 3, [48], []), (7, .aload_n 0, 1, [], []), (8, .getfield 15, 3, [7, 1, 0, 53], []), (11, .aload_n 0, 1, [], []), (12, .getfield 9, 3, [7, 0, 3, 52], []), (15, .arraylength, 1, [], [])],
  [(16, .if_icmp .ge 32, 3, [48], []), (19, .aload_n 0, 1, [], []), (20, .getfield 9, 3, [7, 0, 3, 52], []), (23, .aload_n 0, 1, [], []), (24, .getfield 15, 3, [7, 1, 0, 53], []), (27, .iload_n 1, 1, [], []), (28, .iload_n 2, 1, [], []), (29, .ishr, 1, [], []), (30, .i2b, 1, [], []), (31, .bastore, 1, [], [])],
  [(32, .aload_n 0, 1, [], []), (33, .dup, 1, [], []), (34, .getfield 15, 3, [7, 1, 0, 53], []), (37, .iconst 1, 1, [], []), (38, .iadd, 1, [], []), (39, .putfield 15, 3, [7, 1, 0, 53], []), (42, .iinc 2 (-8), 3, [], []), (45, .goto (-42), 3, [3], [])],
  [(48, .return_, 1, [], [])]]
theorem k_X10_append : CdOk m_X10_append c_X10_append := ⟨by decide +kernel, allM_of trivial⟩
def c_X11_feed : Cd := [
  [(0, .aload_n 0, 1, [], []), (1, .getfield 10, 3, [8, 0, 3, 360], []), (4, .getfield 76, 3, [7, 1, 0, 54], []), (7, .bipush 20, 2, [], []), (9, .iadd, 1, [], []), (10, .sipush 900, 3, [], []), (13, .if_icmp .le 11, 3, [24], [])],
  [(16, .new 79, 3, [0, 81, 1321, 1330], []), (24, .aload_n 0, 1, [], []), (25, .getfield 10, 3, [8, 0, 3, 360], []), (28, .iload_n 1, 1, [], []), (29, .invokevirtual 82, 3, [0, 1, 0, 7, 0, 1336], [m_X10_append])],
  [(32, .aload_n 0, 1, [], []), (33, .getfield 10, 3, [8, 0, 3, 360], []), (36, .iload_n 2, 1, [], []), (37, .invokevirtual 82, 3, [0, 1, 0, 7, 0, 1336], [m_X10_append]), (40, .aload_n 0, 1, [], []), (41, .getfield 10, 3, [8, 0, 3, 360], []), (44, .iload_n 3, 1, [], []), (45, .invokevirtual 82, 3, [0, 1, 0, 7, 0, 1336], [m_X10_append])],
  [(48, .aload_n 0, 1, [], []), (49, .getfield 10, 3, [8, 0, 3, 360], []), (52, .iload 4, 2, [], []), (54, .invokevirtual 82, 3, [0, 1, 0, 7, 0, 1336], [m_X10_append]), (57, .aload_n 0, 1, [], []), (58, .getfield 10, 3, [8, 0, 3, 360], []), (61, .iload 5, 2, [], []), (63, .invokevirtual 82, 3, [0, 1, 0, 7, 0, 1336], [m_X10_append])],
  [(66, .aload_n 0, 1, [], []), (67, .getfield 10, 3, [8, 0, 3, 360], []), (70, .getfield 76, 3, [7, 1, 0, 54], []), (73, .ireturn, 1, [1], [])]]
theorem k_X11_feed : CdOk m_X11_feed c_X11_feed := ⟨by decide +kernel, allM_of ⟨o_X10_append, ⟨o_X10_append, ⟨o_X10_append, ⟨o_X10_append, ⟨o_X10_append, trivial⟩⟩⟩⟩⟩⟩
def c_X11_truncate : Cd := [
  [(0, .iload_n 1, 1, [], []), (1, .ifCond .lt 14, 3, [15], []), (4, .iload_n 1, 1, [], []), (5, .aload_n 0, 1, [], []), (6, .getfield 10, 3, [8, 0, 3, 360], []), (9, .getfield 76, 3, [7, 1, 0, 54], []), (12, .if_icmp .le 11, 3, [23], []), (15, .new 86, 3, [1, 88, 621, 662], [])],
  [(23, .aload_n 0, 1, [], []), (24, .getfield 10, 3, [8, 0, 3, 360], []), (27, .iload_n 1, 1, [], []), (28, .putfield 76, 3, [7, 1, 0, 54], []), (31, .iload_n 1, 1, [], [])],
  [(32, .ireturn, 1, [1], [])]]
theorem k_X11_truncate : CdOk m_X11_truncate c_X11_truncate := ⟨by decide +kernel, allM_of trivial⟩
def c_X5_reset : Cd := [
  [(0, .aload_n 0, 1, [], []), (1, .getfield 14, 3, [3, 0, 3, 113], []), (4, .iconst 0, 1, [], []), (5, .putfield 54, 3, [4, 1, 0, 99], []), (8, .aload_n 0, 1, [], []), (9, .getfield 30, 3, [3, 4, 3, 119], []), (12, .iconst 0, 1, [], []), (13, .putfield 54, 3, [4, 1, 0, 99], [])],
  [(16, .aload_n 0, 1, [], []), (17, .getfield 42, 3, [3, 8, 3, 128], []), (20, .iconst 0, 1, [], []), (21, .putfield 54, 3, [4, 1, 0, 99], []), (24, .aload_n 0, 1, [], []), (25, .iconst 0, 1, [], []), (26, .putfield 58, 3, [3, 11, 0, 139], []), (29, .aload_n 0, 1, [], []), (30, .iconst 0, 1, [], []), (31, .putfield 61, 3, [3, 12, 0, 141], [])],
  [(34, .aload_n 0, 1, [], []), (35, .iconst 1, 1, [], []), (36, .putfield 64, 3, [3, 13, 0, 144], []), (39, .aload_n 0, 1, [], []), (40, .iconst 1, 1, [], []), (41, .putfield 67, 3, [3, 14, 0, 147], []), (44, .aload_n 0, 1, [], []), (45, .iconst 5, 1, [], []), (46, .putfield 70, 3, [3, 15, 0, 150], [])],
  [(49, .aload_n 0, 1, [], []), (50, .bipush 10, 2, [], []), (52, .putfield 73, 3, [3, 16, 0, 153], []), (55, .aload_n 0, 1, [], []), (56, .bipush 50, 2, [], []), (58, .putfield 76, 3, [3, 17, 0, 156], []), (61, .return_, 1, [], [])]]
theorem k_X5_reset : CdOk m_X5_reset c_X5_reset := ⟨by decide +kernel, allM_of trivial⟩
def c_X8_reset : Cd := [
  [(0, .aload_n 0, 1, [], []), (1, .iconst 0, 1, [], []), (2, .putfield 38, 3, [6, 1, 0, 226], []), (5, .aload_n 0, 1, [], []), (6, .iconst 1, 1, [], []), (7, .putfield 42, 3, [6, 2, 0, 228], []), (10, .aload_n 0, 1, [], []), (11, .iconst 0, 1, [], []), (12, .putfield 45, 3, [6, 7, 0, 236], []), (15, .aload_n 0, 1, [], [])],
  [(16, .iconst 0, 1, [], []), (17, .putfield 48, 3, [6, 8, 0, 238], []), (20, .aload_n 0, 1, [], []), (21, .iconst 0, 1, [], []), (22, .putfield 51, 3, [6, 9, 0, 240], []), (25, .aload_n 0, 1, [], []), (26, .iconst (-1), 1, [], []), (27, .putfield 54, 3, [6, 10, 0, 242], []), (30, .aload_n 0, 1, [], []), (31, .iconst (-1), 1, [], [])],
  [(32, .putfield 57, 3, [6, 11, 0, 243], []), (35, .aload_n 0, 1, [], []), (36, .iconst 0, 1, [], []), (37, .putfield 60, 3, [6, 12, 1, 244], []), (40, .aload_n 0, 1, [], []), (41, .iconst (-1), 1, [], []), (42, .putfield 64, 3, [6, 13, 0, 245], []), (45, .aload_n 0, 1, [], []), (46, .iconst (-1), 1, [], []), (47, .putfield 67, 3, [6, 14, 0, 246], [])],
  [(50, .aload_n 0, 1, [], []), (51, .getfield 27, 3, [6, 15, 3, 247], []), (54, .iconst 0, 1, [], []), (55, .putfield 70, 3, [1, 1, 0, 209], []), (58, .return_, 1, [], [])]]
theorem k_X8_reset : CdOk m_X8_reset c_X8_reset := ⟨by decide +kernel, allM_of trivial⟩
def c_X10_scanWord : Cd := [
  [(0, .aload_n 0, 1, [], []), (1, .lconst 0, 1, [], []), (2, .putfield 31, 3, [7, 6, 2, 60], []), (5, .aload_n 0, 1, [], []), (6, .getfield 38, 3, [7, 8, 0, 62], []), (9, .aload_n 0, 1, [], []), (10, .getfield 15, 3, [7, 1, 0, 53], []), (13, .if_icmp .ge 66, 3, [79], [])],
  [(16, .aload_n 0, 1, [], []), (17, .getfield 9, 3, [7, 0, 3, 52], []), (20, .aload_n 0, 1, [], []), (21, .getfield 38, 3, [7, 8, 0, 62], []), (24, .baload, 1, [], []), (25, .bipush 97, 2, [], []), (27, .if_icmp .lt 52, 3, [79], []), (30, .aload_n 0, 1, [], []), (31, .getfield 9, 3, [7, 0, 3, 52], [])],
  [(34, .aload_n 0, 1, [], []), (35, .getfield 38, 3, [7, 8, 0, 62], []), (38, .baload, 1, [], []), (39, .bipush 122, 2, [], []), (41, .if_icmp .gt 38, 3, [79], []), (44, .aload_n 0, 1, [], []), (45, .aload_n 0, 1, [], []), (46, .getfield 31, 3, [7, 6, 2, 60], [])],
  [(49, .bipush 8, 2, [], []), (51, .lshl, 1, [], []), (52, .aload_n 0, 1, [], []), (53, .getfield 9, 3, [7, 0, 3, 52], []), (56, .aload_n 0, 1, [], []), (57, .getfield 38, 3, [7, 8, 0, 62], []), (60, .baload, 1, [], []), (61, .i2l, 1, [], []), (62, .lor, 1, [], []), (63, .putfield 31, 3, [7, 6, 2, 60], [])],
  [(66, .aload_n 0, 1, [], []), (67, .dup, 1, [], []), (68, .getfield 38, 3, [7, 8, 0, 62], []), (71, .iconst 1, 1, [], []), (72, .iadd, 1, [], []), (73, .putfield 38, 3, [7, 8, 0, 62], []), (76, .goto (-71), 3, [5], []), (79, .aload_n 0, 1, [], [])],
  [(80, .aload_n 0, 1, [], []), (81, .getfield 38, 3, [7, 8, 0, 62], []), (84, .aload_n 0, 1, [], []), (85, .getfield 28, 3, [7, 5, 0, 59], []), (88, .isub, 1, [], []), (89, .bipush 8, 2, [], []), (91, .if_icmp .gt 7, 3, [98], []), (94, .iconst 1, 1, [], []), (95, .goto 5, 3, [100], [])],
  [(98, .bipush 6, 2, [], []), (100, .putfield 25, 3, [7, 4, 0, 57], []), (103, .return_, 1, [], [])]]
theorem k_X10_scanWord : CdOk m_X10_scanWord c_X10_scanWord := ⟨by decide +kernel, allM_of trivial⟩
def c_X10_scanNumber : Cd := [
  [(0, .aload_n 0, 1, [], []), (1, .iconst 0, 1, [], []), (2, .putfield 35, 3, [7, 7, 0, 61], []), (5, .aload_n 0, 1, [], []), (6, .getfield 38, 3, [7, 8, 0, 62], []), (9, .aload_n 0, 1, [], []), (10, .getfield 15, 3, [7, 1, 0, 53], []), (13, .if_icmp .ge 68, 3, [81], [])],
  [(16, .aload_n 0, 1, [], []), (17, .getfield 9, 3, [7, 0, 3, 52], []), (20, .aload_n 0, 1, [], []), (21, .getfield 38, 3, [7, 8, 0, 62], []), (24, .baload, 1, [], []), (25, .bipush 48, 2, [], []), (27, .if_icmp .lt 54, 3, [81], []), (30, .aload_n 0, 1, [], []), (31, .getfield 9, 3, [7, 0, 3, 52], [])],
  [(34, .aload_n 0, 1, [], []), (35, .getfield 38, 3, [7, 8, 0, 62], []), (38, .baload, 1, [], []), (39, .bipush 57, 2, [], []), (41, .if_icmp .gt 40, 3, [81], []), (44, .aload_n 0, 1, [], []), (45, .aload_n 0, 1, [], []), (46, .getfield 35, 3, [7, 7, 0, 61], [])],
  [(49, .bipush 10, 2, [], []), (51, .imul, 1, [], []), (52, .aload_n 0, 1, [], []), (53, .getfield 9, 3, [7, 0, 3, 52], []), (56, .aload_n 0, 1, [], []), (57, .getfield 38, 3, [7, 8, 0, 62], []), (60, .baload, 1, [], []), (61, .bipush 48, 2, [], []), (63, .isub, 1, [], [])],
  [(64, .iadd, 1, [], []), (65, .putfield 35, 3, [7, 7, 0, 61], []), (68, .aload_n 0, 1, [], []), (69, .dup, 1, [], []), (70, .getfield 38, 3, [7, 8, 0, 62], []), (73, .iconst 1, 1, [], []), (74, .iadd, 1, [], []), (75, .putfield 38, 3, [7, 8, 0, 62], []), (78, .goto (-73), 3, [5], [])],
  [(81, .aload_n 0, 1, [], []), (82, .aload_n 0, 1, [], []), (83, .getfield 38, 3, [7, 8, 0, 62], []), (86, .aload_n 0, 1, [], []), (87, .getfield 28, 3, [7, 5, 0, 59], []), (90, .isub, 1, [], []), (91, .iconst 3, 1, [], []), (92, .if_icmp .gt 7, 3, [99], []), (95, .iconst 2, 1, [], [])],
  [(96, .goto 5, 3, [101], []), (99, .bipush 6, 2, [], []), (101, .putfield 25, 3, [7, 4, 0, 57], []), (104, .return_, 1, [], [])]]
theorem k_X10_scanNumber : CdOk m_X10_scanNumber c_X10_scanNumber := ⟨by decide +kernel, allM_of trivial⟩
def c_X10_advance : Cd := [
  [(0, .aload_n 0, 1, [], []), (1, .getfield 38, 3, [7, 8, 0, 62], []), (4, .aload_n 0, 1, [], []), (5, .getfield 15, 3, [7, 1, 0, 53], []), (8, .if_icmp .ge 44, 3, [52], []), (11, .aload_n 0, 1, [], []), (12, .getfield 9, 3, [7, 0, 3, 52], []), (15, .aload_n 0, 1, [], [])],
  [(16, .getfield 38, 3, [7, 8, 0, 62], []), (19, .baload, 1, [], []), (20, .bipush 32, 2, [], []), (22, .if_icmp .eq 17, 3, [39], []), (25, .aload_n 0, 1, [], []), (26, .getfield 9, 3, [7, 0, 3, 52], []), (29, .aload_n 0, 1, [], []), (30, .getfield 38, 3, [7, 8, 0, 62], [])],
  [(33, .baload, 1, [], []), (34, .bipush 10, 2, [], []), (36, .if_icmp .ne 16, 3, [52], []), (39, .aload_n 0, 1, [], []), (40, .dup, 1, [], []), (41, .getfield 38, 3, [7, 8, 0, 62], []), (44, .iconst 1, 1, [], []), (45, .iadd, 1, [], []), (46, .putfield 38, 3, [7, 8, 0, 62], [])],
  [(49, .goto (-49), 3, [0], []), (52, .aload_n 0, 1, [], []), (53, .aload_n 0, 1, [], []), (54, .getfield 38, 3, [7, 8, 0, 62], []), (57, .putfield 28, 3, [7, 5, 0, 59], []), (60, .aload_n 0, 1, [], []), (61, .getfield 38, 3, [7, 8, 0, 62], [])],
  [(64, .aload_n 0, 1, [], []), (65, .getfield 15, 3, [7, 1, 0, 53], []), (68, .if_icmp .lt 9, 3, [77], []), (71, .aload_n 0, 1, [], []), (72, .iconst 0, 1, [], []), (73, .putfield 25, 3, [7, 4, 0, 57], []), (76, .return_, 1, [], []), (77, .aload_n 0, 1, [], []), (78, .getfield 9, 3, [7, 0, 3, 52], [])],
  [(81, .aload_n 0, 1, [], []), (82, .getfield 38, 3, [7, 8, 0, 62], []), (85, .baload, 1, [], []), (86, .istore_n 1, 1, [], []), (87, .iload_n 1, 1, [], []), (88, .bipush 97, 2, [], []), (90, .if_icmp .lt 16, 3, [106], []), (93, .iload_n 1, 1, [], []), (94, .bipush 122, 2, [], [])],
  [(96, .if_icmp .gt 10, 3, [106], []), (99, .aload_n 0, 1, [], []), (100, .invokevirtual 44, 3, [0, 0, 0, 7, 0, 412], [m_X10_scanWord]), (103, .goto 68, 3, [171], []), (106, .iload_n 1, 1, [], []), (107, .bipush 48, 2, [], []), (109, .if_icmp .lt 16, 3, [125], [])],
  [(112, .iload_n 1, 1, [], []), (113, .bipush 57, 2, [], []), (115, .if_icmp .gt 10, 3, [125], []), (118, .aload_n 0, 1, [], []), (119, .invokevirtual 47, 3, [0, 0, 0, 7, 0, 416], [m_X10_scanNumber]), (122, .goto 49, 3, [171], []), (125, .aload_n 0, 1, [], []), (126, .iload_n 1, 1, [], []), (127, .bipush 59, 2, [], [])],
  [(129, .if_icmp .ne 7, 3, [136], []), (132, .iconst 3, 1, [], []), (133, .goto 25, 3, [158], []), (136, .iload_n 1, 1, [], []), (137, .bipush 40, 2, [], []), (139, .if_icmp .ne 7, 3, [146], []), (142, .iconst 4, 1, [], []), (143, .goto 15, 3, [158], [])],
  [(146, .iload_n 1, 1, [], []), (147, .bipush 41, 2, [], []), (149, .if_icmp .ne 7, 3, [156], []), (152, .iconst 5, 1, [], []), (153, .goto 5, 3, [158], []), (156, .bipush 6, 2, [], []), (158, .putfield 25, 3, [7, 4, 0, 57], [])],
  [(161, .aload_n 0, 1, [], []), (162, .dup, 1, [], []), (163, .getfield 38, 3, [7, 8, 0, 62], []), (166, .iconst 1, 1, [], []), (167, .iadd, 1, [], []), (168, .putfield 38, 3, [7, 8, 0, 62], []), (171, .return_, 1, [], [])]]
theorem k_X10_advance : CdOk m_X10_advance c_X10_advance := ⟨by decide +kernel, allM_of ⟨o_X10_scanWord, ⟨o_X10_scanNumber, trivial⟩⟩⟩
def c_X10_begin : Cd := [
  [(0, .aload_n 0, 1, [], []), (1, .iconst 0, 1, [], []), (2, .putfield 19, 3, [7, 2, 0, 55], []), (5, .aload_n 0, 1, [], []), (6, .iconst (-1), 1, [], []), (7, .putfield 22, 3, [7, 3, 0, 56], []), (10, .aload_n 0, 1, [], []), (11, .iconst 0, 1, [], []), (12, .putfield 38, 3, [7, 8, 0, 62], []), (15, .aload_n 0, 1, [], [])],
  [(16, .invokevirtual 41, 3, [0, 0, 0, 7, 0, 408], [m_X10_advance]), (19, .return_, 1, [], [])]]
theorem k_X10_begin : CdOk m_X10_begin c_X10_begin := ⟨by decide +kernel, allM_of ⟨o_X10_advance, trivial⟩⟩
def c_J0_coder_7d493 : Cd := [
  [(0, .getstatic 38, 3, [1, 0, 441], []), (3, .ifCond .eq 10, 3, [13], []), (6, .aload_n 0, 1, [], []), (7, .getfield 15, 3, [22, 1, 0, 1095, 0], []), (10, .goto 4, 3, [14], []), (13, .iconst 1, 1, [], []), (14, .ireturn, 1, [7], [])]]
theorem k_J0_coder_7d493 : CdOk m_J0_coder_7d493 c_J0_coder_7d493 := ⟨by decide +kernel, allM_of trivial⟩
def c_J0_length_8abf5 : Cd := [
  [(0, .aload_n 0, 1, [], []), (1, .getfield 9, 3, [22, 0, 3, 1094, 0], []), (4, .arraylength, 1, [1], []), (5, .aload_n 0, 1, [], []), (6, .invokevirtual 335, 3, [5, 0, 1, 22, 0, 437], [m_J0_coder_7d493]), (9, .ishr, 1, [], []), (10, .ireturn, 1, [1], [])]]
theorem k_J0_length_8abf5 : CdOk m_J0_length_8abf5 c_J0_length_8abf5 := ⟨by decide +kernel, allM_of ⟨o_J0_coder_7d493, trivial⟩⟩
def c_J0_isLatin1_aae02 : Cd := [
  [(0, .getstatic 38, 3, [1, 0, 441], []), (3, .ifCond .eq 14, 3, [17], []), (6, .aload_n 0, 1, [], []), (7, .getfield 15, 3, [22, 1, 0, 1095, 0], []), (10, .ifCond .ne 7, 3, [17], []), (13, .iconst 1, 1, [], []), (14, .goto 4, 3, [18], [])],
  [(17, .iconst 0, 1, [], []), (18, .ireturn, 1, [6], [])]]
theorem k_J0_isLatin1_aae02 : CdOk m_J0_isLatin1_aae02 c_J0_isLatin1_aae02 := ⟨by decide +kernel, allM_of trivial⟩
def c_J3_checkIndex_8e157 : Cd := [
  [(0, .iload_n 0, 1, [], []), (1, .ifCond .lt 8, 3, [9], []), (4, .iload_n 0, 1, [], []), (5, .iload_n 1, 1, [], []), (6, .if_icmp .lt 10, 3, [16], []), (9, .aload_n 2, 1, [], []), (10, .iload_n 0, 1, [], []), (11, .iload_n 1, 1, [], [])],
  [(16, .iload_n 0, 1, [], []), (17, .ireturn, 1, [1], [])]]
theorem k_J3_checkIndex_8e157 : CdOk m_J3_checkIndex_8e157 c_J3_checkIndex_8e157 := ⟨by decide +kernel, allM_of trivial⟩
def c_J0_checkIndex_df160 : Cd := [
  [(0, .iload_n 0, 1, [], []), (1, .iload_n 1, 1, [], []), (2, .getstatic 1053, 3, [2, 0, 457], []), (5, .invokestatic 1059, 3, [1, 3, 1, 0, 0, 459], [m_J3_checkIndex_8e157]), (8, .pop, 1, [], []), (9, .return_, 1, [], [])]]
theorem k_J0_checkIndex_df160 : CdOk m_J0_checkIndex_df160 c_J0_checkIndex_df160 := ⟨by decide +kernel, allM_of ⟨o_J3_checkIndex_8e157, trivial⟩⟩
def c_J1_charAt_3b067 : Cd := [
  [(0, .iload_n 1, 1, [], []), (1, .aload_n 0, 1, [], []), (2, .arraylength, 1, [1], []), (3, .invokestatic 9, 3, [1, 2, 0, 0, 0, 454], [m_J0_checkIndex_df160]), (6, .aload_n 0, 1, [], []), (7, .iload_n 1, 1, [], []), (8, .baload, 1, [1], []), (9, .sipush 255, 3, [], []), (12, .iand, 1, [], []), (13, .i2c, 1, [], []), (14, .ireturn, 1, [8], [])]]
theorem k_J1_charAt_3b067 : CdOk m_J1_charAt_3b067 c_J1_charAt_3b067 := ⟨by decide +kernel, allM_of ⟨o_J0_checkIndex_df160, trivial⟩⟩
def c_J2_length_9d52b : Cd := [
  [(0, .aload_n 0, 1, [], []), (1, .arraylength, 1, [], []), (2, .iconst 1, 1, [], []), (3, .ishr, 1, [], []), (4, .ireturn, 1, [1], [])]]
theorem k_J2_length_9d52b : CdOk m_J2_length_9d52b c_J2_length_9d52b := ⟨by decide +kernel, allM_of trivial⟩
def c_J2_checkIndex_2214a : Cd := [
  [(0, .iload_n 0, 1, [], []), (1, .aload_n 1, 1, [], []), (2, .invokestatic 48, 3, [1, 1, 1, 0, 0, 468], [m_J2_length_9d52b]), (5, .invokestatic 414, 3, [1, 2, 0, 0, 0, 471], [m_J0_checkIndex_df160]), (8, .return_, 1, [], [])]]
theorem k_J2_checkIndex_2214a : CdOk m_J2_checkIndex_2214a c_J2_checkIndex_2214a := ⟨by decide +kernel, allM_of ⟨o_J2_length_9d52b, ⟨o_J0_checkIndex_df160, trivial⟩⟩⟩
def c_J2_getChar_3b067 : Cd := []
theorem k_J2_getChar_3b067 : CdOk m_J2_getChar_3b067 c_J2_getChar_3b067 := ⟨by decide +kernel, allM_of trivial⟩
def c_J2_charAt_3b067 : Cd := [
  [(0, .iload_n 1, 1, [], []), (1, .aload_n 0, 1, [], []), (2, .invokestatic 67, 3, [1, 2, 0, 0, 0, 465], [m_J2_checkIndex_2214a]), (5, .aload_n 0, 1, [], []), (6, .iload_n 1, 1, [], []), (7, .invokestatic 71, 3, [1, 2, 1, 0, 0, 472], [m_J2_getChar_3b067]), (10, .ireturn, 1, [8], [])]]
theorem k_J2_charAt_3b067 : CdOk m_J2_charAt_3b067 c_J2_charAt_3b067 := ⟨by decide +kernel, allM_of ⟨o_J2_checkIndex_2214a, ⟨o_J2_getChar_3b067, trivial⟩⟩⟩
def c_J0_charAt_5068e : Cd := [
  [(0, .aload_n 0, 1, [], []), (1, .invokevirtual 492, 3, [5, 0, 1, 22, 0, 447], [m_J0_isLatin1_aae02]), (4, .ifCond .eq 12, 3, [16], []), (7, .aload_n 0, 1, [], []), (8, .getfield 9, 3, [22, 0, 3, 1094, 0], []), (11, .iload_n 1, 1, [], []), (12, .invokestatic 495, 3, [1, 2, 1, 0, 0, 451], [m_J1_charAt_3b067]), (15, .ireturn, 1, [8], [])],
  [(16, .aload_n 0, 1, [], []), (17, .getfield 9, 3, [22, 0, 3, 1094, 0], []), (20, .iload_n 1, 1, [], []), (21, .invokestatic 498, 3, [1, 2, 1, 0, 0, 462], [m_J2_charAt_3b067]), (24, .ireturn, 1, [8], [])]]
theorem k_J0_charAt_5068e : CdOk m_J0_charAt_5068e c_J0_charAt_5068e := ⟨by decide +kernel, allM_of ⟨o_J0_isLatin1_aae02, ⟨o_J1_charAt_3b067, ⟨o_J2_charAt_3b067, trivial⟩⟩⟩⟩
def c_X10_isWord : Cd := [
  [(0, .lconst 0, 1, [], []), (1, .lstore_n 2, 1, [], []), (2, .iconst 0, 1, [], []), (3, .istore 4, 2, [], []), (5, .iload 4, 2, [], []), (7, .aload_n 1, 1, [], []), (8, .invokevirtual 50, 3, [5, 0, 1, 22, 0, 433], [m_J0_length_8abf5]), (11, .if_icmp .ge 22, 3, [33], []), (14, .lload_n 2, 1, [], []), (15, .bipush 8, 2, [], [])],
  [(17, .lshl, 1, [], []), (18, .aload_n 1, 1, [], []), (19, .iload 4, 2, [], []), (21, .invokevirtual 55, 3, [5, 1, 1, 22, 0, 443], [m_J0_charAt_5068e]), (24, .i2l, 1, [], []), (25, .lor, 1, [], []), (26, .lstore_n 2, 1, [], []), (27, .iinc 4 1, 3, [], []), (30, .goto (-25), 3, [5], [])],
  [(33, .aload_n 0, 1, [], []), (34, .getfield 25, 3, [7, 4, 0, 57], []), (37, .iconst 1, 1, [], []), (38, .if_icmp .ne 16, 3, [54], []), (41, .aload_n 0, 1, [], []), (42, .getfield 31, 3, [7, 6, 2, 60], []), (45, .lload_n 2, 1, [], []), (46, .lcmp, 1, [], []), (47, .ifCond .ne 7, 3, [54], [])],
  [(50, .iconst 1, 1, [], []), (51, .goto 4, 3, [55], []), (54, .iconst 0, 1, [], []), (55, .ireturn, 1, [6], [])]]
theorem k_X10_isWord : CdOk m_X10_isWord c_X10_isWord := ⟨by decide +kernel, allM_of ⟨o_J0_length_8abf5, ⟨o_J0_charAt_5068e, trivial⟩⟩⟩
def c_X9_at : Cd := [
  [(0, .getstatic 73, 3, [0, 1080, 427], []), (3, .astore_n 1, 1, [], []), (4, .aload_n 1, 1, [], []), (5, .arraylength, 1, [4], []), (6, .istore_n 2, 1, [], []), (7, .iconst 0, 1, [], []), (8, .istore_n 3, 1, [], []), (9, .iload_n 3, 1, [], []), (10, .iload_n 2, 1, [], []), (11, .if_icmp .ge 29, 3, [40], []), (14, .aload_n 1, 1, [], []), (15, .iload_n 3, 1, [], [])],
  [(16, .aaload, 1, [0, 4], []), (17, .astore 4, 2, [], []), (19, .aload_n 0, 1, [], []), (20, .aload 4, 2, [], []), (22, .getfield 59, 3, [20, 0, 3, 1844, 0], []), (25, .invokevirtual 76, 3, [0, 1, 1, 7, 0, 429], [m_X10_isWord]), (28, .ifCond .eq 6, 3, [34], []), (31, .aload 4, 2, [], [])],
  [(33, .areturn, 1, [], []), (34, .iinc 3 1, 3, [], []), (37, .goto (-28), 3, [9], []), (40, .aconst_null, 1, [], []), (41, .areturn, 1, [], [])]]
theorem k_X9_at : CdOk m_X9_at c_X9_at := ⟨by decide +kernel, allM_of ⟨o_X10_isWord, trivial⟩⟩
def c_X10_fail : Cd := [
  [(0, .aload_n 0, 1, [], []), (1, .iload_n 1, 1, [], []), (2, .putfield 19, 3, [7, 2, 0, 55], []), (5, .aload_n 0, 1, [], []), (6, .aload_n 0, 1, [], []), (7, .getfield 28, 3, [7, 5, 0, 59], []), (10, .putfield 22, 3, [7, 3, 0, 56], []), (13, .iconst 0, 1, [], []), (14, .ireturn, 1, [6], [])]]
theorem k_X10_fail : CdOk m_X10_fail c_X10_fail := ⟨by decide +kernel, allM_of trivial⟩
def c_X6_isFull : Cd := [
  [(0, .aload_n 0, 1, [], []), (1, .getfield 9, 3, [4, 1, 0, 98], []), (4, .aload_n 0, 1, [], []), (5, .getfield 15, 3, [4, 0, 3, 97], []), (8, .arraylength, 1, [], []), (9, .if_icmp .lt 7, 3, [16], []), (12, .iconst 1, 1, [], []), (13, .goto 4, 3, [17], [])],
  [(16, .iconst 0, 1, [], []), (17, .ireturn, 1, [6], [])]]
theorem k_X6_isFull : CdOk m_X6_isFull c_X6_isFull := ⟨by decide +kernel, allM_of trivial⟩
def c_X1_errorOfFirstWord : Cd := [
  [(0, .getstatic 72, 3, [0, 1082, 489], []), (3, .aload_n 1, 1, [], []), (4, .invokevirtual 78, 3, [20, 491], []), (7, .iaload, 1, [0], []), (8, .tableswitch 172 1 7 #[44, 64, 84, 104, 122, 141, 141], 44, [180, 1, 52, 72, 92, 112, 130, 149, 149], [])],
  [],
  [],
  [(52, .aload_n 0, 1, [], []), (53, .getfield 29, 3, [0, 2, 3, 310], []), (56, .getfield 82, 3, [3, 0, 3, 114], []), (59, .invokevirtual 86, 3, [0, 0, 1, 4, 0, 497], [m_X6_isFull]), (62, .ifCond .eq 8, 3, [70], [])],
  [(65, .bipush 6, 2, [], []), (67, .goto 4, 3, [71], []), (70, .iconst 0, 1, [], []), (71, .ireturn, 1, [1], []), (72, .aload_n 0, 1, [], []), (73, .getfield 29, 3, [0, 2, 3, 310], []), (76, .getfield 91, 3, [3, 4, 3, 120], []), (79, .invokevirtual 86, 3, [0, 0, 1, 4, 0, 497], [m_X6_isFull])],
  [(82, .ifCond .eq 8, 3, [90], []), (85, .bipush 6, 2, [], []), (87, .goto 4, 3, [91], []), (90, .iconst 0, 1, [], []), (91, .ireturn, 1, [1], []), (92, .aload_n 0, 1, [], []), (93, .getfield 29, 3, [0, 2, 3, 310], [])],
  [(96, .getfield 94, 3, [3, 8, 3, 130], []), (99, .invokevirtual 86, 3, [0, 0, 1, 4, 0, 497], [m_X6_isFull]), (102, .ifCond .eq 8, 3, [110], []), (105, .bipush 6, 2, [], []), (107, .goto 4, 3, [111], []), (110, .iconst 0, 1, [], []), (111, .ireturn, 1, [1], [])],
  [(112, .aload_n 0, 1, [], []), (113, .getfield 29, 3, [0, 2, 3, 310], []), (116, .getfield 97, 3, [3, 12, 0, 142], []), (119, .iconst 5, 1, [], []), (120, .if_icmp .lt 8, 3, [128], []), (123, .bipush 6, 2, [], []), (125, .goto 4, 3, [129], [])],
  [(128, .iconst 0, 1, [], []), (129, .ireturn, 1, [1], []), (130, .aload_n 0, 1, [], []), (131, .getfield 29, 3, [0, 2, 3, 310], []), (134, .getfield 100, 3, [3, 11, 0, 140], []), (137, .bipush 20, 2, [], []), (139, .if_icmp .lt 8, 3, [147], []), (142, .bipush 6, 2, [], [])],
  [(144, .goto 4, 3, [148], []), (147, .iconst 0, 1, [], []), (148, .ireturn, 1, [1], []), (149, .aload_n 0, 1, [], []), (150, .getfield 9, 3, [0, 3, 0, 311], []), (153, .aload_n 1, 1, [], []), (154, .getfield 103, 3, [20, 1, 0, 1846, 0], []), (157, .iand, 1, [], []), (158, .ifCond .ne 16, 3, [174], [])],
  [(161, .aload_n 0, 1, [], []), (162, .getfield 29, 3, [0, 2, 3, 310], []), (165, .getfield 94, 3, [3, 8, 3, 130], []), (168, .getfield 106, 3, [4, 1, 0, 101], []), (171, .ifCond .le 7, 3, [178], []), (174, .iconst 4, 1, [], []), (175, .goto 4, 3, [179], [])],
  [(178, .iconst 0, 1, [], []), (179, .ireturn, 1, [1], []), (180, .aload_n 0, 1, [], []), (181, .getfield 9, 3, [0, 3, 0, 311], []), (184, .aload_n 1, 1, [], []), (185, .getfield 103, 3, [20, 1, 0, 1846, 0], []), (188, .iand, 1, [], []), (189, .ifCond .eq 7, 3, [196], [])],
  [(192, .iconst 4, 1, [], []), (193, .goto 4, 3, [197], []), (196, .iconst 0, 1, [], []), (197, .ireturn, 1, [1], [])]]
theorem k_X1_errorOfFirstWord : CdOk m_X1_errorOfFirstWord c_X1_errorOfFirstWord := ⟨by decide +kernel, allM_of ⟨o_X6_isFull, ⟨o_X6_isFull, ⟨o_X6_isFull, trivial⟩⟩⟩⟩
def c_X6_numberOf : Cd := [
  [(0, .iconst 0, 1, [], []), (1, .istore_n 3, 1, [], []), (2, .iload_n 3, 1, [], []), (3, .aload_n 0, 1, [], []), (4, .getfield 9, 3, [4, 1, 0, 98], []), (7, .if_icmp .ge 22, 3, [29], []), (10, .aload_n 0, 1, [], []), (11, .getfield 15, 3, [4, 0, 3, 97], []), (14, .iload_n 3, 1, [], []), (15, .laload, 1, [], [])],
  [(16, .lload_n 1, 1, [], []), (17, .lcmp, 1, [], []), (18, .ifCond .ne 5, 3, [23], []), (21, .iload_n 3, 1, [], []), (22, .ireturn, 1, [1], []), (23, .iinc 3 1, 3, [], []), (26, .goto (-24), 3, [2], []), (29, .iconst (-1), 1, [], []), (30, .ireturn, 1, [1], [])]]
theorem k_X6_numberOf : CdOk m_X6_numberOf c_X6_numberOf := ⟨by decide +kernel, allM_of trivial⟩
def c_X10_takeNewName : Cd := [
  [(0, .aload_n 0, 1, [], []), (1, .getfield 25, 3, [7, 4, 0, 57], []), (4, .iconst 1, 1, [], []), (5, .if_icmp .eq 11, 3, [16], []), (8, .aload_n 0, 1, [], []), (9, .iconst 1, 1, [], []), (10, .invokevirtual 59, 3, [0, 1, 1, 7, 0, 514], [m_X10_fail]), (13, .pop, 1, [], []), (14, .lconst 0, 1, [], []), (15, .lreturn, 1, [], [])],
  [(16, .aload_n 1, 1, [], []), (17, .aload_n 0, 1, [], []), (18, .getfield 31, 3, [7, 6, 2, 60], []), (21, .invokevirtual 63, 3, [0, 1, 1, 4, 0, 515], [m_X6_numberOf]), (24, .iconst (-1), 1, [], []), (25, .if_icmp .eq 11, 3, [36], []), (28, .aload_n 0, 1, [], []), (29, .iconst 3, 1, [], []), (30, .invokevirtual 59, 3, [0, 1, 1, 7, 0, 514], [m_X10_fail])],
  [(33, .pop, 1, [], []), (34, .lconst 0, 1, [], []), (35, .lreturn, 1, [], []), (36, .aload_n 0, 1, [], []), (37, .getfield 31, 3, [7, 6, 2, 60], []), (40, .lstore_n 2, 1, [], []), (41, .aload_n 0, 1, [], []), (42, .invokevirtual 41, 3, [0, 0, 0, 7, 0, 408], [m_X10_advance]), (45, .lload_n 2, 1, [], []), (46, .lreturn, 1, [], [])]]
theorem k_X10_takeNewName : CdOk m_X10_takeNewName c_X10_takeNewName := ⟨by decide +kernel, allM_of ⟨o_X10_fail, ⟨o_X6_numberOf, ⟨o_X10_fail, ⟨o_X10_advance, trivial⟩⟩⟩⟩⟩
def c_X10_takeNumber : Cd := [
  [(0, .aload_n 0, 1, [], []), (1, .getfield 25, 3, [7, 4, 0, 57], []), (4, .iconst 2, 1, [], []), (5, .if_icmp .eq 11, 3, [16], []), (8, .aload_n 0, 1, [], []), (9, .iconst 1, 1, [], []), (10, .invokevirtual 59, 3, [0, 1, 1, 7, 0, 514], [m_X10_fail]), (13, .pop, 1, [], []), (14, .iconst (-1), 1, [], []), (15, .ireturn, 1, [1], [])],
  [(16, .aload_n 0, 1, [], []), (17, .getfield 35, 3, [7, 7, 0, 61], []), (20, .iload_n 1, 1, [], []), (21, .if_icmp .lt 11, 3, [32], []), (24, .aload_n 0, 1, [], []), (25, .getfield 35, 3, [7, 7, 0, 61], []), (28, .iload_n 2, 1, [], []), (29, .if_icmp .le 11, 3, [40], [])],
  [(32, .aload_n 0, 1, [], []), (33, .iconst 2, 1, [], []), (34, .invokevirtual 59, 3, [0, 1, 1, 7, 0, 514], [m_X10_fail]), (37, .pop, 1, [], []), (38, .iconst (-1), 1, [], []), (39, .ireturn, 1, [1], []), (40, .aload_n 0, 1, [], []), (41, .getfield 35, 3, [7, 7, 0, 61], []), (44, .istore_n 3, 1, [], []), (45, .aload_n 0, 1, [], []), (46, .invokevirtual 41, 3, [0, 0, 0, 7, 0, 408], [m_X10_advance])],
  [(49, .iload_n 3, 1, [], []), (50, .ireturn, 1, [1], [])]]
theorem k_X10_takeNumber : CdOk m_X10_takeNumber c_X10_takeNumber := ⟨by decide +kernel, allM_of ⟨o_X10_fail, ⟨o_X10_fail, ⟨o_X10_advance, trivial⟩⟩⟩⟩
def c_X6_add : Cd := [
  [(0, .aload_n 0, 1, [], []), (1, .getfield 9, 3, [4, 1, 0, 98], []), (4, .aload_n 0, 1, [], []), (5, .getfield 15, 3, [4, 0, 3, 97], []), (8, .arraylength, 1, [], []), (9, .if_icmp .ge 23, 3, [32], []), (12, .aload_n 0, 1, [], []), (13, .getfield 15, 3, [4, 0, 3, 97], [])],
  [(16, .aload_n 0, 1, [], []), (17, .getfield 9, 3, [4, 1, 0, 98], []), (20, .lload_n 1, 1, [], []), (21, .lastore, 1, [], []), (22, .aload_n 0, 1, [], []), (23, .dup, 1, [], []), (24, .getfield 9, 3, [4, 1, 0, 98], []), (27, .iconst 1, 1, [], []), (28, .iadd, 1, [], []), (29, .putfield 9, 3, [4, 1, 0, 98], [])],
  [(32, .return_, 1, [], [])]]
theorem k_X6_add : CdOk m_X6_add c_X6_add := ⟨by decide +kernel, allM_of trivial⟩
def c_X5_addVersion : Cd := [
  [(0, .aload_n 0, 1, [], []), (1, .getfield 14, 3, [3, 0, 3, 113], []), (4, .getfield 54, 3, [4, 1, 0, 99], []), (7, .istore 5, 2, [], []), (9, .iload 5, 2, [], []), (11, .bipush 8, 2, [], []), (13, .if_icmp .ge 39, 3, [52], [])],
  [(16, .aload_n 0, 1, [], []), (17, .getfield 14, 3, [3, 0, 3, 113], []), (20, .lload_n 1, 1, [], []), (21, .invokevirtual 87, 3, [0, 1, 0, 4, 0, 527], [m_X6_add]), (24, .aload_n 0, 1, [], []), (25, .getfield 20, 3, [3, 1, 3, 116], []), (28, .iload 5, 2, [], []), (30, .iload_n 3, 1, [], []), (31, .iastore, 1, [], [])],
  [(32, .aload_n 0, 1, [], []), (33, .getfield 24, 3, [3, 2, 3, 117], []), (36, .iload 5, 2, [], []), (38, .iload 4, 2, [], []), (40, .iastore, 1, [], []), (41, .aload_n 0, 1, [], []), (42, .getfield 27, 3, [3, 3, 3, 118], []), (45, .iload 5, 2, [], []), (47, .iconst 1, 1, [], [])],
  [(48, .iload 5, 2, [], []), (50, .ishl, 1, [], []), (51, .iastore, 1, [], []), (52, .return_, 1, [], [])]]
theorem k_X5_addVersion : CdOk m_X5_addVersion c_X5_addVersion := ⟨by decide +kernel, allM_of ⟨o_X6_add, trivial⟩⟩
def c_X1_readVersion : Cd := [
  [(0, .aload_n 0, 1, [], []), (1, .getfield 15, 3, [0, 0, 3, 308], []), (4, .aload_n 0, 1, [], []), (5, .getfield 29, 3, [0, 2, 3, 310], []), (8, .getfield 82, 3, [3, 0, 3, 114], []), (11, .invokevirtual 130, 3, [0, 1, 2, 7, 0, 510], [m_X10_takeNewName]), (14, .lstore_n 1, 1, [], []), (15, .lload_n 1, 1, [], [])],
  [(16, .lconst 0, 1, [], []), (17, .lcmp, 1, [], []), (18, .ifCond .ne 5, 3, [23], []), (21, .iconst 0, 1, [], []), (22, .ireturn, 1, [6], []), (23, .aload_n 0, 1, [], []), (24, .getfield 15, 3, [0, 0, 3, 308], []), (27, .iconst 1, 1, [], []), (28, .bipush 9, 2, [], []), (30, .invokevirtual 134, 3, [0, 2, 1, 7, 0, 519], [m_X10_takeNumber])],
  [(33, .istore_n 3, 1, [], []), (34, .iload_n 3, 1, [], []), (35, .iconst (-1), 1, [], []), (36, .if_icmp .ne 5, 3, [41], []), (39, .iconst 0, 1, [], []), (40, .ireturn, 1, [6], []), (41, .aload_n 0, 1, [], []), (42, .getfield 15, 3, [0, 0, 3, 308], []), (45, .iload_n 3, 1, [], []), (46, .bipush 9, 2, [], [])],
  [(48, .invokevirtual 134, 3, [0, 2, 1, 7, 0, 519], [m_X10_takeNumber]), (51, .istore 4, 2, [], []), (53, .iload 4, 2, [], []), (55, .iconst (-1), 1, [], []), (56, .if_icmp .ne 5, 3, [61], []), (59, .iconst 0, 1, [], []), (60, .ireturn, 1, [6], []), (61, .aload_n 0, 1, [], []), (62, .getfield 29, 3, [0, 2, 3, 310], [])],
  [(65, .lload_n 1, 1, [], []), (66, .iload_n 3, 1, [], []), (67, .iload 4, 2, [], []), (69, .invokevirtual 138, 3, [0, 3, 0, 3, 0, 523], [m_X5_addVersion]), (72, .iconst 1, 1, [], []), (73, .ireturn, 1, [6], [])]]
theorem k_X1_readVersion : CdOk m_X1_readVersion c_X1_readVersion := ⟨by decide +kernel, allM_of ⟨o_X10_takeNewName, ⟨o_X10_takeNumber, ⟨o_X10_takeNumber, ⟨o_X5_addVersion, trivial⟩⟩⟩⟩⟩
def c_X10_findName : Cd := [
  [(0, .aload_n 0, 1, [], []), (1, .getfield 25, 3, [7, 4, 0, 57], []), (4, .iconst 1, 1, [], []), (5, .if_icmp .eq 11, 3, [16], []), (8, .aload_n 0, 1, [], []), (9, .iconst 1, 1, [], []), (10, .invokevirtual 59, 3, [0, 1, 1, 7, 0, 514], [m_X10_fail]), (13, .pop, 1, [], []), (14, .iconst (-1), 1, [], []), (15, .ireturn, 1, [1], [])],
  [(16, .aload_n 1, 1, [], []), (17, .aload_n 0, 1, [], []), (18, .getfield 31, 3, [7, 6, 2, 60], []), (21, .invokevirtual 63, 3, [0, 1, 1, 4, 0, 515], [m_X6_numberOf]), (24, .istore_n 2, 1, [], []), (25, .iload_n 2, 1, [], []), (26, .iconst (-1), 1, [], []), (27, .if_icmp .ne 9, 3, [36], []), (30, .aload_n 0, 1, [], []), (31, .iconst 3, 1, [], [])],
  [(32, .invokevirtual 59, 3, [0, 1, 1, 7, 0, 514], [m_X10_fail]), (35, .pop, 1, [], []), (36, .iload_n 2, 1, [], []), (37, .ireturn, 1, [1], [])]]
theorem k_X10_findName : CdOk m_X10_findName c_X10_findName := ⟨by decide +kernel, allM_of ⟨o_X10_fail, ⟨o_X6_numberOf, ⟨o_X10_fail, trivial⟩⟩⟩⟩
def c_X5_talkersOf : Cd := [
  [(0, .iload_n 1, 1, [], []), (1, .ifCond .lt 23, 3, [24], []), (4, .iload_n 1, 1, [], []), (5, .aload_n 0, 1, [], []), (6, .getfield 14, 3, [3, 0, 3, 113], []), (9, .getfield 54, 3, [4, 1, 0, 99], []), (12, .if_icmp .ge 12, 3, [24], []), (15, .aload_n 0, 1, [], [])],
  [(16, .getfield 27, 3, [3, 3, 3, 118], []), (19, .iload_n 1, 1, [], []), (20, .iaload, 1, [], []), (21, .goto 4, 3, [25], []), (24, .iconst 0, 1, [], []), (25, .ireturn, 1, [1], [])]]
theorem k_X5_talkersOf : CdOk m_X5_talkersOf c_X5_talkersOf := ⟨by decide +kernel, allM_of trivial⟩
def c_X11_isIn : Cd := [
  [(0, .iload_n 0, 1, [], []), (1, .iload_n 1, 1, [], []), (2, .ishr, 1, [], []), (3, .iconst 1, 1, [], []), (4, .iand, 1, [], []), (5, .ifCond .eq 7, 3, [12], []), (8, .iconst 1, 1, [], []), (9, .goto 4, 3, [13], []), (12, .iconst 0, 1, [], []), (13, .ireturn, 1, [6], [])]]
theorem k_X11_isIn : CdOk m_X11_isIn c_X11_isIn := ⟨by decide +kernel, allM_of trivial⟩
def c_X5_addTalk : Cd := [
  [(0, .aload_n 0, 1, [], []), (1, .getfield 27, 3, [3, 3, 3, 118], []), (4, .iload_n 1, 1, [], []), (5, .dup2, 1, [], []), (6, .iaload, 1, [], []), (7, .iconst 1, 1, [], []), (8, .iload_n 2, 1, [], []), (9, .ishl, 1, [], []), (10, .ior, 1, [], []), (11, .iastore, 1, [], []), (12, .aload_n 0, 1, [], []), (13, .getfield 27, 3, [3, 3, 3, 118], [])],
  [(16, .iload_n 2, 1, [], []), (17, .dup2, 1, [], []), (18, .iaload, 1, [], []), (19, .iconst 1, 1, [], []), (20, .iload_n 1, 1, [], []), (21, .ishl, 1, [], []), (22, .ior, 1, [], []), (23, .iastore, 1, [], []), (24, .return_, 1, [], [])]]
theorem k_X5_addTalk : CdOk m_X5_addTalk c_X5_addTalk := ⟨by decide +kernel, allM_of trivial⟩
