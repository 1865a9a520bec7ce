/-! ===== tables of the methods' code, 1 ===== -/
/-! ===== tables ===== -/
theorem tbG_atS {p : Nat} {w : Jvm.Cond} (h : (decide ((k2_sels lw_privs)[p]? = some w) && goodWord w) = true) : w ∈ tbG := by
  simp only [Bool.and_eq_true, decide_eq_true_eq] at h
  exact List.mem_filter.mpr ⟨List.mem_append_left _ (List.mem_of_getElem? h.1), h.2⟩
theorem MOKi {M : MI} (h1 : headM M ∈ tbG) (h2 : Cond.initialized M.y.cls ∈ tbG) (h3 : plainName M.y.cls = true) (h4 : M.sk = 0) (h5 : M.hh = []) (h6 : Cond.instanceMethod M.y ∈ tbG) (h7 : Cond.selects M.y.cls M.y M.y ∈ tbG) : MOK M := ⟨h1, h2, h3, by rw [h4]; exact ⟨h5, h6, h7⟩⟩
theorem MOKs {M : MI} (h1 : headM M ∈ tbG) (h2 : Cond.initialized M.y.cls ∈ tbG) (h3 : plainName M.y.cls = true) (h4 : M.sk = 1) (h5 : M.hh = []) (h6 : Cond.static M.y ∈ tbG) : MOK M := ⟨h1, h2, h3, by rw [h4]; exact ⟨h5, h6⟩⟩
theorem MOKh {M : MI} (h1 : headM M ∈ tbG) (h2 : Cond.initialized M.y.cls ∈ tbG) (h3 : plainName M.y.cls = true) (h4 : M.sk = 2) (h5 : M.hh ≠ []) (h6 : Cond.static M.y ∈ tbG) : MOK M := ⟨h1, h2, h3, by rw [h4]; exact ⟨h5, h6⟩⟩
def allM : List MI → Prop
  | [] => True
  | M :: r => MOK M ∧ allM r
theorem allM_of {l : List MI} (h : allM l) : ∀ M ∈ l, MOK M := by
  induction l with
  | nil => intro M hM; cases hM
  | cons a r ih =>
    intro M hM
    rcases List.mem_cons.mp hM with rfl | hM
    · exact h.1
    · exact ih h.2 M hM
def m_X10_append : MI := (yX10_append, cX10_append, 3, none, 0, 0, 0, [], 0)
def m_X11_feed : MI := (yX11_feed, cX11_feed, 6, some .int, 6, 89, 1, [], 0)
def m_L_feed : MI := (yL_feed, cL_feed, 8, some .int, 7, 114, 1, [(0, 16, 19, 13)], 2)
def m_X12_truth : MI := (yX12_truth, cX12_truth, 1, some .int, 0, 0, 0, [], 1)
def m_X12_goes : MI := (yX12_goes, cX12_goes, 2, some .boolean, 1, 20, 0, [], 0)
def m_X12_four : MI := (yX12_four, cX12_four, 3, none, 0, 0, 0, [], 0)
def m_X12_feed : MI := (yX12_feed, cX12_feed, 6, some .int, 2, 41, 0, [], 0)
def m_X12_thrown : MI := (yX12_thrown, cX12_thrown, 1, some .int, 0, 0, 0, [], 0)
def m_X11_truncate : MI := (yX11_truncate, cX11_truncate, 2, some .int, 6, 89, 1, [], 0)
def m_L_truncate : MI := (yL_truncate, cL_truncate, 4, some .int, 7, 110, 1, [(0, 9, 12, 19)], 2)
def m_X12_isIn : MI := (yX12_isIn, cX12_isIn, 6, some .boolean, 0, 0, 0, [], 1)
def m_X12_truncate : MI := (yX12_truncate, cX12_truncate, 2, some .int, 2, 41, 0, [], 0)
def m_X5_reset : MI := (yX5_reset, cX5_reset, 1, none, 0, 0, 0, [], 0)
def m_X8_reset : MI := (yX8_reset, cX8_reset, 1, none, 0, 0, 0, [], 0)
def m_X10_scanWord : MI := (yX10_scanWord, cX10_scanWord, 1, none, 0, 0, 0, [], 0)
def m_X10_scanNumber : MI := (yX10_scanNumber, cX10_scanNumber, 1, none, 0, 0, 0, [], 0)
def m_X10_advance : MI := (yX10_advance, cX10_advance, 2, none, 1, 20, 0, [], 0)
def m_X10_begin : MI := (yX10_begin, cX10_begin, 1, none, 2, 41, 0, [], 0)
def m_J0_coder_7d493 : MI := (yJ0_coder_7d493, cJ0_coder_7d493, 1, some .byte, 0, 0, 0, [], 0)
def m_J0_length_8abf5 : MI := (yJ0_length_8abf5, cJ0_length_8abf5, 1, some .int, 1, 20, 0, [], 0)
def m_J0_isLatin1_aae02 : MI := (yJ0_isLatin1_aae02, cJ0_isLatin1_aae02, 1, some .boolean, 0, 0, 0, [], 0)
def m_J3_checkIndex_8e157 : MI := (yJ3_checkIndex_8e157, cJ3_checkIndex_8e157, 3, some .int, 0, 0, 0, [], 1)
def m_J0_checkIndex_df160 : MI := (yJ0_checkIndex_df160, cJ0_checkIndex_df160, 2, none, 1, 22, 0, [], 1)
def m_J1_charAt_3b067 : MI := (yJ1_charAt_3b067, cJ1_charAt_3b067, 2, some .char, 2, 43, 0, [], 1)
def m_J2_length_9d52b : MI := (yJ2_length_9d52b, cJ2_length_9d52b, 1, some .int, 0, 0, 0, [], 1)
def m_J2_checkIndex_2214a : MI := (yJ2_checkIndex_2214a, cJ2_checkIndex_2214a, 2, none, 2, 43, 0, [], 1)
def m_J2_getChar_3b067 : MI := (yJ2_getChar_3b067, cJ2_getChar_3b067, 2, some .char, 0, 0, 0, [], 1)
def m_J2_charAt_3b067 : MI := (yJ2_charAt_3b067, cJ2_charAt_3b067, 2, some .char, 3, 64, 0, [], 1)
def m_J0_charAt_5068e : MI := (yJ0_charAt_5068e, cJ0_charAt_5068e, 2, some .char, 4, 85, 0, [], 0)
def m_X10_isWord : MI := (yX10_isWord, cX10_isWord, 5, some .boolean, 5, 106, 0, [], 0)
def m_X9_at : MI := (yX9_at, cX9_at, 5, some (.object "WaveUpgrade$Statement"), 6, 130, 0, [], 1)
def m_X10_fail : MI := (yX10_fail, cX10_fail, 2, some .boolean, 0, 0, 0, [], 0)
def m_X6_isFull : MI := (yX6_isFull, cX6_isFull, 1, some .boolean, 0, 0, 0, [], 0)
def m_X1_errorOfFirstWord : MI := (yX1_errorOfFirstWord, cX1_errorOfFirstWord, 2, some .int, 1, 60, 0, [], 0)
def m_X6_numberOf : MI := (yX6_numberOf, cX6_numberOf, 4, some .int, 0, 0, 0, [], 0)
def m_X10_takeNewName : MI := (yX10_takeNewName, cX10_takeNewName, 4, some .long, 2, 41, 0, [], 0)
def m_X10_takeNumber : MI := (yX10_takeNumber, cX10_takeNumber, 4, some .int, 2, 41, 0, [], 0)
def m_X6_add : MI := (yX6_add, cX6_add, 3, none, 0, 0, 0, [], 0)
def m_X5_addVersion : MI := (yX5_addVersion, cX5_addVersion, 6, none, 1, 22, 0, [], 0)
def m_X1_readVersion : MI := (yX1_readVersion, cX1_readVersion, 5, some .boolean, 3, 64, 0, [], 0)
def m_X10_findName : MI := (yX10_findName, cX10_findName, 3, some .int, 1, 23, 0, [], 0)
def m_X5_talkersOf : MI := (yX5_talkersOf, cX5_talkersOf, 2, some .int, 0, 0, 0, [], 0)
def m_X11_isIn : MI := (yX11_isIn, cX11_isIn, 2, some .boolean, 0, 0, 0, [], 1)
def m_X5_addTalk : MI := (yX5_addTalk, cX5_addTalk, 3, none, 0, 0, 0, [], 0)
def m_X1_readTalks : MI := (yX1_readTalks, cX1_readTalks, 3, some .boolean, 2, 45, 0, [], 0)
def m_X5_addPlace : MI := (yX5_addPlace, cX5_addPlace, 4, none, 1, 22, 0, [], 0)
def m_X1_readPlace : MI := (yX1_readPlace, cX1_readPlace, 3, some .boolean, 3, 64, 0, [], 0)
def m_X5_isReader : MI := (yX5_isReader, cX5_isReader, 3, some .boolean, 0, 0, 0, [], 0)
def m_X8_canJoin : MI := (yX8_canJoin, cX8_canJoin, 6, some .boolean, 1, 60, 0, [], 0)
def m_X5_join : MI := (yX5_join, cX5_join, 3, none, 0, 0, 0, [], 0)
def m_X5_addMember : MI := (yX5_addMember, cX5_addMember, 6, none, 1, 22, 0, [], 0)
def m_X8_addMember : MI := (yX8_addMember, cX8_addMember, 7, none, 2, 47, 0, [], 0)
def m_X1_readMember : MI := (yX1_readMember, cX1_readMember, 6, some .boolean, 6, 130, 0, [], 0)
def m_X5_addLink : MI := (yX5_addLink, cX5_addLink, 3, none, 1, 22, 0, [], 0)
def m_X1_readLink : MI := (yX1_readLink, cX1_readLink, 3, some .boolean, 2, 45, 0, [], 0)
def m_X5_addWave : MI := (yX5_addWave, cX5_addWave, 1, none, 0, 0, 0, [], 0)
def m_X5_addToWave : MI := (yX5_addToWave, cX5_addToWave, 3, none, 0, 0, 0, [], 0)
def m_X1_readPlaceOfWave : MI := (yX1_readPlaceOfWave, cX1_readPlaceOfWave, 3, some .boolean, 2, 45, 0, [], 0)
def m_X1_readWave : MI := (yX1_readWave, cX1_readWave, 4, some .boolean, 3, 67, 0, [], 0)
def m_X1_readSetting : MI := (yX1_readSetting, cX1_readSetting, 3, some .boolean, 3, 64, 0, [], 0)
def m_X1_readRest : MI := (yX1_readRest, cX1_readRest, 2, some .boolean, 7, 155, 0, [], 0)
def m_X10_takeSign : MI := (yX10_takeSign, cX10_takeSign, 2, some .boolean, 2, 41, 0, [], 0)
theorem o_X10_append : MOK m_X10_append := MOKi (tbG_at (p := 748) (by decide +kernel)) (tbG_at (p := 2) (by decide +kernel)) (by decide +kernel) rfl rfl (tbG_at (p := 746) (by decide +kernel)) (tbG_at (p := 747) (by decide +kernel))
theorem o_X11_feed : MOK m_X11_feed := MOKi (tbG_at (p := 681) (by decide +kernel)) (tbG_at (p := 1) (by decide +kernel)) (by decide +kernel) rfl rfl (tbG_at (p := 679) (by decide +kernel)) (tbG_at (p := 680) (by decide +kernel))
theorem o_L_feed : MOK m_L_feed := MOKh (tbG_at (p := 676) (by decide +kernel)) (tbG_at (p := 0) (by decide +kernel)) (by decide +kernel) rfl (by decide) (tbG_at (p := 675) (by decide +kernel))
theorem o_X12_truth : MOK m_X12_truth := MOKs (tbG_at (p := 1556) (by decide +kernel)) (tbG_at (p := 10) (by decide +kernel)) (by decide +kernel) rfl rfl (tbG_at (p := 1555) (by decide +kernel))
theorem o_X12_goes : MOK m_X12_goes := MOKi (tbG_at (p := 1553) (by decide +kernel)) (tbG_at (p := 10) (by decide +kernel)) (by decide +kernel) rfl rfl (tbG_at (p := 1552) (by decide +kernel)) (tbG_atS (p := 36) (by decide +kernel))
theorem o_X12_four : MOK m_X12_four := MOKi (tbG_at (p := 1560) (by decide +kernel)) (tbG_at (p := 10) (by decide +kernel)) (by decide +kernel) rfl rfl (tbG_at (p := 1559) (by decide +kernel)) (tbG_atS (p := 37) (by decide +kernel))
theorem o_X12_feed : MOK m_X12_feed := MOKi (tbG_at (p := 1549) (by decide +kernel)) (tbG_at (p := 10) (by decide +kernel)) (by decide +kernel) rfl rfl (tbG_at (p := 1547) (by decide +kernel)) (tbG_at (p := 1548) (by decide +kernel))
theorem o_X12_thrown : MOK m_X12_thrown := MOKi (tbG_at (p := 1545) (by decide +kernel)) (tbG_at (p := 10) (by decide +kernel)) (by decide +kernel) rfl rfl (tbG_at (p := 1543) (by decide +kernel)) (tbG_at (p := 1544) (by decide +kernel))
theorem o_X11_truncate : MOK m_X11_truncate := MOKi (tbG_at (p := 756) (by decide +kernel)) (tbG_at (p := 1) (by decide +kernel)) (by decide +kernel) rfl rfl (tbG_at (p := 754) (by decide +kernel)) (tbG_at (p := 755) (by decide +kernel))
theorem o_L_truncate : MOK m_L_truncate := MOKh (tbG_at (p := 751) (by decide +kernel)) (tbG_at (p := 0) (by decide +kernel)) (by decide +kernel) rfl (by decide) (tbG_at (p := 750) (by decide +kernel))
theorem o_X12_isIn : MOK m_X12_isIn := MOKs (tbG_at (p := 1567) (by decide +kernel)) (tbG_at (p := 10) (by decide +kernel)) (by decide +kernel) rfl rfl (tbG_at (p := 1566) (by decide +kernel))
theorem o_X12_truncate : MOK m_X12_truncate := MOKi (tbG_at (p := 1564) (by decide +kernel)) (tbG_at (p := 10) (by decide +kernel)) (by decide +kernel) rfl rfl (tbG_at (p := 1562) (by decide +kernel)) (tbG_at (p := 1563) (by decide +kernel))
theorem o_X5_reset : MOK m_X5_reset := MOKi (tbG_at (p := 105) (by decide +kernel)) (tbG_at (p := 4) (by decide +kernel)) (by decide +kernel) rfl rfl (tbG_at (p := 103) (by decide +kernel)) (tbG_at (p := 104) (by decide +kernel))
theorem o_X8_reset : MOK m_X8_reset := MOKi (tbG_at (p := 220) (by decide +kernel)) (tbG_at (p := 3) (by decide +kernel)) (by decide +kernel) rfl rfl (tbG_at (p := 218) (by decide +kernel)) (tbG_at (p := 219) (by decide +kernel))
theorem o_X10_scanWord : MOK m_X10_scanWord := MOKi (tbG_at (p := 796) (by decide +kernel)) (tbG_at (p := 2) (by decide +kernel)) (by decide +kernel) rfl rfl (tbG_at (p := 795) (by decide +kernel)) (tbG_atS (p := 12) (by decide +kernel))
theorem o_X10_scanNumber : MOK m_X10_scanNumber := MOKi (tbG_at (p := 800) (by decide +kernel)) (tbG_at (p := 2) (by decide +kernel)) (by decide +kernel) rfl rfl (tbG_at (p := 799) (by decide +kernel)) (tbG_atS (p := 13) (by decide +kernel))
theorem o_X10_advance : MOK m_X10_advance := MOKi (tbG_at (p := 792) (by decide +kernel)) (tbG_at (p := 2) (by decide +kernel)) (by decide +kernel) rfl rfl (tbG_at (p := 790) (by decide +kernel)) (tbG_at (p := 791) (by decide +kernel))
theorem o_X10_begin : MOK m_X10_begin := MOKi (tbG_at (p := 788) (by decide +kernel)) (tbG_at (p := 2) (by decide +kernel)) (by decide +kernel) rfl rfl (tbG_at (p := 786) (by decide +kernel)) (tbG_at (p := 787) (by decide +kernel))
theorem o_J0_coder_7d493 : MOK m_J0_coder_7d493 := MOKi (tbG_at (p := 821) (by decide +kernel)) (tbG_at (p := 18) (by decide +kernel)) (by decide +kernel) rfl rfl (tbG_at (p := 819) (by decide +kernel)) (tbG_at (p := 820) (by decide +kernel))
theorem o_J0_length_8abf5 : MOK m_J0_length_8abf5 := MOKi (tbG_at (p := 817) (by decide +kernel)) (tbG_at (p := 18) (by decide +kernel)) (by decide +kernel) rfl rfl (tbG_at (p := 815) (by decide +kernel)) (tbG_at (p := 816) (by decide +kernel))
theorem o_J0_isLatin1_aae02 : MOK m_J0_isLatin1_aae02 := MOKi (tbG_at (p := 831) (by decide +kernel)) (tbG_at (p := 18) (by decide +kernel)) (by decide +kernel) rfl rfl (tbG_at (p := 829) (by decide +kernel)) (tbG_at (p := 830) (by decide +kernel))
theorem o_J3_checkIndex_8e157 : MOK m_J3_checkIndex_8e157 := MOKs (tbG_at (p := 842) (by decide +kernel)) (tbG_at (p := 20) (by decide +kernel)) (by decide +kernel) rfl rfl (tbG_at (p := 841) (by decide +kernel))
theorem o_J0_checkIndex_df160 : MOK m_J0_checkIndex_df160 := MOKs (tbG_at (p := 837) (by decide +kernel)) (tbG_at (p := 18) (by decide +kernel)) (by decide +kernel) rfl rfl (tbG_at (p := 836) (by decide +kernel))
theorem o_J1_charAt_3b067 : MOK m_J1_charAt_3b067 := MOKs (tbG_at (p := 834) (by decide +kernel)) (tbG_at (p := 19) (by decide +kernel)) (by decide +kernel) rfl rfl (tbG_at (p := 833) (by decide +kernel))
theorem o_J2_length_9d52b : MOK m_J2_length_9d52b := MOKs (tbG_at (p := 851) (by decide +kernel)) (tbG_at (p := 21) (by decide +kernel)) (by decide +kernel) rfl rfl (tbG_at (p := 850) (by decide +kernel))
theorem o_J2_checkIndex_2214a : MOK m_J2_checkIndex_2214a := MOKs (tbG_at (p := 848) (by decide +kernel)) (tbG_at (p := 21) (by decide +kernel)) (by decide +kernel) rfl rfl (tbG_at (p := 847) (by decide +kernel))
theorem o_J2_getChar_3b067 : MOK m_J2_getChar_3b067 := MOKs (tbG_at (p := 855) (by decide +kernel)) (tbG_at (p := 21) (by decide +kernel)) (by decide +kernel) rfl rfl (tbG_at (p := 854) (by decide +kernel))
theorem o_J2_charAt_3b067 : MOK m_J2_charAt_3b067 := MOKs (tbG_at (p := 845) (by decide +kernel)) (tbG_at (p := 21) (by decide +kernel)) (by decide +kernel) rfl rfl (tbG_at (p := 844) (by decide +kernel))
theorem o_J0_charAt_5068e : MOK m_J0_charAt_5068e := MOKi (tbG_at (p := 827) (by decide +kernel)) (tbG_at (p := 18) (by decide +kernel)) (by decide +kernel) rfl rfl (tbG_at (p := 825) (by decide +kernel)) (tbG_at (p := 826) (by decide +kernel))
theorem o_X10_isWord : MOK m_X10_isWord := MOKi (tbG_at (p := 813) (by decide +kernel)) (tbG_at (p := 2) (by decide +kernel)) (by decide +kernel) rfl rfl (tbG_at (p := 811) (by decide +kernel)) (tbG_at (p := 812) (by decide +kernel))
theorem o_X9_at : MOK m_X9_at := MOKs (tbG_at (p := 807) (by decide +kernel)) (tbG_at (p := 17) (by decide +kernel)) (by decide +kernel) rfl rfl (tbG_at (p := 806) (by decide +kernel))
theorem o_X10_fail : MOK m_X10_fail := MOKi (tbG_at (p := 865) (by decide +kernel)) (tbG_at (p := 2) (by decide +kernel)) (by decide +kernel) rfl rfl (tbG_at (p := 863) (by decide +kernel)) (tbG_at (p := 864) (by decide +kernel))
theorem o_X6_isFull : MOK m_X6_isFull := MOKi (tbG_at (p := 881) (by decide +kernel)) (tbG_at (p := 5) (by decide +kernel)) (by decide +kernel) rfl rfl (tbG_at (p := 879) (by decide +kernel)) (tbG_at (p := 880) (by decide +kernel))
theorem o_X1_errorOfFirstWord : MOK m_X1_errorOfFirstWord := MOKi (tbG_at (p := 869) (by decide +kernel)) (tbG_at (p := 8) (by decide +kernel)) (by decide +kernel) rfl rfl (tbG_at (p := 868) (by decide +kernel)) (tbG_atS (p := 15) (by decide +kernel))
theorem o_X6_numberOf : MOK m_X6_numberOf := MOKi (tbG_at (p := 899) (by decide +kernel)) (tbG_at (p := 5) (by decide +kernel)) (by decide +kernel) rfl rfl (tbG_at (p := 897) (by decide +kernel)) (tbG_at (p := 898) (by decide +kernel))
theorem o_X10_takeNewName : MOK m_X10_takeNewName := MOKi (tbG_at (p := 894) (by decide +kernel)) (tbG_at (p := 2) (by decide +kernel)) (by decide +kernel) rfl rfl (tbG_at (p := 892) (by decide +kernel)) (tbG_at (p := 893) (by decide +kernel))
theorem o_X10_takeNumber : MOK m_X10_takeNumber := MOKi (tbG_at (p := 903) (by decide +kernel)) (tbG_at (p := 2) (by decide +kernel)) (by decide +kernel) rfl rfl (tbG_at (p := 901) (by decide +kernel)) (tbG_at (p := 902) (by decide +kernel))
theorem o_X6_add : MOK m_X6_add := MOKi (tbG_at (p := 911) (by decide +kernel)) (tbG_at (p := 5) (by decide +kernel)) (by decide +kernel) rfl rfl (tbG_at (p := 909) (by decide +kernel)) (tbG_at (p := 910) (by decide +kernel))
theorem o_X5_addVersion : MOK m_X5_addVersion := MOKi (tbG_at (p := 907) (by decide +kernel)) (tbG_at (p := 4) (by decide +kernel)) (by decide +kernel) rfl rfl (tbG_at (p := 905) (by decide +kernel)) (tbG_at (p := 906) (by decide +kernel))
theorem o_X1_readVersion : MOK m_X1_readVersion := MOKi (tbG_at (p := 890) (by decide +kernel)) (tbG_at (p := 8) (by decide +kernel)) (by decide +kernel) rfl rfl (tbG_at (p := 889) (by decide +kernel)) (tbG_atS (p := 17) (by decide +kernel))
theorem o_X10_findName : MOK m_X10_findName := MOKi (tbG_at (p := 919) (by decide +kernel)) (tbG_at (p := 2) (by decide +kernel)) (by decide +kernel) rfl rfl (tbG_at (p := 917) (by decide +kernel)) (tbG_at (p := 918) (by decide +kernel))
theorem o_X5_talkersOf : MOK m_X5_talkersOf := MOKi (tbG_at (p := 498) (by decide +kernel)) (tbG_at (p := 4) (by decide +kernel)) (by decide +kernel) rfl rfl (tbG_at (p := 496) (by decide +kernel)) (tbG_at (p := 497) (by decide +kernel))
theorem o_X11_isIn : MOK m_X11_isIn := MOKs (tbG_at (p := 422) (by decide +kernel)) (tbG_at (p := 1) (by decide +kernel)) (by decide +kernel) rfl rfl (tbG_at (p := 421) (by decide +kernel))
theorem o_X5_addTalk : MOK m_X5_addTalk := MOKi (tbG_at (p := 925) (by decide +kernel)) (tbG_at (p := 4) (by decide +kernel)) (by decide +kernel) rfl rfl (tbG_at (p := 923) (by decide +kernel)) (tbG_at (p := 924) (by decide +kernel))
theorem o_X1_readTalks : MOK m_X1_readTalks := MOKi (tbG_at (p := 915) (by decide +kernel)) (tbG_at (p := 8) (by decide +kernel)) (by decide +kernel) rfl rfl (tbG_at (p := 914) (by decide +kernel)) (tbG_atS (p := 18) (by decide +kernel))
theorem o_X5_addPlace : MOK m_X5_addPlace := MOKi (tbG_at (p := 933) (by decide +kernel)) (tbG_at (p := 4) (by decide +kernel)) (by decide +kernel) rfl rfl (tbG_at (p := 931) (by decide +kernel)) (tbG_at (p := 932) (by decide +kernel))
theorem o_X1_readPlace : MOK m_X1_readPlace := MOKi (tbG_at (p := 929) (by decide +kernel)) (tbG_at (p := 8) (by decide +kernel)) (by decide +kernel) rfl rfl (tbG_at (p := 928) (by decide +kernel)) (tbG_atS (p := 19) (by decide +kernel))
theorem o_X5_isReader : MOK m_X5_isReader := MOKi (tbG_at (p := 483) (by decide +kernel)) (tbG_at (p := 4) (by decide +kernel)) (by decide +kernel) rfl rfl (tbG_at (p := 481) (by decide +kernel)) (tbG_at (p := 482) (by decide +kernel))
theorem o_X8_canJoin : MOK m_X8_canJoin := MOKi (tbG_at (p := 941) (by decide +kernel)) (tbG_at (p := 3) (by decide +kernel)) (by decide +kernel) rfl rfl (tbG_at (p := 939) (by decide +kernel)) (tbG_at (p := 940) (by decide +kernel))
theorem o_X5_join : MOK m_X5_join := MOKi (tbG_at (p := 955) (by decide +kernel)) (tbG_at (p := 4) (by decide +kernel)) (by decide +kernel) rfl rfl (tbG_at (p := 954) (by decide +kernel)) (tbG_atS (p := 21) (by decide +kernel))
theorem o_X5_addMember : MOK m_X5_addMember := MOKi (tbG_at (p := 951) (by decide +kernel)) (tbG_at (p := 4) (by decide +kernel)) (by decide +kernel) rfl rfl (tbG_at (p := 949) (by decide +kernel)) (tbG_at (p := 950) (by decide +kernel))
theorem o_X8_addMember : MOK m_X8_addMember := MOKi (tbG_at (p := 947) (by decide +kernel)) (tbG_at (p := 3) (by decide +kernel)) (by decide +kernel) rfl rfl (tbG_at (p := 945) (by decide +kernel)) (tbG_at (p := 946) (by decide +kernel))
theorem o_X1_readMember : MOK m_X1_readMember := MOKi (tbG_at (p := 937) (by decide +kernel)) (tbG_at (p := 8) (by decide +kernel)) (by decide +kernel) rfl rfl (tbG_at (p := 936) (by decide +kernel)) (tbG_atS (p := 20) (by decide +kernel))
theorem o_X5_addLink : MOK m_X5_addLink := MOKi (tbG_at (p := 963) (by decide +kernel)) (tbG_at (p := 4) (by decide +kernel)) (by decide +kernel) rfl rfl (tbG_at (p := 961) (by decide +kernel)) (tbG_at (p := 962) (by decide +kernel))
theorem o_X1_readLink : MOK m_X1_readLink := MOKi (tbG_at (p := 959) (by decide +kernel)) (tbG_at (p := 8) (by decide +kernel)) (by decide +kernel) rfl rfl (tbG_at (p := 958) (by decide +kernel)) (tbG_atS (p := 22) (by decide +kernel))
theorem o_X5_addWave : MOK m_X5_addWave := MOKi (tbG_at (p := 971) (by decide +kernel)) (tbG_at (p := 4) (by decide +kernel)) (by decide +kernel) rfl rfl (tbG_at (p := 969) (by decide +kernel)) (tbG_at (p := 970) (by decide +kernel))
theorem o_X5_addToWave : MOK m_X5_addToWave := MOKi (tbG_at (p := 979) (by decide +kernel)) (tbG_at (p := 4) (by decide +kernel)) (by decide +kernel) rfl rfl (tbG_at (p := 977) (by decide +kernel)) (tbG_at (p := 978) (by decide +kernel))
theorem o_X1_readPlaceOfWave : MOK m_X1_readPlaceOfWave := MOKi (tbG_at (p := 975) (by decide +kernel)) (tbG_at (p := 8) (by decide +kernel)) (by decide +kernel) rfl rfl (tbG_at (p := 974) (by decide +kernel)) (tbG_atS (p := 24) (by decide +kernel))
theorem o_X1_readWave : MOK m_X1_readWave := MOKi (tbG_at (p := 967) (by decide +kernel)) (tbG_at (p := 8) (by decide +kernel)) (by decide +kernel) rfl rfl (tbG_at (p := 966) (by decide +kernel)) (tbG_atS (p := 23) (by decide +kernel))
theorem o_X1_readSetting : MOK m_X1_readSetting := MOKi (tbG_at (p := 983) (by decide +kernel)) (tbG_at (p := 8) (by decide +kernel)) (by decide +kernel) rfl rfl (tbG_at (p := 982) (by decide +kernel)) (tbG_atS (p := 25) (by decide +kernel))
theorem o_X1_readRest : MOK m_X1_readRest := MOKi (tbG_at (p := 886) (by decide +kernel)) (tbG_at (p := 8) (by decide +kernel)) (by decide +kernel) rfl rfl (tbG_at (p := 885) (by decide +kernel)) (tbG_atS (p := 16) (by decide +kernel))
theorem o_X10_takeSign : MOK m_X10_takeSign := MOKi (tbG_at (p := 987) (by decide +kernel)) (tbG_at (p := 2) (by decide +kernel)) (by decide +kernel) rfl rfl (tbG_at (p := 985) (by decide +kernel)) (tbG_at (p := 986) (by decide +kernel))
def c_X10_append : Cd := [
  [(0, .bipush 24, 2, [], []), (2, .istore_n 2, 1, [], []), (3, .iload_n 2, 1, [], []), (4, .ifCond .lt 44, 3, [48], []), (7, .aload_n 0, 1, [], []), (8, .getfield 15, 3, [7, 1, 0, 43], []), (11, .aload_n 0, 1, [], []), (12, .getfield 9, 3, [7, 0, 3, 42], []), (15, .arraylength, 1, [], [])],
  [(16, .if_icmp .ge 32, 3, [48], []), (19, .aload_n 0, 1, [], []), (20, .getfield 9, 3, [7, 0, 3, 42], []), (23, .aload_n 0, 1, [], []), (24, .getfield 15, 3, [7, 1, 0, 43], []), (27, .iload_n 1, 1, [], []), (28, .iload_n 2, 1, [], []), (29, .ishr, 1, [], []), (30, .i2b, 1, [], []), (31, .bastore, 1, [], [])],
  [(32, .aload_n 0, 1, [], []), (33, .dup, 1, [], []), (34, .getfield 15, 3, [7, 1, 0, 43], []), (37, .iconst 1, 1, [], []), (38, .iadd, 1, [], []), (39, .putfield 15, 3, [7, 1, 0, 43], []), (42, .iinc 2 (-8), 3, [], []), (45, .goto (-42), 3, [3], [])],
  [(48, .return_, 1, [], [])]]
theorem k_X10_append : CdOk m_X10_append c_X10_append := ⟨by decide +kernel, allM_of trivial⟩
def c_X11_feed : Cd := [
  [(0, .aload_n 0, 1, [], []), (1, .getfield 10, 3, [8, 0, 3, 366], []), (4, .getfield 76, 3, [7, 1, 0, 44], []), (7, .bipush 20, 2, [], []), (9, .iadd, 1, [], []), (10, .sipush 900, 3, [], []), (13, .if_icmp .le 11, 3, [24], [])],
  [(16, .new 79, 3, [0, 81, 682, 723], []), (24, .aload_n 0, 1, [], []), (25, .getfield 10, 3, [8, 0, 3, 366], []), (28, .iload_n 1, 1, [], []), (29, .invokevirtual 82, 3, [0, 1, 0, 7, 0, 745], [m_X10_append])],
  [(32, .aload_n 0, 1, [], []), (33, .getfield 10, 3, [8, 0, 3, 366], []), (36, .iload_n 2, 1, [], []), (37, .invokevirtual 82, 3, [0, 1, 0, 7, 0, 745], [m_X10_append]), (40, .aload_n 0, 1, [], []), (41, .getfield 10, 3, [8, 0, 3, 366], []), (44, .iload_n 3, 1, [], []), (45, .invokevirtual 82, 3, [0, 1, 0, 7, 0, 745], [m_X10_append])],
  [(48, .aload_n 0, 1, [], []), (49, .getfield 10, 3, [8, 0, 3, 366], []), (52, .iload 4, 2, [], []), (54, .invokevirtual 82, 3, [0, 1, 0, 7, 0, 745], [m_X10_append]), (57, .aload_n 0, 1, [], []), (58, .getfield 10, 3, [8, 0, 3, 366], []), (61, .iload 5, 2, [], []), (63, .invokevirtual 82, 3, [0, 1, 0, 7, 0, 745], [m_X10_append])],
  [(66, .aload_n 0, 1, [], []), (67, .getfield 10, 3, [8, 0, 3, 366], []), (70, .getfield 76, 3, [7, 1, 0, 44], []), (73, .ireturn, 1, [1], [])]]
theorem k_X11_feed : CdOk m_X11_feed c_X11_feed := ⟨by decide +kernel, allM_of ⟨o_X10_append, ⟨o_X10_append, ⟨o_X10_append, ⟨o_X10_append, ⟨o_X10_append, trivial⟩⟩⟩⟩⟩⟩
def c_L_feed : Cd := [
  [(0, .aload 6, 2, [], []), (2, .iconst 0, 1, [], []), (3, .aload_n 0, 1, [], []), (4, .iload_n 1, 1, [], []), (5, .iload_n 2, 1, [], []), (6, .iload_n 3, 1, [], []), (7, .iload 4, 2, [], []), (9, .iload 5, 2, [], []), (11, .invokevirtual 7, 3, [0, 5, 1, 8, 1, 678, 21, 7, 0, 0, 0, 0], [m_X11_feed]), (14, .i2l, 1, [], []), (15, .lastore, 1, [], [])],
  [(16, .goto 7, 3, [23], []), (21, .iconst 1, 1, [], []), (22, .ireturn, 1, [1], []), (23, .iconst 0, 1, [], []), (24, .ireturn, 1, [1], [])]]
theorem k_L_feed : CdOk m_L_feed c_L_feed := ⟨by decide +kernel, allM_of ⟨o_X11_feed, trivial⟩⟩
def c_X12_truth : Cd := [
  [(0, .iload_n 0, 1, [], []), (1, .ifCond .eq 7, 3, [8], []), (4, .iconst 1, 1, [], []), (5, .goto 4, 3, [9], []), (8, .iconst 0, 1, [], []), (9, .ireturn, 1, [1], [])]]
theorem k_X12_truth : CdOk m_X12_truth c_X12_truth := ⟨by decide +kernel, allM_of trivial⟩
def c_X12_goes : Cd := [
  [(0, .aload_n 0, 1, [], []), (1, .iload_n 1, 1, [], []), (2, .ifCond .ne 7, 3, [9], []), (5, .iconst 1, 1, [], []), (6, .goto 4, 3, [10], []), (9, .iconst 0, 1, [], []), (10, .invokestatic 72, 3, [1, 1, 1, 0, 0, 1554], [m_X12_truth]), (13, .putfield 69, 3, [9, 0, 0, 1421], [])],
  [(16, .iload_n 1, 1, [], []), (17, .ireturn, 1, [6], [])]]
theorem k_X12_goes : CdOk m_X12_goes c_X12_goes := ⟨by decide +kernel, allM_of ⟨o_X12_truth, trivial⟩⟩
def c_X12_four : Cd := [
  [(0, .bipush 24, 2, [], []), (2, .istore_n 2, 1, [], []), (3, .iload_n 2, 1, [], []), (4, .ifCond .lt 35, 3, [39], []), (7, .aload_n 0, 1, [], []), (8, .getfield 7, 3, [9, 1, 3, 1422], []), (11, .aload_n 0, 1, [], []), (12, .getfield 76, 3, [9, 2, 0, 1423], []), (15, .iload_n 1, 1, [], [])],
  [(16, .iload_n 2, 1, [], []), (17, .ishr, 1, [], []), (18, .sipush 255, 3, [], []), (21, .iand, 1, [], []), (22, .iastore, 1, [], []), (23, .aload_n 0, 1, [], []), (24, .dup, 1, [], []), (25, .getfield 76, 3, [9, 2, 0, 1423], []), (28, .iconst 1, 1, [], []), (29, .iadd, 1, [], []), (30, .putfield 76, 3, [9, 2, 0, 1423], [])],
  [(33, .iinc 2 (-8), 3, [], []), (36, .goto (-33), 3, [3], []), (39, .return_, 1, [], [])]]
theorem k_X12_four : CdOk m_X12_four c_X12_four := ⟨by decide +kernel, allM_of trivial⟩
def c_X12_feed : Cd := [
  [(0, .aload_n 0, 1, [], []), (1, .aload_n 0, 1, [], []), (2, .getfield 76, 3, [9, 2, 0, 1423], []), (5, .bipush 20, 2, [], []), (7, .iadd, 1, [], []), (8, .sipush 900, 3, [], []), (11, .if_icmp .gt 7, 3, [18], []), (14, .iconst 1, 1, [], []), (15, .goto 4, 3, [19], [])],
  [(18, .iconst 0, 1, [], []), (19, .invokevirtual 79, 3, [0, 1, 1, 9, 0, 1550], [m_X12_goes]), (22, .ifCond .ne 5, 3, [27], []), (25, .iconst 0, 1, [], []), (26, .ireturn, 1, [1], []), (27, .aload_n 0, 1, [], []), (28, .iload_n 1, 1, [], []), (29, .invokevirtual 83, 3, [0, 1, 0, 9, 0, 1557], [m_X12_four])],
  [(32, .aload_n 0, 1, [], []), (33, .iload_n 2, 1, [], []), (34, .invokevirtual 83, 3, [0, 1, 0, 9, 0, 1557], [m_X12_four]), (37, .aload_n 0, 1, [], []), (38, .iload_n 3, 1, [], []), (39, .invokevirtual 83, 3, [0, 1, 0, 9, 0, 1557], [m_X12_four]), (42, .aload_n 0, 1, [], []), (43, .iload 4, 2, [], []), (45, .invokevirtual 83, 3, [0, 1, 0, 9, 0, 1557], [m_X12_four])],
  [(48, .aload_n 0, 1, [], []), (49, .iload 5, 2, [], []), (51, .invokevirtual 83, 3, [0, 1, 0, 9, 0, 1557], [m_X12_four]), (54, .aload_n 0, 1, [], []), (55, .getfield 76, 3, [9, 2, 0, 1423], []), (58, .ireturn, 1, [1], [])]]
theorem k_X12_feed : CdOk m_X12_feed c_X12_feed := ⟨by decide +kernel, allM_of ⟨o_X12_goes, ⟨o_X12_four, ⟨o_X12_four, ⟨o_X12_four, ⟨o_X12_four, ⟨o_X12_four, trivial⟩⟩⟩⟩⟩⟩⟩
def c_X12_thrown : Cd := [
  [(0, .aload_n 0, 1, [], []), (1, .getfield 69, 3, [9, 0, 0, 1421], []), (4, .ireturn, 1, [1], [])]]
theorem k_X12_thrown : CdOk m_X12_thrown c_X12_thrown := ⟨by decide +kernel, allM_of trivial⟩
def c_X11_truncate : Cd := [
  [(0, .iload_n 1, 1, [], []), (1, .ifCond .lt 14, 3, [15], []), (4, .iload_n 1, 1, [], []), (5, .aload_n 0, 1, [], []), (6, .getfield 10, 3, [8, 0, 3, 366], []), (9, .getfield 76, 3, [7, 1, 0, 44], []), (12, .if_icmp .le 11, 3, [23], []), (15, .new 86, 3, [1, 88, 757, 766], [])],
  [(23, .aload_n 0, 1, [], []), (24, .getfield 10, 3, [8, 0, 3, 366], []), (27, .iload_n 1, 1, [], []), (28, .putfield 76, 3, [7, 1, 0, 44], []), (31, .iload_n 1, 1, [], [])],
  [(32, .ireturn, 1, [1], [])]]
theorem k_X11_truncate : CdOk m_X11_truncate c_X11_truncate := ⟨by decide +kernel, allM_of trivial⟩
def c_L_truncate : Cd := [
  [(0, .aload_n 2, 1, [], []), (1, .iconst 0, 1, [], []), (2, .aload_n 0, 1, [], []), (3, .iload_n 1, 1, [], []), (4, .invokevirtual 15, 3, [0, 1, 1, 8, 1, 753, 0, 0, 13, 3, 0, 0], [m_X11_truncate]), (7, .i2l, 1, [], []), (8, .lastore, 1, [], []), (9, .goto 6, 3, [15], []), (13, .iconst 1, 1, [], []), (14, .ireturn, 1, [1], []), (15, .iconst 0, 1, [], [])],
  [(16, .ireturn, 1, [1], [])]]
theorem k_L_truncate : CdOk m_L_truncate c_L_truncate := ⟨by decide +kernel, allM_of ⟨o_X11_truncate, trivial⟩⟩
def c_X12_isIn : Cd := [
  [(0, .lload_n 0, 1, [], []), (1, .lload_n 2, 1, [], []), (2, .lcmp, 1, [], []), (3, .ifCond .lt 14, 3, [17], []), (6, .lload_n 0, 1, [], []), (7, .lload 4, 2, [], []), (9, .lcmp, 1, [], []), (10, .ifCond .gt 7, 3, [17], []), (13, .iconst 1, 1, [], []), (14, .goto 4, 3, [18], [])],
  [(17, .iconst 0, 1, [], []), (18, .ireturn, 1, [6], [])]]
theorem k_X12_isIn : CdOk m_X12_isIn c_X12_isIn := ⟨by decide +kernel, allM_of trivial⟩
def c_X12_truncate : Cd := [
  [(0, .aload_n 0, 1, [], []), (1, .iload_n 1, 1, [], []), (2, .i2l, 1, [], []), (3, .lconst 0, 1, [], []), (4, .aload_n 0, 1, [], []), (5, .getfield 76, 3, [9, 2, 0, 1423], []), (8, .i2l, 1, [], []), (9, .invokestatic 87, 3, [1, 3, 1, 0, 0, 1565], [m_X12_isIn]), (12, .invokevirtual 79, 3, [0, 1, 1, 9, 0, 1550], [m_X12_goes]), (15, .ifCond .ne 5, 3, [20], [])],
  [(18, .iconst 0, 1, [], []), (19, .ireturn, 1, [1], []), (20, .aload_n 0, 1, [], []), (21, .iload_n 1, 1, [], []), (22, .putfield 76, 3, [9, 2, 0, 1423], []), (25, .iload_n 1, 1, [], []), (26, .ireturn, 1, [1], [])]]
theorem k_X12_truncate : CdOk m_X12_truncate c_X12_truncate := ⟨by decide +kernel, allM_of ⟨o_X12_isIn, ⟨o_X12_goes, trivial⟩⟩⟩
def c_X5_reset : Cd := [
  [(0, .aload_n 0, 1, [], []), (1, .getfield 14, 3, [3, 0, 3, 106], []), (4, .iconst 0, 1, [], []), (5, .putfield 54, 3, [4, 1, 0, 92], []), (8, .aload_n 0, 1, [], []), (9, .getfield 30, 3, [3, 4, 3, 114], []), (12, .iconst 0, 1, [], []), (13, .putfield 54, 3, [4, 1, 0, 92], [])],
  [(16, .aload_n 0, 1, [], []), (17, .getfield 42, 3, [3, 8, 3, 124], []), (20, .iconst 0, 1, [], []), (21, .putfield 54, 3, [4, 1, 0, 92], []), (24, .aload_n 0, 1, [], []), (25, .iconst 0, 1, [], []), (26, .putfield 58, 3, [3, 11, 0, 136], []), (29, .aload_n 0, 1, [], []), (30, .iconst 0, 1, [], []), (31, .putfield 61, 3, [3, 12, 0, 138], [])],
  [(34, .aload_n 0, 1, [], []), (35, .iconst 1, 1, [], []), (36, .putfield 64, 3, [3, 13, 0, 142], []), (39, .aload_n 0, 1, [], []), (40, .iconst 1, 1, [], []), (41, .putfield 67, 3, [3, 14, 0, 145], []), (44, .aload_n 0, 1, [], []), (45, .iconst 5, 1, [], []), (46, .putfield 70, 3, [3, 15, 0, 148], [])],
  [(49, .aload_n 0, 1, [], []), (50, .bipush 10, 2, [], []), (52, .putfield 73, 3, [3, 16, 0, 151], []), (55, .aload_n 0, 1, [], []), (56, .bipush 50, 2, [], []), (58, .putfield 76, 3, [3, 17, 0, 154], []), (61, .return_, 1, [], [])]]
theorem k_X5_reset : CdOk m_X5_reset c_X5_reset := ⟨by decide +kernel, allM_of trivial⟩
def c_X8_reset : Cd := [
  [(0, .aload_n 0, 1, [], []), (1, .iconst 0, 1, [], []), (2, .putfield 38, 3, [6, 1, 0, 224], []), (5, .aload_n 0, 1, [], []), (6, .iconst 1, 1, [], []), (7, .putfield 42, 3, [6, 2, 0, 226], []), (10, .aload_n 0, 1, [], []), (11, .iconst 0, 1, [], []), (12, .putfield 45, 3, [6, 7, 0, 237], []), (15, .aload_n 0, 1, [], [])],
  [(16, .iconst 0, 1, [], []), (17, .putfield 48, 3, [6, 8, 0, 239], []), (20, .aload_n 0, 1, [], []), (21, .iconst 0, 1, [], []), (22, .putfield 51, 3, [6, 9, 0, 241], []), (25, .aload_n 0, 1, [], []), (26, .iconst (-1), 1, [], []), (27, .putfield 54, 3, [6, 10, 0, 243], []), (30, .aload_n 0, 1, [], []), (31, .iconst (-1), 1, [], [])],
  [(32, .putfield 57, 3, [6, 11, 0, 244], []), (35, .aload_n 0, 1, [], []), (36, .iconst 0, 1, [], []), (37, .putfield 60, 3, [6, 12, 1, 246], []), (40, .aload_n 0, 1, [], []), (41, .iconst (-1), 1, [], []), (42, .putfield 64, 3, [6, 13, 0, 247], []), (45, .aload_n 0, 1, [], []), (46, .iconst (-1), 1, [], []), (47, .putfield 67, 3, [6, 14, 0, 248], [])],
  [(50, .aload_n 0, 1, [], []), (51, .getfield 27, 3, [6, 15, 3, 249], []), (54, .iconst 0, 1, [], []), (55, .putfield 70, 3, [1, 1, 0, 207], []), (58, .return_, 1, [], [])]]
theorem k_X8_reset : CdOk m_X8_reset c_X8_reset := ⟨by decide +kernel, allM_of trivial⟩
def c_X10_scanWord : Cd := [
  [(0, .aload_n 0, 1, [], []), (1, .lconst 0, 1, [], []), (2, .putfield 31, 3, [7, 6, 2, 53], []), (5, .aload_n 0, 1, [], []), (6, .getfield 38, 3, [7, 8, 0, 55], []), (9, .aload_n 0, 1, [], []), (10, .getfield 15, 3, [7, 1, 0, 43], []), (13, .if_icmp .ge 66, 3, [79], [])],
  [(16, .aload_n 0, 1, [], []), (17, .getfield 9, 3, [7, 0, 3, 42], []), (20, .aload_n 0, 1, [], []), (21, .getfield 38, 3, [7, 8, 0, 55], []), (24, .baload, 1, [], []), (25, .bipush 97, 2, [], []), (27, .if_icmp .lt 52, 3, [79], []), (30, .aload_n 0, 1, [], []), (31, .getfield 9, 3, [7, 0, 3, 42], [])],
  [(34, .aload_n 0, 1, [], []), (35, .getfield 38, 3, [7, 8, 0, 55], []), (38, .baload, 1, [], []), (39, .bipush 122, 2, [], []), (41, .if_icmp .gt 38, 3, [79], []), (44, .aload_n 0, 1, [], []), (45, .aload_n 0, 1, [], []), (46, .getfield 31, 3, [7, 6, 2, 53], [])],
  [(49, .bipush 8, 2, [], []), (51, .lshl, 1, [], []), (52, .aload_n 0, 1, [], []), (53, .getfield 9, 3, [7, 0, 3, 42], []), (56, .aload_n 0, 1, [], []), (57, .getfield 38, 3, [7, 8, 0, 55], []), (60, .baload, 1, [], []), (61, .i2l, 1, [], []), (62, .lor, 1, [], []), (63, .putfield 31, 3, [7, 6, 2, 53], [])],
  [(66, .aload_n 0, 1, [], []), (67, .dup, 1, [], []), (68, .getfield 38, 3, [7, 8, 0, 55], []), (71, .iconst 1, 1, [], []), (72, .iadd, 1, [], []), (73, .putfield 38, 3, [7, 8, 0, 55], []), (76, .goto (-71), 3, [5], []), (79, .aload_n 0, 1, [], [])],
  [(80, .aload_n 0, 1, [], []), (81, .getfield 38, 3, [7, 8, 0, 55], []), (84, .aload_n 0, 1, [], []), (85, .getfield 28, 3, [7, 5, 0, 52], []), (88, .isub, 1, [], []), (89, .bipush 8, 2, [], []), (91, .if_icmp .gt 7, 3, [98], []), (94, .iconst 1, 1, [], []), (95, .goto 5, 3, [100], [])],
  [(98, .bipush 6, 2, [], []), (100, .putfield 25, 3, [7, 4, 0, 49], []), (103, .return_, 1, [], [])]]
theorem k_X10_scanWord : CdOk m_X10_scanWord c_X10_scanWord := ⟨by decide +kernel, allM_of trivial⟩
def c_X10_scanNumber : Cd := [
  [(0, .aload_n 0, 1, [], []), (1, .iconst 0, 1, [], []), (2, .putfield 35, 3, [7, 7, 0, 54], []), (5, .aload_n 0, 1, [], []), (6, .getfield 38, 3, [7, 8, 0, 55], []), (9, .aload_n 0, 1, [], []), (10, .getfield 15, 3, [7, 1, 0, 43], []), (13, .if_icmp .ge 68, 3, [81], [])],
  [(16, .aload_n 0, 1, [], []), (17, .getfield 9, 3, [7, 0, 3, 42], []), (20, .aload_n 0, 1, [], []), (21, .getfield 38, 3, [7, 8, 0, 55], []), (24, .baload, 1, [], []), (25, .bipush 48, 2, [], []), (27, .if_icmp .lt 54, 3, [81], []), (30, .aload_n 0, 1, [], []), (31, .getfield 9, 3, [7, 0, 3, 42], [])],
  [(34, .aload_n 0, 1, [], []), (35, .getfield 38, 3, [7, 8, 0, 55], []), (38, .baload, 1, [], []), (39, .bipush 57, 2, [], []), (41, .if_icmp .gt 40, 3, [81], []), (44, .aload_n 0, 1, [], []), (45, .aload_n 0, 1, [], []), (46, .getfield 35, 3, [7, 7, 0, 54], [])],
  [(49, .bipush 10, 2, [], []), (51, .imul, 1, [], []), (52, .aload_n 0, 1, [], []), (53, .getfield 9, 3, [7, 0, 3, 42], []), (56, .aload_n 0, 1, [], []), (57, .getfield 38, 3, [7, 8, 0, 55], []), (60, .baload, 1, [], []), (61, .bipush 48, 2, [], []), (63, .isub, 1, [], [])],
  [(64, .iadd, 1, [], []), (65, .putfield 35, 3, [7, 7, 0, 54], []), (68, .aload_n 0, 1, [], []), (69, .dup, 1, [], []), (70, .getfield 38, 3, [7, 8, 0, 55], []), (73, .iconst 1, 1, [], []), (74, .iadd, 1, [], []), (75, .putfield 38, 3, [7, 8, 0, 55], []), (78, .goto (-73), 3, [5], [])],
  [(81, .aload_n 0, 1, [], []), (82, .aload_n 0, 1, [], []), (83, .getfield 38, 3, [7, 8, 0, 55], []), (86, .aload_n 0, 1, [], []), (87, .getfield 28, 3, [7, 5, 0, 52], []), (90, .isub, 1, [], []), (91, .iconst 3, 1, [], []), (92, .if_icmp .gt 7, 3, [99], []), (95, .iconst 2, 1, [], [])],
  [(96, .goto 5, 3, [101], []), (99, .bipush 6, 2, [], []), (101, .putfield 25, 3, [7, 4, 0, 49], []), (104, .return_, 1, [], [])]]
theorem k_X10_scanNumber : CdOk m_X10_scanNumber c_X10_scanNumber := ⟨by decide +kernel, allM_of trivial⟩
def c_X10_advance : Cd := [
  [(0, .aload_n 0, 1, [], []), (1, .getfield 38, 3, [7, 8, 0, 55], []), (4, .aload_n 0, 1, [], []), (5, .getfield 15, 3, [7, 1, 0, 43], []), (8, .if_icmp .ge 44, 3, [52], []), (11, .aload_n 0, 1, [], []), (12, .getfield 9, 3, [7, 0, 3, 42], []), (15, .aload_n 0, 1, [], [])],
  [(16, .getfield 38, 3, [7, 8, 0, 55], []), (19, .baload, 1, [], []), (20, .bipush 32, 2, [], []), (22, .if_icmp .eq 17, 3, [39], []), (25, .aload_n 0, 1, [], []), (26, .getfield 9, 3, [7, 0, 3, 42], []), (29, .aload_n 0, 1, [], []), (30, .getfield 38, 3, [7, 8, 0, 55], [])],
  [(33, .baload, 1, [], []), (34, .bipush 10, 2, [], []), (36, .if_icmp .ne 16, 3, [52], []), (39, .aload_n 0, 1, [], []), (40, .dup, 1, [], []), (41, .getfield 38, 3, [7, 8, 0, 55], []), (44, .iconst 1, 1, [], []), (45, .iadd, 1, [], []), (46, .putfield 38, 3, [7, 8, 0, 55], [])],
  [(49, .goto (-49), 3, [0], []), (52, .aload_n 0, 1, [], []), (53, .aload_n 0, 1, [], []), (54, .getfield 38, 3, [7, 8, 0, 55], []), (57, .putfield 28, 3, [7, 5, 0, 52], []), (60, .aload_n 0, 1, [], []), (61, .getfield 38, 3, [7, 8, 0, 55], [])],
  [(64, .aload_n 0, 1, [], []), (65, .getfield 15, 3, [7, 1, 0, 43], []), (68, .if_icmp .lt 9, 3, [77], []), (71, .aload_n 0, 1, [], []), (72, .iconst 0, 1, [], []), (73, .putfield 25, 3, [7, 4, 0, 49], []), (76, .return_, 1, [], []), (77, .aload_n 0, 1, [], []), (78, .getfield 9, 3, [7, 0, 3, 42], [])],
  [(81, .aload_n 0, 1, [], []), (82, .getfield 38, 3, [7, 8, 0, 55], []), (85, .baload, 1, [], []), (86, .istore_n 1, 1, [], []), (87, .iload_n 1, 1, [], []), (88, .bipush 97, 2, [], []), (90, .if_icmp .lt 16, 3, [106], []), (93, .iload_n 1, 1, [], []), (94, .bipush 122, 2, [], [])],
  [(96, .if_icmp .gt 10, 3, [106], []), (99, .aload_n 0, 1, [], []), (100, .invokevirtual 44, 3, [0, 0, 0, 7, 0, 793], [m_X10_scanWord]), (103, .goto 68, 3, [171], []), (106, .iload_n 1, 1, [], []), (107, .bipush 48, 2, [], []), (109, .if_icmp .lt 16, 3, [125], [])],
  [(112, .iload_n 1, 1, [], []), (113, .bipush 57, 2, [], []), (115, .if_icmp .gt 10, 3, [125], []), (118, .aload_n 0, 1, [], []), (119, .invokevirtual 47, 3, [0, 0, 0, 7, 0, 797], [m_X10_scanNumber]), (122, .goto 49, 3, [171], []), (125, .aload_n 0, 1, [], []), (126, .iload_n 1, 1, [], []), (127, .bipush 59, 2, [], [])],
  [(129, .if_icmp .ne 7, 3, [136], []), (132, .iconst 3, 1, [], []), (133, .goto 25, 3, [158], []), (136, .iload_n 1, 1, [], []), (137, .bipush 40, 2, [], []), (139, .if_icmp .ne 7, 3, [146], []), (142, .iconst 4, 1, [], []), (143, .goto 15, 3, [158], [])],
  [(146, .iload_n 1, 1, [], []), (147, .bipush 41, 2, [], []), (149, .if_icmp .ne 7, 3, [156], []), (152, .iconst 5, 1, [], []), (153, .goto 5, 3, [158], []), (156, .bipush 6, 2, [], []), (158, .putfield 25, 3, [7, 4, 0, 49], [])],
  [(161, .aload_n 0, 1, [], []), (162, .dup, 1, [], []), (163, .getfield 38, 3, [7, 8, 0, 55], []), (166, .iconst 1, 1, [], []), (167, .iadd, 1, [], []), (168, .putfield 38, 3, [7, 8, 0, 55], []), (171, .return_, 1, [], [])]]
theorem k_X10_advance : CdOk m_X10_advance c_X10_advance := ⟨by decide +kernel, allM_of ⟨o_X10_scanWord, ⟨o_X10_scanNumber, trivial⟩⟩⟩
def c_X10_begin : Cd := [
  [(0, .aload_n 0, 1, [], []), (1, .iconst 0, 1, [], []), (2, .putfield 19, 3, [7, 2, 0, 45], []), (5, .aload_n 0, 1, [], []), (6, .iconst (-1), 1, [], []), (7, .putfield 22, 3, [7, 3, 0, 47], []), (10, .aload_n 0, 1, [], []), (11, .iconst 0, 1, [], []), (12, .putfield 38, 3, [7, 8, 0, 55], []), (15, .aload_n 0, 1, [], [])],
  [(16, .invokevirtual 41, 3, [0, 0, 0, 7, 0, 789], [m_X10_advance]), (19, .return_, 1, [], [])]]
theorem k_X10_begin : CdOk m_X10_begin c_X10_begin := ⟨by decide +kernel, allM_of ⟨o_X10_advance, trivial⟩⟩
def c_J0_coder_7d493 : Cd := [
  [(0, .getstatic 38, 3, [1, 0, 822], []), (3, .ifCond .eq 10, 3, [13], []), (6, .aload_n 0, 1, [], []), (7, .getfield 15, 3, [22, 1, 0, 2166, 0], []), (10, .goto 4, 3, [14], []), (13, .iconst 1, 1, [], []), (14, .ireturn, 1, [7], [])]]
theorem k_J0_coder_7d493 : CdOk m_J0_coder_7d493 c_J0_coder_7d493 := ⟨by decide +kernel, allM_of trivial⟩
def c_J0_length_8abf5 : Cd := [
  [(0, .aload_n 0, 1, [], []), (1, .getfield 9, 3, [22, 0, 3, 2165, 0], []), (4, .arraylength, 1, [1], []), (5, .aload_n 0, 1, [], []), (6, .invokevirtual 335, 3, [5, 0, 1, 22, 0, 818], [m_J0_coder_7d493]), (9, .ishr, 1, [], []), (10, .ireturn, 1, [1], [])]]
theorem k_J0_length_8abf5 : CdOk m_J0_length_8abf5 c_J0_length_8abf5 := ⟨by decide +kernel, allM_of ⟨o_J0_coder_7d493, trivial⟩⟩
def c_J0_isLatin1_aae02 : Cd := [
  [(0, .getstatic 38, 3, [1, 0, 822], []), (3, .ifCond .eq 14, 3, [17], []), (6, .aload_n 0, 1, [], []), (7, .getfield 15, 3, [22, 1, 0, 2166, 0], []), (10, .ifCond .ne 7, 3, [17], []), (13, .iconst 1, 1, [], []), (14, .goto 4, 3, [18], [])],
  [(17, .iconst 0, 1, [], []), (18, .ireturn, 1, [6], [])]]
theorem k_J0_isLatin1_aae02 : CdOk m_J0_isLatin1_aae02 c_J0_isLatin1_aae02 := ⟨by decide +kernel, allM_of trivial⟩
def c_J3_checkIndex_8e157 : Cd := [
  [(0, .iload_n 0, 1, [], []), (1, .ifCond .lt 8, 3, [9], []), (4, .iload_n 0, 1, [], []), (5, .iload_n 1, 1, [], []), (6, .if_icmp .lt 10, 3, [16], []), (9, .aload_n 2, 1, [], []), (10, .iload_n 0, 1, [], []), (11, .iload_n 1, 1, [], [])],
  [(16, .iload_n 0, 1, [], []), (17, .ireturn, 1, [1], [])]]
theorem k_J3_checkIndex_8e157 : CdOk m_J3_checkIndex_8e157 c_J3_checkIndex_8e157 := ⟨by decide +kernel, allM_of trivial⟩
def c_J0_checkIndex_df160 : Cd := [
  [(0, .iload_n 0, 1, [], []), (1, .iload_n 1, 1, [], []), (2, .getstatic 1053, 3, [2, 0, 838], []), (5, .invokestatic 1059, 3, [1, 3, 1, 0, 0, 840], [m_J3_checkIndex_8e157]), (8, .pop, 1, [], []), (9, .return_, 1, [], [])]]
theorem k_J0_checkIndex_df160 : CdOk m_J0_checkIndex_df160 c_J0_checkIndex_df160 := ⟨by decide +kernel, allM_of ⟨o_J3_checkIndex_8e157, trivial⟩⟩
def c_J1_charAt_3b067 : Cd := [
  [(0, .iload_n 1, 1, [], []), (1, .aload_n 0, 1, [], []), (2, .arraylength, 1, [1], []), (3, .invokestatic 9, 3, [1, 2, 0, 0, 0, 835], [m_J0_checkIndex_df160]), (6, .aload_n 0, 1, [], []), (7, .iload_n 1, 1, [], []), (8, .baload, 1, [1], []), (9, .sipush 255, 3, [], []), (12, .iand, 1, [], []), (13, .i2c, 1, [], []), (14, .ireturn, 1, [8], [])]]
theorem k_J1_charAt_3b067 : CdOk m_J1_charAt_3b067 c_J1_charAt_3b067 := ⟨by decide +kernel, allM_of ⟨o_J0_checkIndex_df160, trivial⟩⟩
def c_J2_length_9d52b : Cd := [
  [(0, .aload_n 0, 1, [], []), (1, .arraylength, 1, [], []), (2, .iconst 1, 1, [], []), (3, .ishr, 1, [], []), (4, .ireturn, 1, [1], [])]]
theorem k_J2_length_9d52b : CdOk m_J2_length_9d52b c_J2_length_9d52b := ⟨by decide +kernel, allM_of trivial⟩
def c_J2_checkIndex_2214a : Cd := [
  [(0, .iload_n 0, 1, [], []), (1, .aload_n 1, 1, [], []), (2, .invokestatic 48, 3, [1, 1, 1, 0, 0, 849], [m_J2_length_9d52b]), (5, .invokestatic 414, 3, [1, 2, 0, 0, 0, 852], [m_J0_checkIndex_df160]), (8, .return_, 1, [], [])]]
theorem k_J2_checkIndex_2214a : CdOk m_J2_checkIndex_2214a c_J2_checkIndex_2214a := ⟨by decide +kernel, allM_of ⟨o_J2_length_9d52b, ⟨o_J0_checkIndex_df160, trivial⟩⟩⟩
def c_J2_getChar_3b067 : Cd := []
theorem k_J2_getChar_3b067 : CdOk m_J2_getChar_3b067 c_J2_getChar_3b067 := ⟨by decide +kernel, allM_of trivial⟩
def c_J2_charAt_3b067 : Cd := [
  [(0, .iload_n 1, 1, [], []), (1, .aload_n 0, 1, [], []), (2, .invokestatic 67, 3, [1, 2, 0, 0, 0, 846], [m_J2_checkIndex_2214a]), (5, .aload_n 0, 1, [], []), (6, .iload_n 1, 1, [], []), (7, .invokestatic 71, 3, [1, 2, 1, 0, 0, 853], [m_J2_getChar_3b067]), (10, .ireturn, 1, [8], [])]]
theorem k_J2_charAt_3b067 : CdOk m_J2_charAt_3b067 c_J2_charAt_3b067 := ⟨by decide +kernel, allM_of ⟨o_J2_checkIndex_2214a, ⟨o_J2_getChar_3b067, trivial⟩⟩⟩
def c_J0_charAt_5068e : Cd := [
  [(0, .aload_n 0, 1, [], []), (1, .invokevirtual 492, 3, [5, 0, 1, 22, 0, 828], [m_J0_isLatin1_aae02]), (4, .ifCond .eq 12, 3, [16], []), (7, .aload_n 0, 1, [], []), (8, .getfield 9, 3, [22, 0, 3, 2165, 0], []), (11, .iload_n 1, 1, [], []), (12, .invokestatic 495, 3, [1, 2, 1, 0, 0, 832], [m_J1_charAt_3b067]), (15, .ireturn, 1, [8], [])],
  [(16, .aload_n 0, 1, [], []), (17, .getfield 9, 3, [22, 0, 3, 2165, 0], []), (20, .iload_n 1, 1, [], []), (21, .invokestatic 498, 3, [1, 2, 1, 0, 0, 843], [m_J2_charAt_3b067]), (24, .ireturn, 1, [8], [])]]
theorem k_J0_charAt_5068e : CdOk m_J0_charAt_5068e c_J0_charAt_5068e := ⟨by decide +kernel, allM_of ⟨o_J0_isLatin1_aae02, ⟨o_J1_charAt_3b067, ⟨o_J2_charAt_3b067, trivial⟩⟩⟩⟩
def c_X10_isWord : Cd := [
  [(0, .lconst 0, 1, [], []), (1, .lstore_n 2, 1, [], []), (2, .iconst 0, 1, [], []), (3, .istore 4, 2, [], []), (5, .iload 4, 2, [], []), (7, .aload_n 1, 1, [], []), (8, .invokevirtual 50, 3, [5, 0, 1, 22, 0, 814], [m_J0_length_8abf5]), (11, .if_icmp .ge 22, 3, [33], []), (14, .lload_n 2, 1, [], []), (15, .bipush 8, 2, [], [])],
  [(17, .lshl, 1, [], []), (18, .aload_n 1, 1, [], []), (19, .iload 4, 2, [], []), (21, .invokevirtual 55, 3, [5, 1, 1, 22, 0, 824], [m_J0_charAt_5068e]), (24, .i2l, 1, [], []), (25, .lor, 1, [], []), (26, .lstore_n 2, 1, [], []), (27, .iinc 4 1, 3, [], []), (30, .goto (-25), 3, [5], [])],
  [(33, .aload_n 0, 1, [], []), (34, .getfield 25, 3, [7, 4, 0, 49], []), (37, .iconst 1, 1, [], []), (38, .if_icmp .ne 16, 3, [54], []), (41, .aload_n 0, 1, [], []), (42, .getfield 31, 3, [7, 6, 2, 53], []), (45, .lload_n 2, 1, [], []), (46, .lcmp, 1, [], []), (47, .ifCond .ne 7, 3, [54], [])],
  [(50, .iconst 1, 1, [], []), (51, .goto 4, 3, [55], []), (54, .iconst 0, 1, [], []), (55, .ireturn, 1, [6], [])]]
theorem k_X10_isWord : CdOk m_X10_isWord c_X10_isWord := ⟨by decide +kernel, allM_of ⟨o_J0_length_8abf5, ⟨o_J0_charAt_5068e, trivial⟩⟩⟩
def c_X9_at : Cd := [
  [(0, .getstatic 73, 3, [0, 1080, 808], []), (3, .astore_n 1, 1, [], []), (4, .aload_n 1, 1, [], []), (5, .arraylength, 1, [4], []), (6, .istore_n 2, 1, [], []), (7, .iconst 0, 1, [], []), (8, .istore_n 3, 1, [], []), (9, .iload_n 3, 1, [], []), (10, .iload_n 2, 1, [], []), (11, .if_icmp .ge 29, 3, [40], []), (14, .aload_n 1, 1, [], []), (15, .iload_n 3, 1, [], [])],
  [(16, .aaload, 1, [0, 4], []), (17, .astore 4, 2, [], []), (19, .aload_n 0, 1, [], []), (20, .aload 4, 2, [], []), (22, .getfield 59, 3, [20, 0, 3, 2164, 0], []), (25, .invokevirtual 76, 3, [0, 1, 1, 7, 0, 810], [m_X10_isWord]), (28, .ifCond .eq 6, 3, [34], []), (31, .aload 4, 2, [], [])],
  [(33, .areturn, 1, [], []), (34, .iinc 3 1, 3, [], []), (37, .goto (-28), 3, [9], []), (40, .aconst_null, 1, [], []), (41, .areturn, 1, [], [])]]
theorem k_X9_at : CdOk m_X9_at c_X9_at := ⟨by decide +kernel, allM_of ⟨o_X10_isWord, trivial⟩⟩
def c_X10_fail : Cd := [
  [(0, .aload_n 0, 1, [], []), (1, .iload_n 1, 1, [], []), (2, .putfield 19, 3, [7, 2, 0, 45], []), (5, .aload_n 0, 1, [], []), (6, .aload_n 0, 1, [], []), (7, .getfield 28, 3, [7, 5, 0, 52], []), (10, .putfield 22, 3, [7, 3, 0, 47], []), (13, .iconst 0, 1, [], []), (14, .ireturn, 1, [6], [])]]
theorem k_X10_fail : CdOk m_X10_fail c_X10_fail := ⟨by decide +kernel, allM_of trivial⟩
def c_X6_isFull : Cd := [
  [(0, .aload_n 0, 1, [], []), (1, .getfield 9, 3, [4, 1, 0, 91], []), (4, .aload_n 0, 1, [], []), (5, .getfield 15, 3, [4, 0, 3, 90], []), (8, .arraylength, 1, [], []), (9, .if_icmp .lt 7, 3, [16], []), (12, .iconst 1, 1, [], []), (13, .goto 4, 3, [17], [])],
  [(16, .iconst 0, 1, [], []), (17, .ireturn, 1, [6], [])]]
theorem k_X6_isFull : CdOk m_X6_isFull c_X6_isFull := ⟨by decide +kernel, allM_of trivial⟩
def c_X1_errorOfFirstWord : Cd := [
  [(0, .getstatic 72, 3, [0, 1082, 870], []), (3, .aload_n 1, 1, [], []), (4, .invokevirtual 78, 3, [20, 872], []), (7, .iaload, 1, [0], []), (8, .tableswitch 172 1 7 #[44, 64, 84, 104, 122, 141, 141], 44, [180, 1, 52, 72, 92, 112, 130, 149, 149], [])],
  [],
  [],
  [(52, .aload_n 0, 1, [], []), (53, .getfield 29, 3, [0, 2, 3, 312], []), (56, .getfield 82, 3, [3, 0, 3, 107], []), (59, .invokevirtual 86, 3, [0, 0, 1, 4, 0, 878], [m_X6_isFull]), (62, .ifCond .eq 8, 3, [70], [])],
  [(65, .bipush 6, 2, [], []), (67, .goto 4, 3, [71], []), (70, .iconst 0, 1, [], []), (71, .ireturn, 1, [1], []), (72, .aload_n 0, 1, [], []), (73, .getfield 29, 3, [0, 2, 3, 312], []), (76, .getfield 91, 3, [3, 4, 3, 115], []), (79, .invokevirtual 86, 3, [0, 0, 1, 4, 0, 878], [m_X6_isFull])],
  [(82, .ifCond .eq 8, 3, [90], []), (85, .bipush 6, 2, [], []), (87, .goto 4, 3, [91], []), (90, .iconst 0, 1, [], []), (91, .ireturn, 1, [1], []), (92, .aload_n 0, 1, [], []), (93, .getfield 29, 3, [0, 2, 3, 312], [])],
  [(96, .getfield 94, 3, [3, 8, 3, 126], []), (99, .invokevirtual 86, 3, [0, 0, 1, 4, 0, 878], [m_X6_isFull]), (102, .ifCond .eq 8, 3, [110], []), (105, .bipush 6, 2, [], []), (107, .goto 4, 3, [111], []), (110, .iconst 0, 1, [], []), (111, .ireturn, 1, [1], [])],
  [(112, .aload_n 0, 1, [], []), (113, .getfield 29, 3, [0, 2, 3, 312], []), (116, .getfield 97, 3, [3, 12, 0, 139], []), (119, .iconst 5, 1, [], []), (120, .if_icmp .lt 8, 3, [128], []), (123, .bipush 6, 2, [], []), (125, .goto 4, 3, [129], [])],
  [(128, .iconst 0, 1, [], []), (129, .ireturn, 1, [1], []), (130, .aload_n 0, 1, [], []), (131, .getfield 29, 3, [0, 2, 3, 312], []), (134, .getfield 100, 3, [3, 11, 0, 137], []), (137, .bipush 20, 2, [], []), (139, .if_icmp .lt 8, 3, [147], []), (142, .bipush 6, 2, [], [])],
  [(144, .goto 4, 3, [148], []), (147, .iconst 0, 1, [], []), (148, .ireturn, 1, [1], []), (149, .aload_n 0, 1, [], []), (150, .getfield 9, 3, [0, 3, 0, 313], []), (153, .aload_n 1, 1, [], []), (154, .getfield 103, 3, [20, 1, 0, 2168, 0], []), (157, .iand, 1, [], []), (158, .ifCond .ne 16, 3, [174], [])],
  [(161, .aload_n 0, 1, [], []), (162, .getfield 29, 3, [0, 2, 3, 312], []), (165, .getfield 94, 3, [3, 8, 3, 126], []), (168, .getfield 106, 3, [4, 1, 0, 94], []), (171, .ifCond .le 7, 3, [178], []), (174, .iconst 4, 1, [], []), (175, .goto 4, 3, [179], [])],
  [(178, .iconst 0, 1, [], []), (179, .ireturn, 1, [1], []), (180, .aload_n 0, 1, [], []), (181, .getfield 9, 3, [0, 3, 0, 313], []), (184, .aload_n 1, 1, [], []), (185, .getfield 103, 3, [20, 1, 0, 2168, 0], []), (188, .iand, 1, [], []), (189, .ifCond .eq 7, 3, [196], [])],
  [(192, .iconst 4, 1, [], []), (193, .goto 4, 3, [197], []), (196, .iconst 0, 1, [], []), (197, .ireturn, 1, [1], [])]]
theorem k_X1_errorOfFirstWord : CdOk m_X1_errorOfFirstWord c_X1_errorOfFirstWord := ⟨by decide +kernel, allM_of ⟨o_X6_isFull, ⟨o_X6_isFull, ⟨o_X6_isFull, trivial⟩⟩⟩⟩
def c_X6_numberOf : Cd := [
  [(0, .iconst 0, 1, [], []), (1, .istore_n 3, 1, [], []), (2, .iload_n 3, 1, [], []), (3, .aload_n 0, 1, [], []), (4, .getfield 9, 3, [4, 1, 0, 91], []), (7, .if_icmp .ge 22, 3, [29], []), (10, .aload_n 0, 1, [], []), (11, .getfield 15, 3, [4, 0, 3, 90], []), (14, .iload_n 3, 1, [], []), (15, .laload, 1, [], [])],
  [(16, .lload_n 1, 1, [], []), (17, .lcmp, 1, [], []), (18, .ifCond .ne 5, 3, [23], []), (21, .iload_n 3, 1, [], []), (22, .ireturn, 1, [1], []), (23, .iinc 3 1, 3, [], []), (26, .goto (-24), 3, [2], []), (29, .iconst (-1), 1, [], []), (30, .ireturn, 1, [1], [])]]
theorem k_X6_numberOf : CdOk m_X6_numberOf c_X6_numberOf := ⟨by decide +kernel, allM_of trivial⟩
def c_X10_takeNewName : Cd := [
  [(0, .aload_n 0, 1, [], []), (1, .getfield 25, 3, [7, 4, 0, 49], []), (4, .iconst 1, 1, [], []), (5, .if_icmp .eq 11, 3, [16], []), (8, .aload_n 0, 1, [], []), (9, .iconst 1, 1, [], []), (10, .invokevirtual 59, 3, [0, 1, 1, 7, 0, 895], [m_X10_fail]), (13, .pop, 1, [], []), (14, .lconst 0, 1, [], []), (15, .lreturn, 1, [], [])],
  [(16, .aload_n 1, 1, [], []), (17, .aload_n 0, 1, [], []), (18, .getfield 31, 3, [7, 6, 2, 53], []), (21, .invokevirtual 63, 3, [0, 1, 1, 4, 0, 896], [m_X6_numberOf]), (24, .iconst (-1), 1, [], []), (25, .if_icmp .eq 11, 3, [36], []), (28, .aload_n 0, 1, [], []), (29, .iconst 3, 1, [], []), (30, .invokevirtual 59, 3, [0, 1, 1, 7, 0, 895], [m_X10_fail])],
  [(33, .pop, 1, [], []), (34, .lconst 0, 1, [], []), (35, .lreturn, 1, [], []), (36, .aload_n 0, 1, [], []), (37, .getfield 31, 3, [7, 6, 2, 53], []), (40, .lstore_n 2, 1, [], []), (41, .aload_n 0, 1, [], []), (42, .invokevirtual 41, 3, [0, 0, 0, 7, 0, 789], [m_X10_advance]), (45, .lload_n 2, 1, [], []), (46, .lreturn, 1, [], [])]]
theorem k_X10_takeNewName : CdOk m_X10_takeNewName c_X10_takeNewName := ⟨by decide +kernel, allM_of ⟨o_X10_fail, ⟨o_X6_numberOf, ⟨o_X10_fail, ⟨o_X10_advance, trivial⟩⟩⟩⟩⟩
def c_X10_takeNumber : Cd := [
  [(0, .aload_n 0, 1, [], []), (1, .getfield 25, 3, [7, 4, 0, 49], []), (4, .iconst 2, 1, [], []), (5, .if_icmp .eq 11, 3, [16], []), (8, .aload_n 0, 1, [], []), (9, .iconst 1, 1, [], []), (10, .invokevirtual 59, 3, [0, 1, 1, 7, 0, 895], [m_X10_fail]), (13, .pop, 1, [], []), (14, .iconst (-1), 1, [], []), (15, .ireturn, 1, [1], [])],
  [(16, .aload_n 0, 1, [], []), (17, .getfield 35, 3, [7, 7, 0, 54], []), (20, .iload_n 1, 1, [], []), (21, .if_icmp .lt 11, 3, [32], []), (24, .aload_n 0, 1, [], []), (25, .getfield 35, 3, [7, 7, 0, 54], []), (28, .iload_n 2, 1, [], []), (29, .if_icmp .le 11, 3, [40], [])],
  [(32, .aload_n 0, 1, [], []), (33, .iconst 2, 1, [], []), (34, .invokevirtual 59, 3, [0, 1, 1, 7, 0, 895], [m_X10_fail]), (37, .pop, 1, [], []), (38, .iconst (-1), 1, [], []), (39, .ireturn, 1, [1], []), (40, .aload_n 0, 1, [], []), (41, .getfield 35, 3, [7, 7, 0, 54], []), (44, .istore_n 3, 1, [], []), (45, .aload_n 0, 1, [], []), (46, .invokevirtual 41, 3, [0, 0, 0, 7, 0, 789], [m_X10_advance])],
  [(49, .iload_n 3, 1, [], []), (50, .ireturn, 1, [1], [])]]
theorem k_X10_takeNumber : CdOk m_X10_takeNumber c_X10_takeNumber := ⟨by decide +kernel, allM_of ⟨o_X10_fail, ⟨o_X10_fail, ⟨o_X10_advance, trivial⟩⟩⟩⟩
def c_X6_add : Cd := [
  [(0, .aload_n 0, 1, [], []), (1, .getfield 9, 3, [4, 1, 0, 91], []), (4, .aload_n 0, 1, [], []), (5, .getfield 15, 3, [4, 0, 3, 90], []), (8, .arraylength, 1, [], []), (9, .if_icmp .ge 23, 3, [32], []), (12, .aload_n 0, 1, [], []), (13, .getfield 15, 3, [4, 0, 3, 90], [])],
  [(16, .aload_n 0, 1, [], []), (17, .getfield 9, 3, [4, 1, 0, 91], []), (20, .lload_n 1, 1, [], []), (21, .lastore, 1, [], []), (22, .aload_n 0, 1, [], []), (23, .dup, 1, [], []), (24, .getfield 9, 3, [4, 1, 0, 91], []), (27, .iconst 1, 1, [], []), (28, .iadd, 1, [], []), (29, .putfield 9, 3, [4, 1, 0, 91], [])],
  [(32, .return_, 1, [], [])]]
theorem k_X6_add : CdOk m_X6_add c_X6_add := ⟨by decide +kernel, allM_of trivial⟩
def c_X5_addVersion : Cd := [
  [(0, .aload_n 0, 1, [], []), (1, .getfield 14, 3, [3, 0, 3, 106], []), (4, .getfield 54, 3, [4, 1, 0, 92], []), (7, .istore 5, 2, [], []), (9, .iload 5, 2, [], []), (11, .bipush 8, 2, [], []), (13, .if_icmp .ge 39, 3, [52], [])],
  [(16, .aload_n 0, 1, [], []), (17, .getfield 14, 3, [3, 0, 3, 106], []), (20, .lload_n 1, 1, [], []), (21, .invokevirtual 87, 3, [0, 1, 0, 4, 0, 908], [m_X6_add]), (24, .aload_n 0, 1, [], []), (25, .getfield 20, 3, [3, 1, 3, 111], []), (28, .iload 5, 2, [], []), (30, .iload_n 3, 1, [], []), (31, .iastore, 1, [], [])],
  [(32, .aload_n 0, 1, [], []), (33, .getfield 24, 3, [3, 2, 3, 112], []), (36, .iload 5, 2, [], []), (38, .iload 4, 2, [], []), (40, .iastore, 1, [], []), (41, .aload_n 0, 1, [], []), (42, .getfield 27, 3, [3, 3, 3, 113], []), (45, .iload 5, 2, [], []), (47, .iconst 1, 1, [], [])],
  [(48, .iload 5, 2, [], []), (50, .ishl, 1, [], []), (51, .iastore, 1, [], []), (52, .return_, 1, [], [])]]
theorem k_X5_addVersion : CdOk m_X5_addVersion c_X5_addVersion := ⟨by decide +kernel, allM_of ⟨o_X6_add, trivial⟩⟩
def c_X1_readVersion : Cd := [
  [(0, .aload_n 0, 1, [], []), (1, .getfield 15, 3, [0, 0, 3, 310], []), (4, .aload_n 0, 1, [], []), (5, .getfield 29, 3, [0, 2, 3, 312], []), (8, .getfield 82, 3, [3, 0, 3, 107], []), (11, .invokevirtual 130, 3, [0, 1, 2, 7, 0, 891], [m_X10_takeNewName]), (14, .lstore_n 1, 1, [], []), (15, .lload_n 1, 1, [], [])],
  [(16, .lconst 0, 1, [], []), (17, .lcmp, 1, [], []), (18, .ifCond .ne 5, 3, [23], []), (21, .iconst 0, 1, [], []), (22, .ireturn, 1, [6], []), (23, .aload_n 0, 1, [], []), (24, .getfield 15, 3, [0, 0, 3, 310], []), (27, .iconst 1, 1, [], []), (28, .bipush 9, 2, [], []), (30, .invokevirtual 134, 3, [0, 2, 1, 7, 0, 900], [m_X10_takeNumber])],
  [(33, .istore_n 3, 1, [], []), (34, .iload_n 3, 1, [], []), (35, .iconst (-1), 1, [], []), (36, .if_icmp .ne 5, 3, [41], []), (39, .iconst 0, 1, [], []), (40, .ireturn, 1, [6], []), (41, .aload_n 0, 1, [], []), (42, .getfield 15, 3, [0, 0, 3, 310], []), (45, .iload_n 3, 1, [], []), (46, .bipush 9, 2, [], [])],
  [(48, .invokevirtual 134, 3, [0, 2, 1, 7, 0, 900], [m_X10_takeNumber]), (51, .istore 4, 2, [], []), (53, .iload 4, 2, [], []), (55, .iconst (-1), 1, [], []), (56, .if_icmp .ne 5, 3, [61], []), (59, .iconst 0, 1, [], []), (60, .ireturn, 1, [6], []), (61, .aload_n 0, 1, [], []), (62, .getfield 29, 3, [0, 2, 3, 312], [])],
  [(65, .lload_n 1, 1, [], []), (66, .iload_n 3, 1, [], []), (67, .iload 4, 2, [], []), (69, .invokevirtual 138, 3, [0, 3, 0, 3, 0, 904], [m_X5_addVersion]), (72, .iconst 1, 1, [], []), (73, .ireturn, 1, [6], [])]]
theorem k_X1_readVersion : CdOk m_X1_readVersion c_X1_readVersion := ⟨by decide +kernel, allM_of ⟨o_X10_takeNewName, ⟨o_X10_takeNumber, ⟨o_X10_takeNumber, ⟨o_X5_addVersion, trivial⟩⟩⟩⟩⟩
def c_X10_findName : Cd := [
  [(0, .aload_n 0, 1, [], []), (1, .getfield 25, 3, [7, 4, 0, 49], []), (4, .iconst 1, 1, [], []), (5, .if_icmp .eq 11, 3, [16], []), (8, .aload_n 0, 1, [], []), (9, .iconst 1, 1, [], []), (10, .invokevirtual 59, 3, [0, 1, 1, 7, 0, 895], [m_X10_fail]), (13, .pop, 1, [], []), (14, .iconst (-1), 1, [], []), (15, .ireturn, 1, [1], [])],
  [(16, .aload_n 1, 1, [], []), (17, .aload_n 0, 1, [], []), (18, .getfield 31, 3, [7, 6, 2, 53], []), (21, .invokevirtual 63, 3, [0, 1, 1, 4, 0, 896], [m_X6_numberOf]), (24, .istore_n 2, 1, [], []), (25, .iload_n 2, 1, [], []), (26, .iconst (-1), 1, [], []), (27, .if_icmp .ne 9, 3, [36], []), (30, .aload_n 0, 1, [], []), (31, .iconst 3, 1, [], [])],
  [(32, .invokevirtual 59, 3, [0, 1, 1, 7, 0, 895], [m_X10_fail]), (35, .pop, 1, [], []), (36, .iload_n 2, 1, [], []), (37, .ireturn, 1, [1], [])]]
theorem k_X10_findName : CdOk m_X10_findName c_X10_findName := ⟨by decide +kernel, allM_of ⟨o_X10_fail, ⟨o_X6_numberOf, ⟨o_X10_fail, trivial⟩⟩⟩⟩
def c_X5_talkersOf : Cd := [
  [(0, .iload_n 1, 1, [], []), (1, .ifCond .lt 23, 3, [24], []), (4, .iload_n 1, 1, [], []), (5, .aload_n 0, 1, [], []), (6, .getfield 14, 3, [3, 0, 3, 106], []), (9, .getfield 54, 3, [4, 1, 0, 92], []), (12, .if_icmp .ge 12, 3, [24], []), (15, .aload_n 0, 1, [], [])],
  [(16, .getfield 27, 3, [3, 3, 3, 113], []), (19, .iload_n 1, 1, [], []), (20, .iaload, 1, [], []), (21, .goto 4, 3, [25], []), (24, .iconst 0, 1, [], []), (25, .ireturn, 1, [1], [])]]
theorem k_X5_talkersOf : CdOk m_X5_talkersOf c_X5_talkersOf := ⟨by decide +kernel, allM_of trivial⟩
def c_X11_isIn : Cd := [
  [(0, .iload_n 0, 1, [], []), (1, .iload_n 1, 1, [], []), (2, .ishr, 1, [], []), (3, .iconst 1, 1, [], []), (4, .iand, 1, [], []), (5, .ifCond .eq 7, 3, [12], []), (8, .iconst 1, 1, [], []), (9, .goto 4, 3, [13], []), (12, .iconst 0, 1, [], []), (13, .ireturn, 1, [6], [])]]
theorem k_X11_isIn : CdOk m_X11_isIn c_X11_isIn := ⟨by decide +kernel, allM_of trivial⟩
def c_X5_addTalk : Cd := [
  [(0, .aload_n 0, 1, [], []), (1, .getfield 27, 3, [3, 3, 3, 113], []), (4, .iload_n 1, 1, [], []), (5, .dup2, 1, [], []), (6, .iaload, 1, [], []), (7, .iconst 1, 1, [], []), (8, .iload_n 2, 1, [], []), (9, .ishl, 1, [], []), (10, .ior, 1, [], []), (11, .iastore, 1, [], []), (12, .aload_n 0, 1, [], []), (13, .getfield 27, 3, [3, 3, 3, 113], [])],
  [(16, .iload_n 2, 1, [], []), (17, .dup2, 1, [], []), (18, .iaload, 1, [], []), (19, .iconst 1, 1, [], []), (20, .iload_n 1, 1, [], []), (21, .ishl, 1, [], []), (22, .ior, 1, [], []), (23, .iastore, 1, [], []), (24, .return_, 1, [], [])]]
theorem k_X5_addTalk : CdOk m_X5_addTalk c_X5_addTalk := ⟨by decide +kernel, allM_of trivial⟩
def c_X1_readTalks : Cd := [
  [(0, .aload_n 0, 1, [], []), (1, .getfield 15, 3, [0, 0, 3, 310], []), (4, .aload_n 0, 1, [], []), (5, .getfield 29, 3, [0, 2, 3, 312], []), (8, .getfield 82, 3, [3, 0, 3, 107], []), (11, .invokevirtual 142, 3, [0, 1, 1, 7, 0, 916], [m_X10_findName]), (14, .istore_n 1, 1, [], []), (15, .iload_n 1, 1, [], [])],
  [(16, .iconst (-1), 1, [], []), (17, .if_icmp .ne 5, 3, [22], []), (20, .iconst 0, 1, [], []), (21, .ireturn, 1, [6], []), (22, .aload_n 0, 1, [], []), (23, .getfield 15, 3, [0, 0, 3, 310], []), (26, .invokevirtual 62, 3, [0, 0, 0, 7, 0, 882], [m_X10_advance]), (29, .aload_n 0, 1, [], []), (30, .getfield 15, 3, [0, 0, 3, 310], [])],
  [(33, .aload_n 0, 1, [], []), (34, .getfield 29, 3, [0, 2, 3, 312], []), (37, .getfield 82, 3, [3, 0, 3, 107], []), (40, .invokevirtual 142, 3, [0, 1, 1, 7, 0, 916], [m_X10_findName]), (43, .istore_n 2, 1, [], []), (44, .iload_n 2, 1, [], []), (45, .iconst (-1), 1, [], []), (46, .if_icmp .ne 5, 3, [51], [])],
  [(49, .iconst 0, 1, [], []), (50, .ireturn, 1, [6], []), (51, .iload_n 2, 1, [], []), (52, .iload_n 1, 1, [], []), (53, .if_icmp .ne 12, 3, [65], []), (56, .aload_n 0, 1, [], []), (57, .getfield 15, 3, [0, 0, 3, 310], []), (60, .iconst 3, 1, [], []), (61, .invokevirtual 54, 3, [0, 1, 1, 7, 0, 862], [m_X10_fail])],
  [(64, .ireturn, 1, [6], []), (65, .aload_n 0, 1, [], []), (66, .getfield 29, 3, [0, 2, 3, 312], []), (69, .iload_n 1, 1, [], []), (70, .invokevirtual 146, 3, [0, 1, 1, 3, 0, 920], [m_X5_talkersOf]), (73, .iload_n 2, 1, [], []), (74, .invokestatic 150, 3, [2, 2, 1, 0, 0, 4], [m_X11_isIn]), (77, .ifCond .eq 12, 3, [89], [])],
  [(80, .aload_n 0, 1, [], []), (81, .getfield 15, 3, [0, 0, 3, 310], []), (84, .iconst 4, 1, [], []), (85, .invokevirtual 54, 3, [0, 1, 1, 7, 0, 862], [m_X10_fail]), (88, .ireturn, 1, [6], []), (89, .aload_n 0, 1, [], []), (90, .getfield 15, 3, [0, 0, 3, 310], []), (93, .invokevirtual 62, 3, [0, 0, 0, 7, 0, 882], [m_X10_advance])],
  [(96, .aload_n 0, 1, [], []), (97, .getfield 29, 3, [0, 2, 3, 312], []), (100, .iload_n 1, 1, [], []), (101, .iload_n 2, 1, [], []), (102, .invokevirtual 154, 3, [0, 2, 0, 3, 0, 922], [m_X5_addTalk]), (105, .iconst 1, 1, [], []), (106, .ireturn, 1, [6], [])]]
theorem k_X1_readTalks : CdOk m_X1_readTalks c_X1_readTalks := ⟨by decide +kernel, allM_of ⟨o_X10_findName, ⟨o_X10_advance, ⟨o_X10_findName, ⟨o_X10_fail, ⟨o_X5_talkersOf, ⟨o_X11_isIn, ⟨o_X10_fail, ⟨o_X10_advance, ⟨o_X5_addTalk, trivial⟩⟩⟩⟩⟩⟩⟩⟩⟩⟩
def c_X5_addPlace : Cd := [
  [(0, .aload_n 0, 1, [], []), (1, .getfield 30, 3, [3, 4, 3, 114], []), (4, .getfield 54, 3, [4, 1, 0, 92], []), (7, .istore_n 3, 1, [], []), (8, .iload_n 3, 1, [], []), (9, .iconst 5, 1, [], []), (10, .if_icmp .ge 25, 3, [35], []), (13, .aload_n 0, 1, [], []), (14, .getfield 30, 3, [3, 4, 3, 114], [])],
  [(17, .lload_n 1, 1, [], []), (18, .invokevirtual 87, 3, [0, 1, 0, 4, 0, 908], [m_X6_add]), (21, .aload_n 0, 1, [], []), (22, .getfield 33, 3, [3, 5, 3, 117], []), (25, .iload_n 3, 1, [], []), (26, .iconst (-1), 1, [], []), (27, .iastore, 1, [], []), (28, .aload_n 0, 1, [], []), (29, .getfield 36, 3, [3, 6, 3, 119], [])],
  [(32, .iload_n 3, 1, [], []), (33, .iconst 0, 1, [], []), (34, .iastore, 1, [], []), (35, .return_, 1, [], [])]]
theorem k_X5_addPlace : CdOk m_X5_addPlace c_X5_addPlace := ⟨by decide +kernel, allM_of ⟨o_X6_add, trivial⟩⟩
def c_X1_readPlace : Cd := [
  [(0, .aload_n 0, 1, [], []), (1, .getfield 15, 3, [0, 0, 3, 310], []), (4, .aload_n 0, 1, [], []), (5, .getfield 29, 3, [0, 2, 3, 312], []), (8, .getfield 91, 3, [3, 4, 3, 115], []), (11, .invokevirtual 130, 3, [0, 1, 2, 7, 0, 891], [m_X10_takeNewName]), (14, .lstore_n 1, 1, [], []), (15, .lload_n 1, 1, [], [])],
  [(16, .lconst 0, 1, [], []), (17, .lcmp, 1, [], []), (18, .ifCond .ne 5, 3, [23], []), (21, .iconst 0, 1, [], []), (22, .ireturn, 1, [6], []), (23, .aload_n 0, 1, [], []), (24, .getfield 29, 3, [0, 2, 3, 312], []), (27, .lload_n 1, 1, [], []), (28, .invokevirtual 158, 3, [0, 1, 0, 3, 0, 930], [m_X5_addPlace]), (31, .iconst 1, 1, [], [])],
  [(32, .ireturn, 1, [6], [])]]
theorem k_X1_readPlace : CdOk m_X1_readPlace c_X1_readPlace := ⟨by decide +kernel, allM_of ⟨o_X10_takeNewName, ⟨o_X5_addPlace, trivial⟩⟩⟩
def c_X5_isReader : Cd := [
  [(0, .iload_n 1, 1, [], []), (1, .ifCond .lt 38, 3, [39], []), (4, .iload_n 1, 1, [], []), (5, .aload_n 0, 1, [], []), (6, .getfield 14, 3, [3, 0, 3, 106], []), (9, .getfield 54, 3, [4, 1, 0, 92], []), (12, .if_icmp .ge 27, 3, [39], []), (15, .aload_n 0, 1, [], [])],
  [(16, .getfield 20, 3, [3, 1, 3, 111], []), (19, .iload_n 1, 1, [], []), (20, .iaload, 1, [], []), (21, .iload_n 2, 1, [], []), (22, .if_icmp .gt 17, 3, [39], []), (25, .iload_n 2, 1, [], []), (26, .aload_n 0, 1, [], []), (27, .getfield 24, 3, [3, 2, 3, 112], []), (30, .iload_n 1, 1, [], []), (31, .iaload, 1, [], [])],
  [(32, .if_icmp .gt 7, 3, [39], []), (35, .iconst 1, 1, [], []), (36, .goto 4, 3, [40], []), (39, .iconst 0, 1, [], []), (40, .ireturn, 1, [6], [])]]
theorem k_X5_isReader : CdOk m_X5_isReader c_X5_isReader := ⟨by decide +kernel, allM_of trivial⟩
def c_X8_canJoin : Cd := [
  [(0, .aload_n 0, 1, [], []), (1, .getfield 31, 3, [6, 0, 3, 223], []), (4, .iload_n 2, 1, [], []), (5, .invokevirtual 100, 3, [0, 1, 1, 3, 0, 495], [m_X5_talkersOf]), (8, .istore_n 3, 1, [], []), (9, .aload_n 0, 1, [], []), (10, .getfield 31, 3, [6, 0, 3, 223], []), (13, .iload_n 2, 1, [], []), (14, .aload_n 0, 1, [], []), (15, .getfield 42, 3, [6, 2, 0, 226], [])],
  [(18, .invokevirtual 104, 3, [0, 2, 1, 3, 0, 480], [m_X5_isReader]), (21, .istore 4, 2, [], []), (23, .iconst 0, 1, [], []), (24, .istore 5, 2, [], []), (26, .iload 5, 2, [], []), (28, .aload_n 0, 1, [], []), (29, .getfield 31, 3, [6, 0, 3, 223], [])],
  [(32, .getfield 89, 3, [3, 8, 3, 127], []), (35, .getfield 93, 3, [4, 1, 0, 95], []), (38, .if_icmp .ge 69, 3, [107], []), (41, .iload 4, 2, [], []), (43, .aload_n 0, 1, [], []), (44, .getfield 9, 3, [6, 3, 3, 229], []), (47, .iload 5, 2, [], [])],
  [(49, .iaload, 1, [], []), (50, .iload_n 2, 1, [], []), (51, .isub, 1, [], []), (52, .invokestatic 108, 3, [12, 488], []), (55, .aload_n 0, 1, [], []), (56, .getfield 31, 3, [6, 0, 3, 223], []), (59, .getfield 113, 3, [3, 13, 0, 143], []), (62, .if_icmp .gt 35, 3, [97], [])],
  [(65, .aload_n 0, 1, [], []), (66, .getfield 31, 3, [6, 0, 3, 223], []), (69, .getfield 116, 3, [3, 9, 3, 130], []), (72, .iload 5, 2, [], []), (74, .iaload, 1, [], []), (75, .iload_n 1, 1, [], []), (76, .if_icmp .ne 17, 3, [93], []), (79, .iload_n 3, 1, [], [])],
  [(80, .aload_n 0, 1, [], []), (81, .getfield 9, 3, [6, 3, 3, 229], []), (84, .iload 5, 2, [], []), (86, .iaload, 1, [], []), (87, .invokestatic 119, 3, [2, 2, 1, 0, 0, 0], [m_X11_isIn]), (90, .ifCond .eq 7, 3, [97], []), (93, .iconst 1, 1, [], []), (94, .goto 4, 3, [98], [])],
  [(97, .iconst 0, 1, [], []), (98, .iand, 1, [], []), (99, .istore 4, 2, [], []), (101, .iinc 5 1, 3, [], []), (104, .goto (-78), 3, [26], []), (107, .iload 4, 2, [], []), (109, .ireturn, 1, [6], [])]]
theorem k_X8_canJoin : CdOk m_X8_canJoin c_X8_canJoin := ⟨by decide +kernel, allM_of ⟨o_X5_talkersOf, ⟨o_X5_isReader, ⟨o_X11_isIn, trivial⟩⟩⟩⟩
def c_X5_join : Cd := [
  [(0, .aload_n 0, 1, [], []), (1, .getfield 48, 3, [3, 10, 3, 132], []), (4, .iload_n 1, 1, [], []), (5, .dup2, 1, [], []), (6, .iaload, 1, [], []), (7, .iconst 1, 1, [], []), (8, .iload_n 2, 1, [], []), (9, .ishl, 1, [], []), (10, .ior, 1, [], []), (11, .iastore, 1, [], []), (12, .aload_n 0, 1, [], []), (13, .getfield 48, 3, [3, 10, 3, 132], [])],
  [(16, .iload_n 2, 1, [], []), (17, .dup2, 1, [], []), (18, .iaload, 1, [], []), (19, .iconst 1, 1, [], []), (20, .iload_n 1, 1, [], []), (21, .ishl, 1, [], []), (22, .ior, 1, [], []), (23, .iastore, 1, [], []), (24, .return_, 1, [], [])]]
theorem k_X5_join : CdOk m_X5_join c_X5_join := ⟨by decide +kernel, allM_of trivial⟩
def c_X5_addMember : Cd := [
  [(0, .aload_n 0, 1, [], []), (1, .getfield 42, 3, [3, 8, 3, 124], []), (4, .getfield 54, 3, [4, 1, 0, 92], []), (7, .istore 4, 2, [], []), (9, .iload 4, 2, [], []), (11, .bipush 12, 2, [], []), (13, .if_icmp .lt 4, 3, [17], [])],
  [(16, .return_, 1, [], []), (17, .aload_n 0, 1, [], []), (18, .getfield 42, 3, [3, 8, 3, 124], []), (21, .lload_n 1, 1, [], []), (22, .invokevirtual 87, 3, [0, 1, 0, 4, 0, 908], [m_X6_add]), (25, .aload_n 0, 1, [], []), (26, .getfield 45, 3, [3, 9, 3, 129], []), (29, .iload 4, 2, [], []), (31, .iload_n 3, 1, [], [])],
  [(32, .iastore, 1, [], []), (33, .aload_n 0, 1, [], []), (34, .getfield 48, 3, [3, 10, 3, 132], []), (37, .iload 4, 2, [], []), (39, .iconst 0, 1, [], []), (40, .iastore, 1, [], []), (41, .iconst 0, 1, [], []), (42, .istore 5, 2, [], []), (44, .iload 5, 2, [], []), (46, .iload 4, 2, [], [])],
  [(48, .if_icmp .ge 28, 3, [76], []), (51, .aload_n 0, 1, [], []), (52, .getfield 45, 3, [3, 9, 3, 129], []), (55, .iload 5, 2, [], []), (57, .iaload, 1, [], []), (58, .iload_n 3, 1, [], []), (59, .if_icmp .ne 11, 3, [70], []), (62, .aload_n 0, 1, [], []), (63, .iload 4, 2, [], [])],
  [(65, .iload 5, 2, [], []), (67, .invokevirtual 91, 3, [0, 2, 0, 3, 0, 952], [m_X5_join]), (70, .iinc 5 1, 3, [], []), (73, .goto (-29), 3, [44], []), (76, .aload_n 0, 1, [], []), (77, .getfield 36, 3, [3, 6, 3, 119], [])],
  [(80, .iload_n 3, 1, [], []), (81, .dup2, 1, [], []), (82, .iaload, 1, [], []), (83, .iconst 1, 1, [], []), (84, .iload 4, 2, [], []), (86, .ishl, 1, [], []), (87, .ior, 1, [], []), (88, .iastore, 1, [], []), (89, .aload_n 0, 1, [], []), (90, .getfield 33, 3, [3, 5, 3, 117], []), (93, .iload_n 3, 1, [], []), (94, .iaload, 1, [], []), (95, .istore 5, 2, [], [])],
  [(97, .iload 5, 2, [], []), (99, .ifCond .lt 26, 3, [125], []), (102, .iload 5, 2, [], []), (104, .aload_n 0, 1, [], []), (105, .getfield 61, 3, [3, 12, 0, 138], []), (108, .if_icmp .ge 17, 3, [125], []), (111, .aload_n 0, 1, [], [])],
  [(112, .getfield 39, 3, [3, 7, 3, 121], []), (115, .iload 5, 2, [], []), (117, .dup2, 1, [], []), (118, .iaload, 1, [], []), (119, .iconst 1, 1, [], []), (120, .iload 4, 2, [], []), (122, .ishl, 1, [], []), (123, .ior, 1, [], []), (124, .iastore, 1, [], []), (125, .return_, 1, [], [])]]
theorem k_X5_addMember : CdOk m_X5_addMember c_X5_addMember := ⟨by decide +kernel, allM_of ⟨o_X6_add, ⟨o_X5_join, trivial⟩⟩⟩
def c_X8_addMember : Cd := [
  [(0, .aload_n 0, 1, [], []), (1, .getfield 31, 3, [6, 0, 3, 223], []), (4, .getfield 89, 3, [3, 8, 3, 127], []), (7, .getfield 93, 3, [4, 1, 0, 95], []), (10, .istore 6, 2, [], []), (12, .iload 6, 2, [], []), (14, .bipush 12, 2, [], [])],
  [(16, .if_icmp .ge 68, 3, [84], []), (19, .aload_n 0, 1, [], []), (20, .getfield 31, 3, [6, 0, 3, 223], []), (23, .lload_n 1, 1, [], []), (24, .iload_n 3, 1, [], []), (25, .invokevirtual 96, 3, [0, 2, 0, 3, 0, 948], [m_X5_addMember]), (28, .aload_n 0, 1, [], []), (29, .getfield 9, 3, [6, 3, 3, 229], [])],
  [(32, .iload 6, 2, [], []), (34, .iload 4, 2, [], []), (36, .iastore, 1, [], []), (37, .aload_n 0, 1, [], []), (38, .getfield 15, 3, [6, 4, 3, 232], []), (41, .iload 6, 2, [], []), (43, .iload 4, 2, [], []), (45, .iastore, 1, [], []), (46, .aload_n 0, 1, [], []), (47, .getfield 18, 3, [6, 5, 3, 234], [])],
  [(50, .iload 6, 2, [], []), (52, .iconst (-1), 1, [], []), (53, .iastore, 1, [], []), (54, .aload_n 0, 1, [], []), (55, .getfield 21, 3, [6, 6, 3, 235], []), (58, .iload 6, 2, [], []), (60, .iconst 0, 1, [], []), (61, .iastore, 1, [], []), (62, .aload_n 0, 1, [], []), (63, .dup, 1, [], [])],
  [(64, .getfield 48, 3, [6, 8, 0, 239], []), (67, .iload 5, 2, [], []), (69, .ifCond .eq 10, 3, [79], []), (72, .iconst 1, 1, [], []), (73, .iload 6, 2, [], []), (75, .ishl, 1, [], []), (76, .goto 4, 3, [80], []), (79, .iconst 0, 1, [], [])],
  [(80, .ior, 1, [], []), (81, .putfield 48, 3, [6, 8, 0, 239], []), (84, .return_, 1, [], [])]]
theorem k_X8_addMember : CdOk m_X8_addMember c_X8_addMember := ⟨by decide +kernel, allM_of ⟨o_X5_addMember, trivial⟩⟩
def c_X1_readMember : Cd := [
  [(0, .aload_n 0, 1, [], []), (1, .getfield 15, 3, [0, 0, 3, 310], []), (4, .aload_n 0, 1, [], []), (5, .getfield 29, 3, [0, 2, 3, 312], []), (8, .getfield 94, 3, [3, 8, 3, 126], []), (11, .invokevirtual 130, 3, [0, 1, 2, 7, 0, 891], [m_X10_takeNewName]), (14, .lstore_n 1, 1, [], []), (15, .lload_n 1, 1, [], [])],
  [(16, .lconst 0, 1, [], []), (17, .lcmp, 1, [], []), (18, .ifCond .ne 5, 3, [23], []), (21, .iconst 0, 1, [], []), (22, .ireturn, 1, [6], []), (23, .aload_n 0, 1, [], []), (24, .getfield 15, 3, [0, 0, 3, 310], []), (27, .aload_n 0, 1, [], []), (28, .getfield 29, 3, [0, 2, 3, 312], []), (31, .getfield 91, 3, [3, 4, 3, 115], [])],
  [(34, .invokevirtual 142, 3, [0, 1, 1, 7, 0, 916], [m_X10_findName]), (37, .istore_n 3, 1, [], []), (38, .iload_n 3, 1, [], []), (39, .iconst (-1), 1, [], []), (40, .if_icmp .ne 5, 3, [45], []), (43, .iconst 0, 1, [], []), (44, .ireturn, 1, [6], []), (45, .aload_n 0, 1, [], []), (46, .getfield 15, 3, [0, 0, 3, 310], [])],
  [(49, .invokevirtual 62, 3, [0, 0, 0, 7, 0, 882], [m_X10_advance]), (52, .aload_n 0, 1, [], []), (53, .getfield 15, 3, [0, 0, 3, 310], []), (56, .aload_n 0, 1, [], []), (57, .getfield 29, 3, [0, 2, 3, 312], []), (60, .getfield 82, 3, [3, 0, 3, 107], []), (63, .invokevirtual 142, 3, [0, 1, 1, 7, 0, 916], [m_X10_findName])],
  [(66, .istore 4, 2, [], []), (68, .iload 4, 2, [], []), (70, .iconst (-1), 1, [], []), (71, .if_icmp .ne 5, 3, [76], []), (74, .iconst 0, 1, [], []), (75, .ireturn, 1, [6], []), (76, .aload_n 0, 1, [], []), (77, .getfield 19, 3, [0, 1, 3, 311], [])],
  [(80, .iload_n 3, 1, [], []), (81, .iload 4, 2, [], []), (83, .invokevirtual 162, 3, [0, 2, 1, 6, 0, 938], [m_X8_canJoin]), (86, .ifCond .ne 12, 3, [98], []), (89, .aload_n 0, 1, [], []), (90, .getfield 15, 3, [0, 0, 3, 310], []), (93, .iconst 5, 1, [], []), (94, .invokevirtual 54, 3, [0, 1, 1, 7, 0, 862], [m_X10_fail])],
  [(97, .ireturn, 1, [6], []), (98, .aload_n 0, 1, [], []), (99, .getfield 15, 3, [0, 0, 3, 310], []), (102, .invokevirtual 62, 3, [0, 0, 0, 7, 0, 882], [m_X10_advance]), (105, .aload_n 0, 1, [], []), (106, .getfield 15, 3, [0, 0, 3, 310], []), (109, .ldc 165, 2, [1084], []), (111, .invokevirtual 167, 3, [0, 1, 1, 7, 0, 943], [m_X10_isWord])],
  [(114, .istore 5, 2, [], []), (116, .iload 5, 2, [], []), (118, .ifCond .eq 10, 3, [128], []), (121, .aload_n 0, 1, [], []), (122, .getfield 15, 3, [0, 0, 3, 310], []), (125, .invokevirtual 62, 3, [0, 0, 0, 7, 0, 882], [m_X10_advance])],
  [(128, .aload_n 0, 1, [], []), (129, .getfield 19, 3, [0, 1, 3, 311], []), (132, .lload_n 1, 1, [], []), (133, .iload_n 3, 1, [], []), (134, .iload 4, 2, [], []), (136, .iload 5, 2, [], []), (138, .invokevirtual 171, 3, [0, 4, 0, 6, 0, 944], [m_X8_addMember]), (141, .iconst 1, 1, [], []), (142, .ireturn, 1, [6], [])]]
theorem k_X1_readMember : CdOk m_X1_readMember c_X1_readMember := ⟨by decide +kernel, allM_of ⟨o_X10_takeNewName, ⟨o_X10_findName, ⟨o_X10_advance, ⟨o_X10_findName, ⟨o_X8_canJoin, ⟨o_X10_fail, ⟨o_X10_advance, ⟨o_X10_isWord, ⟨o_X10_advance, ⟨o_X8_addMember, trivial⟩⟩⟩⟩⟩⟩⟩⟩⟩⟩⟩
def c_X5_addLink : Cd := [
  [(0, .aload_n 0, 1, [], []), (1, .iload_n 1, 1, [], []), (2, .iload_n 2, 1, [], []), (3, .invokevirtual 91, 3, [0, 2, 0, 3, 0, 952], [m_X5_join]), (6, .aload_n 0, 1, [], []), (7, .dup, 1, [], []), (8, .getfield 58, 3, [3, 11, 0, 136], []), (11, .iconst 1, 1, [], []), (12, .iadd, 1, [], []), (13, .putfield 58, 3, [3, 11, 0, 136], [])],
  [(16, .return_, 1, [], [])]]
theorem k_X5_addLink : CdOk m_X5_addLink c_X5_addLink := ⟨by decide +kernel, allM_of ⟨o_X5_join, trivial⟩⟩
def c_X1_readLink : Cd := [
  [(0, .aload_n 0, 1, [], []), (1, .getfield 15, 3, [0, 0, 3, 310], []), (4, .aload_n 0, 1, [], []), (5, .getfield 29, 3, [0, 2, 3, 312], []), (8, .getfield 94, 3, [3, 8, 3, 126], []), (11, .invokevirtual 142, 3, [0, 1, 1, 7, 0, 916], [m_X10_findName]), (14, .istore_n 1, 1, [], []), (15, .iload_n 1, 1, [], [])],
  [(16, .iconst (-1), 1, [], []), (17, .if_icmp .ne 5, 3, [22], []), (20, .iconst 0, 1, [], []), (21, .ireturn, 1, [6], []), (22, .aload_n 0, 1, [], []), (23, .getfield 15, 3, [0, 0, 3, 310], []), (26, .invokevirtual 62, 3, [0, 0, 0, 7, 0, 882], [m_X10_advance]), (29, .aload_n 0, 1, [], []), (30, .getfield 15, 3, [0, 0, 3, 310], [])],
  [(33, .aload_n 0, 1, [], []), (34, .getfield 29, 3, [0, 2, 3, 312], []), (37, .getfield 94, 3, [3, 8, 3, 126], []), (40, .invokevirtual 142, 3, [0, 1, 1, 7, 0, 916], [m_X10_findName]), (43, .istore_n 2, 1, [], []), (44, .iload_n 2, 1, [], []), (45, .iconst (-1), 1, [], []), (46, .if_icmp .ne 5, 3, [51], [])],
  [(49, .iconst 0, 1, [], []), (50, .ireturn, 1, [6], []), (51, .aload_n 0, 1, [], []), (52, .getfield 29, 3, [0, 2, 3, 312], []), (55, .getfield 175, 3, [3, 9, 3, 131], []), (58, .iload_n 1, 1, [], []), (59, .iaload, 1, [], []), (60, .aload_n 0, 1, [], []), (61, .getfield 29, 3, [0, 2, 3, 312], [])],
  [(64, .getfield 175, 3, [3, 9, 3, 131], []), (67, .iload_n 2, 1, [], []), (68, .iaload, 1, [], []), (69, .if_icmp .ne 12, 3, [81], []), (72, .aload_n 0, 1, [], []), (73, .getfield 15, 3, [0, 0, 3, 310], []), (76, .iconst 3, 1, [], []), (77, .invokevirtual 54, 3, [0, 1, 1, 7, 0, 862], [m_X10_fail])],
  [(80, .ireturn, 1, [6], []), (81, .aload_n 0, 1, [], []), (82, .getfield 29, 3, [0, 2, 3, 312], []), (85, .getfield 178, 3, [3, 10, 3, 133], []), (88, .iload_n 1, 1, [], []), (89, .iaload, 1, [], []), (90, .iload_n 2, 1, [], []), (91, .invokestatic 150, 3, [2, 2, 1, 0, 0, 4], [m_X11_isIn]), (94, .ifCond .eq 12, 3, [106], [])],
  [(97, .aload_n 0, 1, [], []), (98, .getfield 15, 3, [0, 0, 3, 310], []), (101, .iconst 4, 1, [], []), (102, .invokevirtual 54, 3, [0, 1, 1, 7, 0, 862], [m_X10_fail]), (105, .ireturn, 1, [6], []), (106, .aload_n 0, 1, [], []), (107, .getfield 29, 3, [0, 2, 3, 312], []), (110, .aload_n 0, 1, [], []), (111, .getfield 19, 3, [0, 1, 3, 311], [])],
  [(114, .getfield 181, 3, [6, 3, 3, 230], []), (117, .iload_n 1, 1, [], []), (118, .iaload, 1, [], []), (119, .invokevirtual 146, 3, [0, 1, 1, 3, 0, 920], [m_X5_talkersOf]), (122, .aload_n 0, 1, [], []), (123, .getfield 19, 3, [0, 1, 3, 311], []), (126, .getfield 181, 3, [6, 3, 3, 230], [])],
  [(129, .iload_n 2, 1, [], []), (130, .iaload, 1, [], []), (131, .invokestatic 150, 3, [2, 2, 1, 0, 0, 4], [m_X11_isIn]), (134, .ifCond .ne 12, 3, [146], []), (137, .aload_n 0, 1, [], []), (138, .getfield 15, 3, [0, 0, 3, 310], []), (141, .iconst 5, 1, [], []), (142, .invokevirtual 54, 3, [0, 1, 1, 7, 0, 862], [m_X10_fail])],
  [(145, .ireturn, 1, [6], []), (146, .aload_n 0, 1, [], []), (147, .getfield 15, 3, [0, 0, 3, 310], []), (150, .invokevirtual 62, 3, [0, 0, 0, 7, 0, 882], [m_X10_advance]), (153, .aload_n 0, 1, [], []), (154, .getfield 29, 3, [0, 2, 3, 312], []), (157, .iload_n 1, 1, [], []), (158, .iload_n 2, 1, [], []), (159, .invokevirtual 184, 3, [0, 2, 0, 3, 0, 960], [m_X5_addLink])],
  [(162, .iconst 1, 1, [], []), (163, .ireturn, 1, [6], [])]]
theorem k_X1_readLink : CdOk m_X1_readLink c_X1_readLink := ⟨by decide +kernel, allM_of ⟨o_X10_findName, ⟨o_X10_advance, ⟨o_X10_findName, ⟨o_X10_fail, ⟨o_X11_isIn, ⟨o_X10_fail, ⟨o_X5_talkersOf, ⟨o_X11_isIn, ⟨o_X10_fail, ⟨o_X10_advance, ⟨o_X5_addLink, trivial⟩⟩⟩⟩⟩⟩⟩⟩⟩⟩⟩⟩
def c_X5_addWave : Cd := [
  [(0, .aload_n 0, 1, [], []), (1, .getfield 61, 3, [3, 12, 0, 138], []), (4, .iconst 5, 1, [], []), (5, .if_icmp .ge 23, 3, [28], []), (8, .aload_n 0, 1, [], []), (9, .getfield 39, 3, [3, 7, 3, 121], []), (12, .aload_n 0, 1, [], []), (13, .getfield 61, 3, [3, 12, 0, 138], [])],
  [(16, .iconst 0, 1, [], []), (17, .iastore, 1, [], []), (18, .aload_n 0, 1, [], []), (19, .dup, 1, [], []), (20, .getfield 61, 3, [3, 12, 0, 138], []), (23, .iconst 1, 1, [], []), (24, .iadd, 1, [], []), (25, .putfield 61, 3, [3, 12, 0, 138], []), (28, .return_, 1, [], [])]]
theorem k_X5_addWave : CdOk m_X5_addWave c_X5_addWave := ⟨by decide +kernel, allM_of trivial⟩
def c_X5_addToWave : Cd := [
  [(0, .aload_n 0, 1, [], []), (1, .getfield 33, 3, [3, 5, 3, 117], []), (4, .iload_n 1, 1, [], []), (5, .iload_n 2, 1, [], []), (6, .iastore, 1, [], []), (7, .aload_n 0, 1, [], []), (8, .getfield 39, 3, [3, 7, 3, 121], []), (11, .iload_n 2, 1, [], []), (12, .dup2, 1, [], []), (13, .iaload, 1, [], []), (14, .aload_n 0, 1, [], []), (15, .getfield 36, 3, [3, 6, 3, 119], [])],
  [(18, .iload_n 1, 1, [], []), (19, .iaload, 1, [], []), (20, .ior, 1, [], []), (21, .iastore, 1, [], []), (22, .return_, 1, [], [])]]
theorem k_X5_addToWave : CdOk m_X5_addToWave c_X5_addToWave := ⟨by decide +kernel, allM_of trivial⟩
def c_X1_readPlaceOfWave : Cd := [
  [(0, .aload_n 0, 1, [], []), (1, .getfield 15, 3, [0, 0, 3, 310], []), (4, .aload_n 0, 1, [], []), (5, .getfield 29, 3, [0, 2, 3, 312], []), (8, .getfield 91, 3, [3, 4, 3, 115], []), (11, .invokevirtual 142, 3, [0, 1, 1, 7, 0, 916], [m_X10_findName]), (14, .istore_n 2, 1, [], []), (15, .iload_n 2, 1, [], [])],
  [(16, .iconst (-1), 1, [], []), (17, .if_icmp .ne 5, 3, [22], []), (20, .iconst 0, 1, [], []), (21, .ireturn, 1, [6], []), (22, .aload_n 0, 1, [], []), (23, .getfield 29, 3, [0, 2, 3, 312], []), (26, .getfield 193, 3, [3, 5, 3, 118], []), (29, .iload_n 2, 1, [], []), (30, .iaload, 1, [], []), (31, .iconst (-1), 1, [], [])],
  [(32, .if_icmp .eq 12, 3, [44], []), (35, .aload_n 0, 1, [], []), (36, .getfield 15, 3, [0, 0, 3, 310], []), (39, .iconst 4, 1, [], []), (40, .invokevirtual 54, 3, [0, 1, 1, 7, 0, 862], [m_X10_fail]), (43, .ireturn, 1, [6], []), (44, .aload_n 0, 1, [], []), (45, .getfield 15, 3, [0, 0, 3, 310], [])],
  [(48, .invokevirtual 62, 3, [0, 0, 0, 7, 0, 882], [m_X10_advance]), (51, .aload_n 0, 1, [], []), (52, .getfield 29, 3, [0, 2, 3, 312], []), (55, .iload_n 2, 1, [], []), (56, .iload_n 1, 1, [], []), (57, .invokevirtual 196, 3, [0, 2, 0, 3, 0, 976], [m_X5_addToWave]), (60, .iconst 1, 1, [], []), (61, .ireturn, 1, [6], [])]]
theorem k_X1_readPlaceOfWave : CdOk m_X1_readPlaceOfWave c_X1_readPlaceOfWave := ⟨by decide +kernel, allM_of ⟨o_X10_findName, ⟨o_X10_fail, ⟨o_X10_advance, ⟨o_X5_addToWave, trivial⟩⟩⟩⟩⟩
def c_X1_readWave : Cd := [
  [(0, .aload_n 0, 1, [], []), (1, .getfield 29, 3, [0, 2, 3, 312], []), (4, .getfield 97, 3, [3, 12, 0, 139], []), (7, .istore_n 1, 1, [], []), (8, .aload_n 0, 1, [], []), (9, .getfield 29, 3, [0, 2, 3, 312], []), (12, .invokevirtual 187, 3, [0, 0, 0, 3, 0, 968], [m_X5_addWave]), (15, .aload_n 0, 1, [], [])],
  [(16, .iload_n 1, 1, [], []), (17, .invokevirtual 190, 3, [0, 1, 1, 0, 0, 972], [m_X1_readPlaceOfWave]), (20, .istore_n 2, 1, [], []), (21, .iconst 0, 1, [], []), (22, .istore_n 3, 1, [], []), (23, .iload_n 3, 1, [], []), (24, .iconst 5, 1, [], []), (25, .if_icmp .ge 30, 3, [55], []), (28, .iload_n 2, 1, [], []), (29, .ifCond .eq 26, 3, [55], [])],
  [(32, .aload_n 0, 1, [], []), (33, .getfield 15, 3, [0, 0, 3, 310], []), (36, .getfield 41, 3, [7, 4, 0, 51], []), (39, .iconst 1, 1, [], []), (40, .if_icmp .ne 15, 3, [55], []), (43, .aload_n 0, 1, [], []), (44, .iload_n 1, 1, [], []), (45, .invokevirtual 190, 3, [0, 1, 1, 0, 0, 972], [m_X1_readPlaceOfWave])],
  [(48, .istore_n 2, 1, [], []), (49, .iinc 3 1, 3, [], []), (52, .goto (-29), 3, [23], []), (55, .iload_n 2, 1, [], []), (56, .ireturn, 1, [6], [])]]
theorem k_X1_readWave : CdOk m_X1_readWave c_X1_readWave := ⟨by decide +kernel, allM_of ⟨o_X5_addWave, ⟨o_X1_readPlaceOfWave, ⟨o_X1_readPlaceOfWave, trivial⟩⟩⟩⟩
def c_X1_readSetting : Cd := [
  [(0, .aload_n 0, 1, [], []), (1, .getfield 15, 3, [0, 0, 3, 310], []), (4, .aload_n 1, 1, [], []), (5, .getfield 199, 3, [20, 2, 0, 2169, 0], []), (8, .aload_n 1, 1, [], []), (9, .getfield 202, 3, [20, 3, 0, 2170, 0], []), (12, .invokevirtual 134, 3, [0, 2, 1, 7, 0, 900], [m_X10_takeNumber]), (15, .istore_n 2, 1, [], [])],
  [(16, .iload_n 2, 1, [], []), (17, .iconst (-1), 1, [], []), (18, .if_icmp .ne 5, 3, [23], []), (21, .iconst 0, 1, [], []), (22, .ireturn, 1, [6], []), (23, .aload_n 0, 1, [], []), (24, .dup, 1, [], []), (25, .getfield 9, 3, [0, 3, 0, 313], []), (28, .aload_n 1, 1, [], []), (29, .getfield 103, 3, [20, 1, 0, 2168, 0], [])],
  [(32, .ior, 1, [], []), (33, .putfield 9, 3, [0, 3, 0, 313], []), (36, .getstatic 72, 3, [0, 1082, 870], []), (39, .aload_n 1, 1, [], []), (40, .invokevirtual 78, 3, [20, 872], []), (43, .iaload, 1, [0], []), (44, .tableswitch 95 6 11 #[40, 51, 95, 62, 73, 84], 40, [139, 6, 84, 95, 139, 106, 117, 128], [])],
  [],
  [],
  [(84, .aload_n 0, 1, [], []), (85, .getfield 19, 3, [0, 1, 3, 311], []), (88, .iload_n 2, 1, [], []), (89, .putfield 205, 3, [6, 2, 0, 228], []), (92, .goto 55, 3, [147], []), (95, .aload_n 0, 1, [], [])],
  [(96, .getfield 29, 3, [0, 2, 3, 312], []), (99, .iload_n 2, 1, [], []), (100, .putfield 208, 3, [3, 13, 0, 144], []), (103, .goto 44, 3, [147], []), (106, .aload_n 0, 1, [], []), (107, .getfield 29, 3, [0, 2, 3, 312], []), (110, .iload_n 2, 1, [], []), (111, .putfield 211, 3, [3, 14, 0, 146], [])],
  [(114, .goto 33, 3, [147], []), (117, .aload_n 0, 1, [], []), (118, .getfield 29, 3, [0, 2, 3, 312], []), (121, .iload_n 2, 1, [], []), (122, .putfield 214, 3, [3, 15, 0, 149], []), (125, .goto 22, 3, [147], [])],
  [(128, .aload_n 0, 1, [], []), (129, .getfield 29, 3, [0, 2, 3, 312], []), (132, .iload_n 2, 1, [], []), (133, .putfield 217, 3, [3, 16, 0, 152], []), (136, .goto 11, 3, [147], []), (139, .aload_n 0, 1, [], []), (140, .getfield 29, 3, [0, 2, 3, 312], []), (143, .iload_n 2, 1, [], [])],
  [(144, .putfield 220, 3, [3, 17, 0, 155], []), (147, .iconst 1, 1, [], []), (148, .ireturn, 1, [6], [])]]
theorem k_X1_readSetting : CdOk m_X1_readSetting c_X1_readSetting := ⟨by decide +kernel, allM_of ⟨o_X10_takeNumber, trivial⟩⟩
def c_X1_readRest : Cd := [
  [(0, .getstatic 72, 3, [0, 1082, 870], []), (3, .aload_n 1, 1, [], []), (4, .invokevirtual 78, 3, [20, 872], []), (7, .iaload, 1, [0], []), (8, .tableswitch 78 1 8 #[48, 58, 63, 73, 68, 78, 78, 53], 48, [86, 1, 56, 66, 71, 81, 76, 86, 86, 61], [])],
  [],
  [],
  [(56, .aload_n 0, 1, [], []), (57, .invokevirtual 109, 3, [0, 0, 1, 0, 0, 887], [m_X1_readVersion]), (60, .ireturn, 1, [6], []), (61, .aload_n 0, 1, [], []), (62, .invokevirtual 112, 3, [0, 0, 1, 0, 0, 912], [m_X1_readTalks])],
  [(65, .ireturn, 1, [6], []), (66, .aload_n 0, 1, [], []), (67, .invokevirtual 115, 3, [0, 0, 1, 0, 0, 926], [m_X1_readPlace]), (70, .ireturn, 1, [6], []), (71, .aload_n 0, 1, [], []), (72, .invokevirtual 118, 3, [0, 0, 1, 0, 0, 934], [m_X1_readMember]), (75, .ireturn, 1, [6], []), (76, .aload_n 0, 1, [], []), (77, .invokevirtual 121, 3, [0, 0, 1, 0, 0, 956], [m_X1_readLink])],
  [(80, .ireturn, 1, [6], []), (81, .aload_n 0, 1, [], []), (82, .invokevirtual 124, 3, [0, 0, 1, 0, 0, 964], [m_X1_readWave]), (85, .ireturn, 1, [6], []), (86, .aload_n 0, 1, [], []), (87, .aload_n 1, 1, [], []), (88, .invokevirtual 127, 3, [0, 1, 1, 0, 0, 980], [m_X1_readSetting]), (91, .ireturn, 1, [6], [])]]
theorem k_X1_readRest : CdOk m_X1_readRest c_X1_readRest := ⟨by decide +kernel, allM_of ⟨o_X1_readVersion, ⟨o_X1_readTalks, ⟨o_X1_readPlace, ⟨o_X1_readMember, ⟨o_X1_readLink, ⟨o_X1_readWave, ⟨o_X1_readSetting, trivial⟩⟩⟩⟩⟩⟩⟩⟩
def c_X10_takeSign : Cd := [
  [(0, .aload_n 0, 1, [], []), (1, .getfield 25, 3, [7, 4, 0, 49], []), (4, .iload_n 1, 1, [], []), (5, .if_icmp .eq 9, 3, [14], []), (8, .aload_n 0, 1, [], []), (9, .iconst 1, 1, [], []), (10, .invokevirtual 59, 3, [0, 1, 1, 7, 0, 895], [m_X10_fail]), (13, .ireturn, 1, [6], []), (14, .aload_n 0, 1, [], []), (15, .invokevirtual 41, 3, [0, 0, 0, 7, 0, 789], [m_X10_advance])],
  [(18, .iconst 1, 1, [], []), (19, .ireturn, 1, [6], [])]]
theorem k_X10_takeSign : CdOk m_X10_takeSign c_X10_takeSign := ⟨by decide +kernel, allM_of ⟨o_X10_fail, ⟨o_X10_advance, trivial⟩⟩⟩
