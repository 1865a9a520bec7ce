/-! ===== tables of the code of the law and of the JDK that it runs, 1 ===== -/
theorem moq0 {M : MI} (h : MOK M) (e : M.sk = 0) : MOQ M := by
  obtain ⟨h1, h2, h3, h4⟩ := h
  rw [e] at h4
  refine ⟨h1, h2, h3, h4.1, ?_⟩
  rw [e]
  exact h4.2
def allQ : List MI → Prop
  | [] => True
  | M :: r => MOQ M ∧ allQ r
theorem allQ_of {l : List MI} (h : allQ l) : ∀ M' ∈ l, MOQ M' := by
  induction l with
  | nil => intro M' hm; cases hm
  | cons a r ih =>
    intro M' hm
    rcases List.mem_cons.mp hm with rfl | hm
    · exact h.1
    · exact ih h.2 M' hm
def mq_J0_coder_7d493 : MI := (yJ0_coder_7d493, cJ0_coder_7d493, 1, some .byte, 0, 0, 0, [], 0)
def mq_J0_length_8abf5 : MI := (yJ0_length_8abf5, cJ0_length_8abf5, 1, some .int, 1, 20, 0, [], 0)
def mq_J0_isLatin1_aae02 : MI := (yJ0_isLatin1_aae02, cJ0_isLatin1_aae02, 1, some .boolean, 0, 0, 0, [], 0)
def mq_J3_checkIndex_8e157 : MI := (yJ3_checkIndex_8e157, cJ3_checkIndex_8e157, 3, some .int, 0, 0, 0, [], 1)
def mq_J0_checkIndex_df160 : MI := (yJ0_checkIndex_df160, cJ0_checkIndex_df160, 2, none, 1, 22, 0, [], 1)
def mq_J1_charAt_3b067 : MI := (yJ1_charAt_3b067, cJ1_charAt_3b067, 2, some .char, 2, 43, 0, [], 1)
def mq_J0_charAt_5068e : MI := (yJ0_charAt_5068e, cJ0_charAt_5068e, 2, some .char, 3, 64, 0, [], 0)
def mq_J0_isEmpty_aae02 : MI := (yJ0_isEmpty_aae02, cJ0_isEmpty_aae02, 1, some .boolean, 0, 0, 0, [], 0)
def mq_L_feeds : MI := (yL_feeds, cL_feeds, 6, some .boolean, 7, 114, 60, [], 5)
def mq_X13_hasPlan : MI := (yX13_hasPlan, cX13_hasPlan, 1, some .boolean, 0, 0, 0, [], 0)
def mq_Jx4a65c_size_8abf5 : MI := (yJx4a65c_size_8abf5, cJx4a65c_size_8abf5, 1, some .int, 0, 0, 0, [], 4)
def mq_J15_checkIndex_7cf53 : MI := (yJ15_checkIndex_7cf53, cJ15_checkIndex_7cf53, 2, some .int, 1, 22, 0, [], 1)
def mq_Jx4a65c_elementData_915e3 : MI := (yJx4a65c_elementData_915e3, cJx4a65c_elementData_915e3, 2, some (.object "java/lang/Object"), 0, 0, 0, [], 0)
def mq_Jx4a65c_get_915e3 : MI := (yJx4a65c_get_915e3, cJx4a65c_get_915e3, 2, some (.object "java/lang/Object"), 2, 43, 0, [], 4)
def mq_X13_waveAt : MI := (yX13_waveAt, cX13_waveAt, 2, some .int, 3, 64, 0, [], 0)
def mq_L_alike : MI := (yL_alike, cL_alike, 6, some .boolean, 8, 132, 150, [], 5)
def mq_L_cell : MI := (yL_cell, cL_cell, 2, some .int, 0, 0, 0, [], 1)
def mq_L_pick : MI := (yL_pick, cL_pick, 3, some .int, 1, 21, 0, [], 1)
def mq_X13_isGoing : MI := (yX13_isGoing, cX13_isGoing, 1, some .boolean, 0, 0, 0, [], 0)
def mq_X12_isUp : MI := (yX12_isUp, cX12_isUp, 1, some .boolean, 0, 0, 0, [], 0)
def mq_X12_coming : MI := (yX12_coming, cX12_coming, 1, some .int, 1, 20, 0, [], 0)
def mq_J8_newLength_cabcc : MI := (yJ8_newLength_cabcc, cJ8_newLength_cabcc, 4, some .int, 1, 60, 0, [], 1)
def mq_J7_copyOf_6403c : MI := (yJ7_copyOf_6403c, cJ7_copyOf_6403c, 4, some (.array (.object "java/lang/Object")), 1, 60, 151, [], 1)
def mq_J7_copyOf_1904c : MI := (yJ7_copyOf_1904c, cJ7_copyOf_1904c, 2, some (.array (.object "java/lang/Object")), 2, 83, 151, [], 1)
theorem oq_J0_coder_7d493 : MOQ mq_J0_coder_7d493 := ⟨(tbG_at (p := 440) (by decide +kernel)), (tbG_at (p := 7) (by decide +kernel)), by decide +kernel, rfl, ⟨(tbG_at (p := 438) (by decide +kernel)), (tbG_at (p := 439) (by decide +kernel))⟩⟩
theorem oq_J0_length_8abf5 : MOQ mq_J0_length_8abf5 := ⟨(tbG_at (p := 436) (by decide +kernel)), (tbG_at (p := 7) (by decide +kernel)), by decide +kernel, rfl, ⟨(tbG_at (p := 434) (by decide +kernel)), (tbG_at (p := 435) (by decide +kernel))⟩⟩
theorem oq_J0_isLatin1_aae02 : MOQ mq_J0_isLatin1_aae02 := ⟨(tbG_at (p := 450) (by decide +kernel)), (tbG_at (p := 7) (by decide +kernel)), by decide +kernel, rfl, ⟨(tbG_at (p := 448) (by decide +kernel)), (tbG_at (p := 449) (by decide +kernel))⟩⟩
theorem oq_J3_checkIndex_8e157 : MOQ mq_J3_checkIndex_8e157 := ⟨(tbG_at (p := 461) (by decide +kernel)), (tbG_at (p := 13) (by decide +kernel)), by decide +kernel, rfl, (tbG_at (p := 460) (by decide +kernel))⟩
theorem oq_J0_checkIndex_df160 : MOQ mq_J0_checkIndex_df160 := ⟨(tbG_at (p := 456) (by decide +kernel)), (tbG_at (p := 7) (by decide +kernel)), by decide +kernel, rfl, (tbG_at (p := 455) (by decide +kernel))⟩
theorem oq_J1_charAt_3b067 : MOQ mq_J1_charAt_3b067 := ⟨(tbG_at (p := 453) (by decide +kernel)), (tbG_at (p := 14) (by decide +kernel)), by decide +kernel, rfl, (tbG_at (p := 452) (by decide +kernel))⟩
theorem oq_J0_charAt_5068e : MOQ mq_J0_charAt_5068e := ⟨(tbG_at (p := 446) (by decide +kernel)), (tbG_at (p := 7) (by decide +kernel)), by decide +kernel, rfl, ⟨(tbG_at (p := 444) (by decide +kernel)), (tbG_at (p := 445) (by decide +kernel))⟩⟩
theorem oq_J0_isEmpty_aae02 : MOQ mq_J0_isEmpty_aae02 := ⟨(tbG_at (p := 1343) (by decide +kernel)), (tbG_at (p := 7) (by decide +kernel)), by decide +kernel, rfl, ⟨(tbG_at (p := 1341) (by decide +kernel)), (tbG_at (p := 1342) (by decide +kernel))⟩⟩
theorem oq_L_feeds : MOQ mq_L_feeds := ⟨(tbG_at (p := 1314) (by decide +kernel)), (tbG_at (p := 0) (by decide +kernel)), by decide +kernel, rfl, (tbG_at (p := 1313) (by decide +kernel))⟩
theorem oq_X13_hasPlan : MOQ mq_X13_hasPlan := ⟨(tbG_at (p := 1374) (by decide +kernel)), (tbG_at (p := 1) (by decide +kernel)), by decide +kernel, rfl, ⟨(tbG_at (p := 1372) (by decide +kernel)), (tbG_at (p := 1373) (by decide +kernel))⟩⟩
theorem oq_Jx4a65c_size_8abf5 : MOQ mq_Jx4a65c_size_8abf5 := ⟨(tbG_at (p := 1223) (by decide +kernel)), (tbG_at (p := 4) (by decide +kernel)), by decide +kernel, rfl, (tbG_at (p := 1221) (by decide +kernel))⟩
theorem oq_J15_checkIndex_7cf53 : MOQ mq_J15_checkIndex_7cf53 := ⟨(tbG_at (p := 1296) (by decide +kernel)), (tbG_at (p := 19) (by decide +kernel)), by decide +kernel, rfl, (tbG_at (p := 1295) (by decide +kernel))⟩
theorem oq_Jx4a65c_elementData_915e3 : MOQ mq_Jx4a65c_elementData_915e3 := ⟨(tbG_at (p := 1301) (by decide +kernel)), (tbG_at (p := 4) (by decide +kernel)), by decide +kernel, rfl, ⟨(tbG_at (p := 1299) (by decide +kernel)), (tbG_at (p := 1300) (by decide +kernel))⟩⟩
theorem oq_Jx4a65c_get_915e3 : MOQ mq_Jx4a65c_get_915e3 := ⟨(tbG_at (p := 1293) (by decide +kernel)), (tbG_at (p := 4) (by decide +kernel)), by decide +kernel, rfl, (tbG_at (p := 1291) (by decide +kernel))⟩
theorem oq_X13_waveAt : MOQ mq_X13_waveAt := ⟨(tbG_at (p := 1383) (by decide +kernel)), (tbG_at (p := 1) (by decide +kernel)), by decide +kernel, rfl, ⟨(tbG_at (p := 1381) (by decide +kernel)), (tbG_at (p := 1382) (by decide +kernel))⟩⟩
theorem oq_L_alike : MOQ mq_L_alike := ⟨(tbG_at (p := 1350) (by decide +kernel)), (tbG_at (p := 0) (by decide +kernel)), by decide +kernel, rfl, (tbG_at (p := 1349) (by decide +kernel))⟩
theorem oq_L_cell : MOQ mq_L_cell := ⟨(tbG_at (p := 901) (by decide +kernel)), (tbG_at (p := 0) (by decide +kernel)), by decide +kernel, rfl, (tbG_at (p := 900) (by decide +kernel))⟩
theorem oq_L_pick : MOQ mq_L_pick := ⟨(tbG_at (p := 898) (by decide +kernel)), (tbG_at (p := 0) (by decide +kernel)), by decide +kernel, rfl, (tbG_at (p := 897) (by decide +kernel))⟩
theorem oq_X13_isGoing : MOQ mq_X13_isGoing := ⟨(tbG_at (p := 1431) (by decide +kernel)), (tbG_at (p := 1) (by decide +kernel)), by decide +kernel, rfl, ⟨(tbG_at (p := 1429) (by decide +kernel)), (tbG_at (p := 1430) (by decide +kernel))⟩⟩
theorem oq_X12_isUp : MOQ mq_X12_isUp := ⟨(tbG_at (p := 1493) (by decide +kernel)), (tbG_at (p := 17) (by decide +kernel)), by decide +kernel, rfl, ⟨(tbG_at (p := 1491) (by decide +kernel)), (tbG_at (p := 1492) (by decide +kernel))⟩⟩
theorem oq_X12_coming : MOQ mq_X12_coming := ⟨(tbG_at (p := 1489) (by decide +kernel)), (tbG_at (p := 17) (by decide +kernel)), by decide +kernel, rfl, ⟨(tbG_at (p := 1487) (by decide +kernel)), (tbG_at (p := 1488) (by decide +kernel))⟩⟩
theorem oq_J8_newLength_cabcc : MOQ mq_J8_newLength_cabcc := ⟨(tbG_at (p := 926) (by decide +kernel)), (tbG_at (p := 9) (by decide +kernel)), by decide +kernel, rfl, (tbG_at (p := 925) (by decide +kernel))⟩
theorem oq_J7_copyOf_6403c : MOQ mq_J7_copyOf_6403c := ⟨(tbG_at (p := 1275) (by decide +kernel)), (tbG_at (p := 11) (by decide +kernel)), by decide +kernel, rfl, (tbG_at (p := 1274) (by decide +kernel))⟩
theorem oq_J7_copyOf_1904c : MOQ mq_J7_copyOf_1904c := ⟨(tbG_at (p := 1249) (by decide +kernel)), (tbG_at (p := 11) (by decide +kernel)), by decide +kernel, rfl, (tbG_at (p := 1248) (by decide +kernel))⟩
def cq_J0_coder_7d493 : Cd := [
  [(0, .getstatic 38, 3, [1, 0, 441], []), (3, .ifCond .eq 10, 3, [13], []), (6, .aload_n 0, 1, [], []), (7, .getfield 15, 3, [11, 1, 4, 1095, 0], []), (10, .goto 4, 3, [14], []), (13, .iconst 1, 1, [], []), (14, .ireturn, 1, [7], [])]]
theorem kq_J0_coder_7d493 : CdQ mq_J0_coder_7d493 cq_J0_coder_7d493 := ⟨by decide +kernel, allQ_of trivial⟩
def cq_J0_length_8abf5 : Cd := [
  [(0, .aload_n 0, 1, [], []), (1, .getfield 9, 3, [11, 0, 3, 1094, 0], []), (4, .arraylength, 1, [], []), (5, .aload_n 0, 1, [], []), (6, .invokevirtual 335, 3, [0, 0, 1, 3, 0, 437], [mq_J0_coder_7d493]), (9, .ishr, 1, [], []), (10, .ireturn, 1, [1], [])]]
theorem kq_J0_length_8abf5 : CdQ mq_J0_length_8abf5 cq_J0_length_8abf5 := ⟨by decide +kernel, allQ_of ⟨oq_J0_coder_7d493, trivial⟩⟩
def cq_J0_isLatin1_aae02 : Cd := [
  [(0, .getstatic 38, 3, [1, 0, 441], []), (3, .ifCond .eq 14, 3, [17], []), (6, .aload_n 0, 1, [], []), (7, .getfield 15, 3, [11, 1, 4, 1095, 0], []), (10, .ifCond .ne 7, 3, [17], []), (13, .iconst 1, 1, [], []), (14, .goto 4, 3, [18], [])],
  [(17, .iconst 0, 1, [], []), (18, .ireturn, 1, [6], [])]]
theorem kq_J0_isLatin1_aae02 : CdQ mq_J0_isLatin1_aae02 cq_J0_isLatin1_aae02 := ⟨by decide +kernel, allQ_of trivial⟩
def cq_J3_checkIndex_8e157 : Cd := [
  [(0, .iload_n 0, 1, [], []), (1, .ifCond .lt 8, 3, [9], []), (4, .iload_n 0, 1, [], []), (5, .iload_n 1, 1, [], []), (6, .if_icmp .lt 10, 3, [16], []), (9, .aload_n 2, 1, [], []), (10, .iload_n 0, 1, [], []), (11, .iload_n 1, 1, [], [])],
  [(16, .iload_n 0, 1, [], []), (17, .ireturn, 1, [1], [])]]
theorem kq_J3_checkIndex_8e157 : CdQ mq_J3_checkIndex_8e157 cq_J3_checkIndex_8e157 := ⟨by decide +kernel, allQ_of trivial⟩
def cq_J0_checkIndex_df160 : Cd := [
  [(0, .iload_n 0, 1, [], []), (1, .iload_n 1, 1, [], []), (2, .getstatic 1053, 3, [2, 0, 457], []), (5, .invokestatic 1059, 3, [1, 3, 1, 0, 0, 459], [mq_J3_checkIndex_8e157]), (8, .pop, 1, [], []), (9, .return_, 1, [], [])]]
theorem kq_J0_checkIndex_df160 : CdQ mq_J0_checkIndex_df160 cq_J0_checkIndex_df160 := ⟨by decide +kernel, allQ_of ⟨oq_J3_checkIndex_8e157, trivial⟩⟩
def cq_J1_charAt_3b067 : Cd := [
  [(0, .iload_n 1, 1, [], []), (1, .aload_n 0, 1, [], []), (2, .arraylength, 1, [], []), (3, .invokestatic 9, 3, [1, 2, 0, 0, 0, 454], [mq_J0_checkIndex_df160]), (6, .aload_n 0, 1, [], []), (7, .iload_n 1, 1, [], []), (8, .baload, 1, [1], []), (9, .sipush 255, 3, [], []), (12, .iand, 1, [], []), (13, .i2c, 1, [], []), (14, .ireturn, 1, [8], [])]]
theorem kq_J1_charAt_3b067 : CdQ mq_J1_charAt_3b067 cq_J1_charAt_3b067 := ⟨by decide +kernel, allQ_of ⟨oq_J0_checkIndex_df160, trivial⟩⟩
def cq_J0_charAt_5068e : Cd := [
  [(0, .aload_n 0, 1, [], []), (1, .invokevirtual 492, 3, [0, 0, 1, 3, 0, 447], [mq_J0_isLatin1_aae02]), (4, .ifCond .eq 12, 3, [16], []), (7, .aload_n 0, 1, [], []), (8, .getfield 9, 3, [11, 0, 3, 1094, 0], []), (11, .iload_n 1, 1, [], []), (12, .invokestatic 495, 3, [1, 2, 1, 0, 0, 451], [mq_J1_charAt_3b067]), (15, .ireturn, 1, [8], [])],
  [(16, .aload_n 0, 1, [], []), (17, .getfield 9, 3, [11, 0, 3, 1094, 0], []), (20, .iload_n 1, 1, [], [])]]
theorem kq_J0_charAt_5068e : CdQ mq_J0_charAt_5068e cq_J0_charAt_5068e := ⟨by decide +kernel, allQ_of ⟨oq_J0_isLatin1_aae02, ⟨oq_J1_charAt_3b067, trivial⟩⟩⟩
def cq_J0_isEmpty_aae02 : Cd := [
  [(0, .aload_n 0, 1, [], []), (1, .getfield 9, 3, [11, 0, 3, 1094, 0], []), (4, .arraylength, 1, [], []), (5, .ifCond .ne 7, 3, [12], []), (8, .iconst 1, 1, [], []), (9, .goto 4, 3, [13], []), (12, .iconst 0, 1, [], []), (13, .ireturn, 1, [6], [])]]
theorem kq_J0_isEmpty_aae02 : CdQ mq_J0_isEmpty_aae02 cq_J0_isEmpty_aae02 := ⟨by decide +kernel, allQ_of trivial⟩
def cq_L_feeds : Cd := [
  [(0, .iconst 0, 1, [], []), (1, .istore_n 2, 1, [], []), (2, .iconst 0, 1, [], []), (3, .istore_n 3, 1, [], []), (4, .iload_n 3, 1, [], []), (5, .aload_n 1, 1, [], []), (6, .invokevirtual 15, 3, [0, 0, 1, 3, 0, 1315], [mq_J0_length_8abf5]), (9, .if_icmp .ge 97, 3, [106], []), (12, .iconst 5, 1, [], []), (13, .newarray .int, 2, [0, 196], []), (15, .astore 4, 2, [], [])],
  [(17, .iconst 0, 1, [], []), (18, .istore 5, 2, [], []), (20, .iload 5, 2, [], []), (22, .bipush 20, 2, [], []), (24, .if_icmp .ge 51, 3, [75], []), (27, .aload 4, 2, [], []), (29, .iload 5, 2, [], []), (31, .iconst 4, 1, [], [])],
  [(32, .idiv, 1, [], []), (33, .aload 4, 2, [], []), (35, .iload 5, 2, [], []), (37, .iconst 4, 1, [], []), (38, .idiv, 1, [], []), (39, .iaload, 1, [], []), (40, .bipush 8, 2, [], []), (42, .ishl, 1, [], []), (43, .iload_n 3, 1, [], []), (44, .iload 5, 2, [], []), (46, .iadd, 1, [], []), (47, .aload_n 1, 1, [], [])],
  [(48, .invokevirtual 15, 3, [0, 0, 1, 3, 0, 1315], [mq_J0_length_8abf5]), (51, .if_icmp .ge 14, 3, [65], []), (54, .aload_n 1, 1, [], []), (55, .iload_n 3, 1, [], []), (56, .iload 5, 2, [], []), (58, .iadd, 1, [], []), (59, .invokevirtual 21, 3, [0, 1, 1, 3, 0, 1316], [mq_J0_charAt_5068e]), (62, .goto 5, 3, [67], [])],
  [(65, .bipush 32, 2, [], []), (67, .ior, 1, [], []), (68, .iastore, 1, [], []), (69, .iinc 5 1, 3, [], []), (72, .goto (-52), 3, [20], []), (75, .aload_n 0, 1, [], []), (76, .aload 4, 2, [], []), (78, .iconst 0, 1, [], []), (79, .iaload, 1, [], [])],
  [(80, .aload 4, 2, [], []), (82, .iconst 1, 1, [], []), (83, .iaload, 1, [], []), (84, .aload 4, 2, [], []), (86, .iconst 2, 1, [], []), (87, .iaload, 1, [], []), (88, .aload 4, 2, [], []), (90, .iconst 3, 1, [], []), (91, .iaload, 1, [], []), (92, .aload 4, 2, [], []), (94, .iconst 4, 1, [], []), (95, .iaload, 1, [], [])],
  [(96, .invokevirtual 25, 3, [9, 5, 1, 0, 1, 1317], [m_X11_feed]), (99, .istore_n 2, 1, [], []), (100, .iinc 3 20, 3, [], []), (103, .goto (-99), 3, [4], []), (106, .aload_n 1, 1, [], []), (107, .invokevirtual 31, 3, [0, 0, 1, 3, 0, 1340], [mq_J0_isEmpty_aae02]), (110, .ifCond .ne 26, 3, [136], [])],
  [(113, .iload_n 2, 1, [], []), (114, .aload_n 1, 1, [], []), (115, .invokevirtual 15, 3, [0, 0, 1, 3, 0, 1315], [mq_J0_length_8abf5]), (118, .if_icmp .lt 22, 3, [140], []), (121, .aload_n 0, 1, [], []), (122, .aload_n 1, 1, [], []), (123, .invokevirtual 15, 3, [0, 0, 1, 3, 0, 1315], [mq_J0_length_8abf5]), (126, .invokevirtual 35, 3, [9, 1, 1, 0, 1, 1344], [m_X11_truncate])],
  [(129, .aload_n 1, 1, [], []), (130, .invokevirtual 15, 3, [0, 0, 1, 3, 0, 1315], [mq_J0_length_8abf5]), (133, .if_icmp .ne 7, 3, [140], []), (136, .iconst 1, 1, [], []), (137, .goto 4, 3, [141], []), (140, .iconst 0, 1, [], []), (141, .ireturn, 1, [6], [])]]
theorem kq_L_feeds : CdQ mq_L_feeds cq_L_feeds := ⟨by decide +kernel, allQ_of ⟨oq_J0_length_8abf5, ⟨oq_J0_length_8abf5, ⟨oq_J0_charAt_5068e, ⟨(moq0 o_X11_feed rfl), ⟨oq_J0_isEmpty_aae02, ⟨oq_J0_length_8abf5, ⟨oq_J0_length_8abf5, ⟨(moq0 o_X11_truncate rfl), ⟨oq_J0_length_8abf5, trivial⟩⟩⟩⟩⟩⟩⟩⟩⟩⟩
def cq_X13_hasPlan : Cd := [
  [(0, .aload_n 0, 1, [], []), (1, .getfield 223, 3, [10, 8, 0, 774, 0], []), (4, .ifCond .le 15, 3, [19], []), (7, .aload_n 0, 1, [], []), (8, .getfield 223, 3, [10, 8, 0, 774, 0], []), (11, .iconst 4, 1, [], []), (12, .if_icmp .ge 7, 3, [19], []), (15, .iconst 1, 1, [], [])],
  [(16, .goto 4, 3, [20], []), (19, .iconst 0, 1, [], []), (20, .ireturn, 1, [6], [])]]
theorem kq_X13_hasPlan : CdQ mq_X13_hasPlan cq_X13_hasPlan := ⟨by decide +kernel, allQ_of trivial⟩
def cq_Jx4a65c_size_8abf5 : Cd := [
  [(0, .aload_n 0, 1, [], []), (1, .getfield 48, 3, [13, 2, 0, 749, 0], []), (4, .ireturn, 1, [1], [])]]
theorem kq_Jx4a65c_size_8abf5 : CdQ mq_Jx4a65c_size_8abf5 cq_Jx4a65c_size_8abf5 := ⟨by decide +kernel, allQ_of trivial⟩
def cq_J15_checkIndex_7cf53 : Cd := [
  [(0, .iload_n 0, 1, [], []), (1, .iload_n 1, 1, [], []), (2, .aconst_null, 1, [], []), (3, .invokestatic 105, 3, [1, 3, 1, 0, 0, 1297], [mq_J3_checkIndex_8e157]), (6, .ireturn, 1, [1], [])]]
theorem kq_J15_checkIndex_7cf53 : CdQ mq_J15_checkIndex_7cf53 cq_J15_checkIndex_7cf53 := ⟨by decide +kernel, allQ_of ⟨oq_J3_checkIndex_8e157, trivial⟩⟩
def cq_Jx4a65c_elementData_915e3 : Cd := [
  [(0, .aload_n 0, 1, [], []), (1, .getfield 9, 3, [13, 1, 3, 746, 0], []), (4, .iload_n 1, 1, [], []), (5, .aaload, 1, [7], []), (6, .areturn, 1, [], [])]]
theorem kq_Jx4a65c_elementData_915e3 : CdQ mq_Jx4a65c_elementData_915e3 cq_Jx4a65c_elementData_915e3 := ⟨by decide +kernel, allQ_of trivial⟩
def cq_Jx4a65c_get_915e3 : Cd := [
  [(0, .iload_n 1, 1, [], []), (1, .aload_n 0, 1, [], []), (2, .getfield 48, 3, [13, 2, 0, 749, 0], []), (5, .invokestatic 118, 3, [1, 2, 1, 0, 0, 1294], [mq_J15_checkIndex_7cf53]), (8, .pop, 1, [], []), (9, .aload_n 0, 1, [], []), (10, .iload_n 1, 1, [], []), (11, .invokevirtual 123, 3, [0, 1, 6, 5, 0, 1298], [mq_Jx4a65c_elementData_915e3]), (14, .areturn, 1, [], [])]]
theorem kq_Jx4a65c_get_915e3 : CdQ mq_Jx4a65c_get_915e3 cq_Jx4a65c_get_915e3 := ⟨by decide +kernel, allQ_of ⟨oq_J15_checkIndex_7cf53, ⟨oq_Jx4a65c_elementData_915e3, trivial⟩⟩⟩
def cq_X13_waveAt : Cd := [
  [(0, .aload_n 0, 1, [], []), (1, .getfield 35, 3, [10, 20, 3, 794, 0], []), (4, .aload_n 0, 1, [], []), (5, .getfield 49, 3, [10, 23, 3, 797, 0], []), (8, .iload_n 1, 1, [], []), (9, .invokeinterface 206 2, 5, [7, 1, 6, 5, 0, 1286, 5, 1289], [mq_Jx4a65c_get_915e3]), (14, .checkcast 155, 3, [0, 1118], [])],
  [(17, .getfield 158, 3, [9, 0, 0, 1125, 0], []), (20, .iaload, 1, [], []), (21, .ireturn, 1, [1], [])]]
theorem kq_X13_waveAt : CdQ mq_X13_waveAt cq_X13_waveAt := ⟨by decide +kernel, allQ_of ⟨oq_Jx4a65c_get_915e3, trivial⟩⟩
def cq_L_alike : Cd := [
  [(0, .aload_n 0, 1, [], []), (1, .bipush 11, 2, [], []), (3, .invokevirtual 39, 3, [9, 1, 1, 0, 1, 1351], [m_X11_setting]), (6, .aload_n 1, 1, [], []), (7, .getfield 42, 3, [10, 6, 0, 770, 0], []), (10, .if_icmp .ne 96, 3, [106], []), (13, .aload_n 0, 1, [], []), (14, .iconst 5, 1, [], []), (15, .invokevirtual 39, 3, [9, 1, 1, 0, 1, 1351], [m_X11_setting])],
  [(18, .aload_n 1, 1, [], []), (19, .getfield 48, 3, [10, 0, 0, 764, 0], []), (22, .if_icmp .ne 84, 3, [106], []), (25, .aload_n 0, 1, [], []), (26, .iconst 0, 1, [], []), (27, .invokevirtual 51, 3, [9, 1, 1, 0, 1, 1359], [m_X11_plan]), (30, .aload_n 1, 1, [], []), (31, .getfield 54, 3, [10, 8, 0, 773, 0], [])],
  [(34, .if_icmp .ne 72, 3, [106], []), (37, .aload_n 0, 1, [], []), (38, .iconst 1, 1, [], []), (39, .invokevirtual 51, 3, [9, 1, 1, 0, 1, 1359], [m_X11_plan]), (42, .aload_n 1, 1, [], []), (43, .invokevirtual 57, 3, [0, 0, 1, 2, 0, 1371], [mq_X13_hasPlan]), (46, .ifCond .eq 10, 3, [56], [])],
  [(49, .aload_n 1, 1, [], []), (50, .getfield 60, 3, [10, 9, 0, 775, 0], []), (53, .goto 4, 3, [57], []), (56, .iconst (-1), 1, [], []), (57, .if_icmp .ne 49, 3, [106], []), (60, .aload_n 0, 1, [], []), (61, .iconst 2, 1, [], []), (62, .invokevirtual 51, 3, [9, 1, 1, 0, 1, 1359], [m_X11_plan])],
  [(65, .aload_n 1, 1, [], []), (66, .invokevirtual 57, 3, [0, 0, 1, 2, 0, 1371], [mq_X13_hasPlan]), (69, .ifCond .eq 10, 3, [79], []), (72, .aload_n 1, 1, [], []), (73, .getfield 63, 3, [10, 10, 0, 777, 0], []), (76, .goto 4, 3, [80], []), (79, .iconst (-1), 1, [], [])],
  [(80, .if_icmp .ne 26, 3, [106], []), (83, .aload_n 0, 1, [], []), (84, .iconst 3, 1, [], []), (85, .invokevirtual 51, 3, [9, 1, 1, 0, 1, 1359], [m_X11_plan]), (88, .aload_n 1, 1, [], []), (89, .invokevirtual 57, 3, [0, 0, 1, 2, 0, 1371], [mq_X13_hasPlan]), (92, .ifCond .eq 10, 3, [102], []), (95, .aload_n 1, 1, [], [])],
  [(96, .getfield 66, 3, [10, 11, 0, 779, 0], []), (99, .goto 4, 3, [103], []), (102, .iconst (-1), 1, [], []), (103, .if_icmp .eq 5, 3, [108], []), (106, .iconst 0, 1, [], []), (107, .ireturn, 1, [6], []), (108, .aload_n 0, 1, [], []), (109, .iconst 4, 1, [], []), (110, .invokevirtual 51, 3, [9, 1, 1, 0, 1, 1359], [m_X11_plan])],
  [(113, .aload_n 1, 1, [], []), (114, .getfield 54, 3, [10, 8, 0, 773, 0], []), (117, .iconst 2, 1, [], []), (118, .if_icmp .eq 19, 3, [137], []), (121, .aload_n 1, 1, [], []), (122, .getfield 54, 3, [10, 8, 0, 773, 0], []), (125, .iconst 3, 1, [], []), (126, .if_icmp .ne 18, 3, [144], [])],
  [(129, .aload_n 1, 1, [], []), (130, .getfield 69, 3, [10, 13, 0, 783, 0], []), (133, .iconst 2, 1, [], []), (134, .if_icmp .ne 10, 3, [144], []), (137, .aload_n 1, 1, [], []), (138, .getfield 72, 3, [10, 12, 0, 781, 0], []), (141, .goto 4, 3, [145], [])],
  [(144, .iconst (-1), 1, [], []), (145, .if_icmp .eq 5, 3, [150], []), (148, .iconst 0, 1, [], []), (149, .ireturn, 1, [6], []), (150, .iconst 0, 1, [], []), (151, .istore_n 2, 1, [], []), (152, .iload_n 2, 1, [], []), (153, .aload_n 1, 1, [], []), (154, .getfield 75, 3, [10, 23, 3, 798, 0], []), (157, .invokeinterface 79 1, 5, [7, 0, 1, 5, 0, 1376, 3, 1219], [mq_Jx4a65c_size_8abf5])],
  [(162, .if_icmp .ge 121, 3, [283], []), (165, .aload_n 1, 1, [], []), (166, .getfield 75, 3, [10, 23, 3, 798, 0], []), (169, .iload_n 2, 1, [], []), (170, .invokeinterface 84 2, 5, [7, 1, 6, 5, 0, 1378, 5, 1289], [mq_Jx4a65c_get_915e3]), (175, .checkcast 88, 3, [0, 1379], [])],
  [(178, .astore_n 3, 1, [], []), (179, .bipush 7, 2, [], []), (181, .newarray .int, 2, [0, 196], []), (183, .dup, 1, [], []), (184, .iconst 0, 1, [], []), (185, .aload_n 3, 1, [], []), (186, .getfield 90, 3, [9, 0, 0, 1124, 0], []), (189, .iastore, 1, [], []), (190, .dup, 1, [], []), (191, .iconst 1, 1, [], [])],
  [(192, .aload_n 3, 1, [], []), (193, .getfield 93, 3, [9, 1, 0, 1127, 0], []), (196, .iastore, 1, [], []), (197, .dup, 1, [], []), (198, .iconst 2, 1, [], []), (199, .aload_n 3, 1, [], []), (200, .getfield 96, 3, [9, 2, 0, 1130, 0], []), (203, .iastore, 1, [], []), (204, .dup, 1, [], []), (205, .iconst 3, 1, [], []), (206, .aload_n 3, 1, [], []), (207, .getfield 99, 3, [9, 3, 0, 1133, 0], [])],
  [(210, .iastore, 1, [], []), (211, .dup, 1, [], []), (212, .iconst 4, 1, [], []), (213, .aload_n 3, 1, [], []), (214, .getfield 102, 3, [9, 4, 0, 1135, 0], []), (217, .iastore, 1, [], []), (218, .dup, 1, [], []), (219, .iconst 5, 1, [], []), (220, .aload_n 3, 1, [], []), (221, .getfield 105, 3, [9, 5, 1, 1137, 0], [])],
  [(224, .ifCond .eq 7, 3, [231], []), (227, .iconst 1, 1, [], []), (228, .goto 4, 3, [232], []), (231, .iconst 0, 1, [], []), (232, .iastore, 1, [], []), (233, .dup, 1, [], []), (234, .bipush 6, 2, [], []), (236, .aload_n 1, 1, [], []), (237, .iload_n 2, 1, [], []), (238, .invokevirtual 109, 3, [0, 1, 1, 2, 0, 1380], [mq_X13_waveAt])],
  [(241, .iastore, 1, [], []), (242, .astore 4, 2, [], []), (244, .iconst 0, 1, [], []), (245, .istore 5, 2, [], []), (247, .iload 5, 2, [], []), (249, .bipush 7, 2, [], []), (251, .if_icmp .ge 26, 3, [277], []), (254, .aload_n 0, 1, [], []), (255, .iload_n 2, 1, [], [])],
  [(256, .iload 5, 2, [], []), (258, .invokevirtual 112, 3, [9, 2, 1, 0, 2, 1384], [m_X11_member]), (261, .aload 4, 2, [], []), (263, .iload 5, 2, [], []), (265, .iaload, 1, [], []), (266, .if_icmp .eq 5, 3, [271], []), (269, .iconst 0, 1, [], []), (270, .ireturn, 1, [6], []), (271, .iinc 5 1, 3, [], [])],
  [(274, .goto (-27), 3, [247], []), (277, .iinc 2 1, 3, [], []), (280, .goto (-128), 3, [152], []), (283, .aload_n 0, 1, [], []), (284, .invokevirtual 116, 3, [9, 0, 1, 0, 0, 1419], [m_X11_events]), (287, .bipush 30, 2, [], [])],
  [(289, .aload_n 1, 1, [], []), (290, .getfield 119, 3, [10, 24, 3, 800, 0], []), (293, .invokeinterface 79 1, 5, [7, 0, 1, 5, 0, 1376, 3, 1219], [mq_Jx4a65c_size_8abf5]), (298, .invokestatic 121, 3, [10, 1423], []), (301, .if_icmp .ne 7, 3, [308], [])],
  [(304, .iconst 1, 1, [], []), (305, .goto 4, 3, [309], []), (308, .iconst 0, 1, [], []), (309, .ireturn, 1, [6], [])]]
theorem kq_L_alike : CdQ mq_L_alike cq_L_alike := ⟨by decide +kernel, allQ_of ⟨(moq0 o_X11_setting rfl), ⟨(moq0 o_X11_setting rfl), ⟨(moq0 o_X11_plan rfl), ⟨(moq0 o_X11_plan rfl), ⟨oq_X13_hasPlan, ⟨(moq0 o_X11_plan rfl), ⟨oq_X13_hasPlan, ⟨(moq0 o_X11_plan rfl), ⟨oq_X13_hasPlan, ⟨(moq0 o_X11_plan rfl), ⟨oq_Jx4a65c_size_8abf5, ⟨oq_Jx4a65c_get_915e3, ⟨oq_X13_waveAt, ⟨(moq0 o_X11_member rfl), ⟨(moq0 o_X11_events rfl), ⟨oq_Jx4a65c_size_8abf5, trivial⟩⟩⟩⟩⟩⟩⟩⟩⟩⟩⟩⟩⟩⟩⟩⟩⟩
def cq_L_cell : Cd := [
  [(0, .iload_n 1, 1, [], []), (1, .aload_n 0, 1, [], []), (2, .arraylength, 1, [], []), (3, .if_icmp .ge 9, 3, [12], []), (6, .aload_n 0, 1, [], []), (7, .iload_n 1, 1, [], []), (8, .iaload, 1, [], []), (9, .goto 11, 3, [20], []), (12, .ldc 7, 2, [1664525, 902], []), (14, .iload_n 1, 1, [], []), (15, .imul, 1, [], [])],
  [(16, .sipush 15834, 3, [], []), (19, .iadd, 1, [], []), (20, .ireturn, 1, [1], [])]]
theorem kq_L_cell : CdQ mq_L_cell cq_L_cell := ⟨by decide +kernel, allQ_of trivial⟩
def cq_L_pick : Cd := [
  [(0, .aload_n 0, 1, [], []), (1, .iload_n 1, 1, [], []), (2, .invokestatic 8, 3, [1, 2, 1, 0, 0, 899], [mq_L_cell]), (5, .ldc 14, 2, [2147483647, 903], []), (7, .iand, 1, [], []), (8, .iload_n 2, 1, [], []), (9, .irem, 1, [], []), (10, .ireturn, 1, [1], [])]]
theorem kq_L_pick : CdQ mq_L_pick cq_L_pick := ⟨by decide +kernel, allQ_of ⟨oq_L_cell, trivial⟩⟩
def cq_X13_isGoing : Cd := [
  [(0, .aload_n 0, 1, [], []), (1, .getfield 223, 3, [10, 8, 0, 774, 0], []), (4, .iconst 1, 1, [], []), (5, .if_icmp .eq 11, 3, [16], []), (8, .aload_n 0, 1, [], []), (9, .getfield 223, 3, [10, 8, 0, 774, 0], []), (12, .iconst 2, 1, [], []), (13, .if_icmp .ne 7, 3, [20], [])],
  [(16, .iconst 1, 1, [], []), (17, .goto 4, 3, [21], []), (20, .iconst 0, 1, [], []), (21, .ireturn, 1, [6], [])]]
theorem kq_X13_isGoing : CdQ mq_X13_isGoing cq_X13_isGoing := ⟨by decide +kernel, allQ_of trivial⟩
def cq_X12_isUp : Cd := [
  [(0, .aload_n 0, 1, [], []), (1, .getfield 7, 3, [9, 2, 0, 1129, 0], []), (4, .ifCond .ge 7, 3, [11], []), (7, .iconst 1, 1, [], []), (8, .goto 4, 3, [12], []), (11, .iconst 0, 1, [], []), (12, .ireturn, 1, [6], [])]]
theorem kq_X12_isUp : CdQ mq_X12_isUp cq_X12_isUp := ⟨by decide +kernel, allQ_of trivial⟩
def cq_X12_coming : Cd := [
  [(0, .aload_n 0, 1, [], []), (1, .invokevirtual 30, 3, [0, 0, 1, 1, 0, 1490], [mq_X12_isUp]), (4, .ifCond .eq 10, 3, [14], []), (7, .aload_n 0, 1, [], []), (8, .getfield 20, 3, [9, 1, 0, 1126, 0], []), (11, .goto 7, 3, [18], []), (14, .aload_n 0, 1, [], []), (15, .getfield 7, 3, [9, 2, 0, 1129, 0], [])],
  [(18, .ireturn, 1, [1], [])]]
theorem kq_X12_coming : CdQ mq_X12_coming cq_X12_coming := ⟨by decide +kernel, allQ_of ⟨oq_X12_isUp, trivial⟩⟩
def cq_J8_newLength_cabcc : Cd := [
  [(0, .iload_n 0, 1, [], []), (1, .iload_n 1, 1, [], []), (2, .iload_n 2, 1, [], []), (3, .invokestatic 194, 3, [11, 927], []), (6, .iadd, 1, [], []), (7, .istore_n 3, 1, [], []), (8, .iconst 0, 1, [], []), (9, .iload_n 3, 1, [], []), (10, .if_icmp .ge 11, 3, [21], []), (13, .iload_n 3, 1, [], []), (14, .ldc 200, 2, [2147483639, 930], [])],
  [(16, .if_icmp .gt 5, 3, [21], []), (19, .iload_n 3, 1, [], []), (20, .ireturn, 1, [1], []), (21, .iload_n 0, 1, [], []), (22, .iload_n 1, 1, [], [])]]
theorem kq_J8_newLength_cabcc : CdQ mq_J8_newLength_cabcc cq_J8_newLength_cabcc := ⟨by decide +kernel, allQ_of trivial⟩
def cq_J7_copyOf_6403c : Cd := [
  [(0, .aload_n 2, 1, [], []), (1, .ldc 110, 2, [0, 0, 1276], []), (3, .if_acmp .ne 10, 3, [13], []), (6, .iload_n 1, 1, [], []), (7, .anewarray 2, 3, [1278], []), (10, .goto 14, 3, [24], []), (13, .aload_n 2, 1, [], [])],
  [(24, .astore_n 3, 1, [], []), (25, .aload_n 0, 1, [], []), (26, .iconst 0, 1, [], []), (27, .aload_n 3, 1, [], []), (28, .iconst 0, 1, [], []), (29, .aload_n 0, 1, [], []), (30, .arraylength, 1, [], []), (31, .iload_n 1, 1, [], [])],
  [(32, .invokestatic 304, 3, [10, 945], []), (35, .invokestatic 150, 3, [16, 946], []), (38, .aload_n 3, 1, [], []), (39, .areturn, 1, [], [])]]
theorem kq_J7_copyOf_6403c : CdQ mq_J7_copyOf_6403c cq_J7_copyOf_6403c := ⟨by decide +kernel, allQ_of trivial⟩
def cq_J7_copyOf_1904c : Cd := [
  [(0, .aload_n 0, 1, [], []), (1, .iload_n 1, 1, [], []), (2, .aload_n 0, 1, [], []), (3, .invokevirtual 86, 3, [17, 1250], []), (6, .invokestatic 300, 3, [1, 3, 6, 0, 151, 1273], [mq_J7_copyOf_6403c]), (9, .areturn, 1, [], [])]]
theorem kq_J7_copyOf_1904c : CdQ mq_J7_copyOf_1904c cq_J7_copyOf_1904c := ⟨by decide +kernel, allQ_of ⟨oq_J7_copyOf_6403c, trivial⟩⟩
