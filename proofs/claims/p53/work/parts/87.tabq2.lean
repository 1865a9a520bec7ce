/-! ===== tables of the code of the law and of the JDK that it runs, 2 ===== -/
def mq_Jx4a65c_grow_92f84 : MI := (yJx4a65c_grow_92f84, cJx4a65c_grow_92f84, 4, some (.array (.object "java/lang/Object")), 3, 104, 151, [], 0)
def mq_Jx4a65c_grow_d5877 : MI := (yJx4a65c_grow_d5877, cJx4a65c_grow_d5877, 1, some (.array (.object "java/lang/Object")), 4, 127, 151, [], 0)
def mq_Jx4a65c_add_72be8 : MI := (yJx4a65c_add_72be8, cJx4a65c_add_72be8, 4, none, 5, 147, 151, [], 0)
def mq_Jx4a65c_add_9ea2d : MI := (yJx4a65c_add_9ea2d, cJx4a65c_add_9ea2d, 2, some .boolean, 6, 170, 151, [], 4)
def mq_X13_note : MI := (yX13_note, cX13_note, 4, none, 7, 191, 152, [], 0)
def mq_X13_start : MI := (yX13_start, cX13_start, 5, some .int, 8, 214, 310, [], 0)
def mq_X13_stop : MI := (yX13_stop, cX13_stop, 1, none, 8, 214, 152, [], 0)
def mq_X13_go : MI := (yX13_go, cX13_go, 1, some .int, 8, 214, 152, [], 0)
def mq_Jx35411_init_45d68 : MI := (yJx35411_init_45d68, cJx35411_init_45d68, 2, none, 1, 60, 0, [], 2)
def mq_Jx4a65c_iterator_32c93 : MI := (yJx4a65c_iterator_32c93, cJx4a65c_iterator_32c93, 1, some (.object "java/util/Iterator"), 2, 81, 1, [], 4)
def mq_Jx35411_hasNext_aae02 : MI := (yJx35411_hasNext_aae02, cJx35411_hasNext_aae02, 1, some .boolean, 0, 0, 0, [], 4)
def mq_Jx35411_checkForComodification_da8c8 : MI := (yJx35411_checkForComodification_da8c8, cJx35411_checkForComodification_da8c8, 1, none, 0, 0, 0, [], 0)
def mq_Jx35411_next_0502b : MI := (yJx35411_next_0502b, cJx35411_next_0502b, 3, some (.object "java/lang/Object"), 1, 20, 0, [], 4)
def mq_X13_hold : MI := (yX13_hold, cX13_hold, 6, some .int, 8, 214, 153, [], 0)
def mq_X13_reads : MI := (yX13_reads, cX13_reads, 3, some .boolean, 0, 0, 0, [], 0)
def mq_X13_downIn : MI := (yX13_downIn, cX13_downIn, 5, some .int, 3, 101, 1, [], 0)
def mq_X13_partners : MI := (yX13_partners, cX13_partners, 3, some .boolean, 3, 64, 0, [], 0)
def mq_X13_talk_ : MI := (yX13_talk_, cX13_talk_, 3, some .boolean, 0, 0, 0, [], 0)
def mq_X13_why : MI := (yX13_why, cX13_why, 5, some .int, 4, 125, 1, [], 0)
def mq_X13_begin : MI := (yX13_begin, cX13_begin, 3, none, 8, 214, 152, [], 0)
def mq_X13_whyCommit : MI := (yX13_whyCommit, cX13_whyCommit, 4, some .int, 3, 101, 1, [], 0)
def mq_X13_commit : MI := (yX13_commit, cX13_commit, 3, some .int, 8, 214, 152, [], 0)
def mq_X13_isReady : MI := (yX13_isReady, cX13_isReady, 3, some .boolean, 3, 64, 0, [], 0)
def mq_X13_measures : MI := (yX13_measures, cX13_measures, 3, some (.array .int), 4, 86, 2, [], 0)
theorem oq_Jx4a65c_grow_92f84 : MOQ mq_Jx4a65c_grow_92f84 := ⟨(tbG_at (p := 1245) (by decide +kernel)), (tbG_at (p := 4) (by decide +kernel)), by decide +kernel, rfl, ⟨(tbG_at (p := 1244) (by decide +kernel)), (tbG_atS (p := 20) (by decide +kernel))⟩⟩
theorem oq_Jx4a65c_grow_d5877 : MOQ mq_Jx4a65c_grow_d5877 := ⟨(tbG_at (p := 1241) (by decide +kernel)), (tbG_at (p := 4) (by decide +kernel)), by decide +kernel, rfl, ⟨(tbG_at (p := 1240) (by decide +kernel)), (tbG_atS (p := 19) (by decide +kernel))⟩⟩
theorem oq_Jx4a65c_add_72be8 : MOQ mq_Jx4a65c_add_72be8 := ⟨(tbG_at (p := 1237) (by decide +kernel)), (tbG_at (p := 4) (by decide +kernel)), by decide +kernel, rfl, ⟨(tbG_at (p := 1236) (by decide +kernel)), (tbG_atS (p := 18) (by decide +kernel))⟩⟩
theorem oq_Jx4a65c_add_9ea2d : MOQ mq_Jx4a65c_add_9ea2d := ⟨(tbG_at (p := 1233) (by decide +kernel)), (tbG_at (p := 4) (by decide +kernel)), by decide +kernel, rfl, (tbG_at (p := 1231) (by decide +kernel))⟩
theorem oq_X13_note : MOQ mq_X13_note := ⟨(tbG_at (p := 1498) (by decide +kernel)), (tbG_at (p := 1) (by decide +kernel)), by decide +kernel, rfl, ⟨(tbG_at (p := 1497) (by decide +kernel)), (tbG_atS (p := 26) (by decide +kernel))⟩⟩
theorem oq_X13_start : MOQ mq_X13_start := ⟨(tbG_at (p := 1484) (by decide +kernel)), (tbG_at (p := 1) (by decide +kernel)), by decide +kernel, rfl, ⟨(tbG_at (p := 1482) (by decide +kernel)), (tbG_at (p := 1483) (by decide +kernel))⟩⟩
theorem oq_X13_stop : MOQ mq_X13_stop := ⟨(tbG_at (p := 1502) (by decide +kernel)), (tbG_at (p := 1) (by decide +kernel)), by decide +kernel, rfl, ⟨(tbG_at (p := 1500) (by decide +kernel)), (tbG_at (p := 1501) (by decide +kernel))⟩⟩
theorem oq_X13_go : MOQ mq_X13_go := ⟨(tbG_at (p := 1523) (by decide +kernel)), (tbG_at (p := 1) (by decide +kernel)), by decide +kernel, rfl, ⟨(tbG_at (p := 1521) (by decide +kernel)), (tbG_at (p := 1522) (by decide +kernel))⟩⟩
theorem oq_Jx35411_init_45d68 : MOQ mq_Jx35411_init_45d68 := ⟨(tbG_at (p := 1170) (by decide +kernel)), (tbG_at (p := 18) (by decide +kernel)), by decide +kernel, rfl, ⟨(tbG_at (p := 1169) (by decide +kernel)), rfl, rfl⟩⟩
theorem oq_Jx4a65c_iterator_32c93 : MOQ mq_Jx4a65c_iterator_32c93 := ⟨(tbG_at (p := 1165) (by decide +kernel)), (tbG_at (p := 4) (by decide +kernel)), by decide +kernel, rfl, (tbG_at (p := 1163) (by decide +kernel))⟩
theorem oq_Jx35411_hasNext_aae02 : MOQ mq_Jx35411_hasNext_aae02 := ⟨(tbG_at (p := 1194) (by decide +kernel)), (tbG_at (p := 18) (by decide +kernel)), by decide +kernel, rfl, (tbG_at (p := 1192) (by decide +kernel))⟩
theorem oq_Jx35411_checkForComodification_da8c8 : MOQ mq_Jx35411_checkForComodification_da8c8 := ⟨(tbG_at (p := 1207) (by decide +kernel)), (tbG_at (p := 18) (by decide +kernel)), by decide +kernel, rfl, ⟨(tbG_at (p := 1205) (by decide +kernel)), (tbG_at (p := 1206) (by decide +kernel))⟩⟩
theorem oq_Jx35411_next_0502b : MOQ mq_Jx35411_next_0502b := ⟨(tbG_at (p := 1203) (by decide +kernel)), (tbG_at (p := 18) (by decide +kernel)), by decide +kernel, rfl, (tbG_at (p := 1201) (by decide +kernel))⟩
theorem oq_X13_hold : MOQ mq_X13_hold := ⟨(tbG_at (p := 1542) (by decide +kernel)), (tbG_at (p := 1) (by decide +kernel)), by decide +kernel, rfl, ⟨(tbG_at (p := 1540) (by decide +kernel)), (tbG_at (p := 1541) (by decide +kernel))⟩⟩
theorem oq_X13_reads : MOQ mq_X13_reads := ⟨(tbG_at (p := 1155) (by decide +kernel)), (tbG_at (p := 1) (by decide +kernel)), by decide +kernel, rfl, ⟨(tbG_at (p := 1153) (by decide +kernel)), (tbG_at (p := 1154) (by decide +kernel))⟩⟩
theorem oq_X13_downIn : MOQ mq_X13_downIn := ⟨(tbG_at (p := 1564) (by decide +kernel)), (tbG_at (p := 1) (by decide +kernel)), by decide +kernel, rfl, ⟨(tbG_at (p := 1562) (by decide +kernel)), (tbG_at (p := 1563) (by decide +kernel))⟩⟩
theorem oq_X13_partners : MOQ mq_X13_partners := ⟨(tbG_at (p := 1568) (by decide +kernel)), (tbG_at (p := 1) (by decide +kernel)), by decide +kernel, rfl, ⟨(tbG_at (p := 1566) (by decide +kernel)), (tbG_at (p := 1567) (by decide +kernel))⟩⟩
theorem oq_X13_talk_ : MOQ mq_X13_talk_ := ⟨(tbG_at (p := 1212) (by decide +kernel)), (tbG_at (p := 1) (by decide +kernel)), by decide +kernel, rfl, ⟨(tbG_at (p := 1210) (by decide +kernel)), (tbG_at (p := 1211) (by decide +kernel))⟩⟩
theorem oq_X13_why : MOQ mq_X13_why := ⟨(tbG_at (p := 1559) (by decide +kernel)), (tbG_at (p := 1) (by decide +kernel)), by decide +kernel, rfl, ⟨(tbG_at (p := 1557) (by decide +kernel)), (tbG_at (p := 1558) (by decide +kernel))⟩⟩
theorem oq_X13_begin : MOQ mq_X13_begin := ⟨(tbG_at (p := 1588) (by decide +kernel)), (tbG_at (p := 1) (by decide +kernel)), by decide +kernel, rfl, ⟨(tbG_at (p := 1586) (by decide +kernel)), (tbG_at (p := 1587) (by decide +kernel))⟩⟩
theorem oq_X13_whyCommit : MOQ mq_X13_whyCommit := ⟨(tbG_at (p := 1600) (by decide +kernel)), (tbG_at (p := 1) (by decide +kernel)), by decide +kernel, rfl, ⟨(tbG_at (p := 1598) (by decide +kernel)), (tbG_at (p := 1599) (by decide +kernel))⟩⟩
theorem oq_X13_commit : MOQ mq_X13_commit := ⟨(tbG_at (p := 1632) (by decide +kernel)), (tbG_at (p := 1) (by decide +kernel)), by decide +kernel, rfl, ⟨(tbG_at (p := 1630) (by decide +kernel)), (tbG_at (p := 1631) (by decide +kernel))⟩⟩
theorem oq_X13_isReady : MOQ mq_X13_isReady := ⟨(tbG_at (p := 1645) (by decide +kernel)), (tbG_at (p := 1) (by decide +kernel)), by decide +kernel, rfl, ⟨(tbG_at (p := 1643) (by decide +kernel)), (tbG_at (p := 1644) (by decide +kernel))⟩⟩
theorem oq_X13_measures : MOQ mq_X13_measures := ⟨(tbG_at (p := 1640) (by decide +kernel)), (tbG_at (p := 1) (by decide +kernel)), by decide +kernel, rfl, ⟨(tbG_at (p := 1638) (by decide +kernel)), (tbG_at (p := 1639) (by decide +kernel))⟩⟩
def cq_Jx4a65c_grow_92f84 : Cd := [
  [(0, .aload_n 0, 1, [], []), (1, .getfield 9, 3, [13, 1, 3, 746, 0], []), (4, .arraylength, 1, [], []), (5, .istore_n 2, 1, [], []), (6, .iload_n 2, 1, [], []), (7, .ifCond .gt 13, 3, [20], []), (10, .aload_n 0, 1, [], []), (11, .getfield 9, 3, [13, 1, 3, 746, 0], []), (14, .getstatic 39, 3, [0, 1402, 744], [])],
  [(17, .if_acmp .eq 28, 3, [45], []), (20, .iload_n 2, 1, [], []), (21, .iload_n 1, 1, [], []), (22, .iload_n 2, 1, [], []), (23, .isub, 1, [], []), (24, .iload_n 2, 1, [], []), (25, .iconst 1, 1, [], []), (26, .ishr, 1, [], []), (27, .invokestatic 73, 3, [1, 3, 1, 0, 0, 1246], [mq_J8_newLength_cabcc]), (30, .istore_n 3, 1, [], []), (31, .aload_n 0, 1, [], [])],
  [(32, .aload_n 0, 1, [], []), (33, .getfield 9, 3, [13, 1, 3, 746, 0], []), (36, .iload_n 3, 1, [], []), (37, .invokestatic 66, 3, [1, 2, 6, 0, 151, 1247], [mq_J7_copyOf_1904c]), (40, .dup_x1, 1, [], []), (41, .putfield 9, 3, [13, 1, 3, 746, 0], []), (44, .areturn, 1, [], []), (45, .aload_n 0, 1, [], []), (46, .bipush 10, 2, [], [])],
  [(48, .iload_n 1, 1, [], []), (49, .invokestatic 79, 3, [11, 1279], []), (52, .anewarray 7, 3, [1280], []), (55, .dup_x1, 1, [], []), (56, .putfield 9, 3, [13, 1, 3, 746, 0], []), (59, .areturn, 1, [], [])]]
theorem kq_Jx4a65c_grow_92f84 : CdQ mq_Jx4a65c_grow_92f84 cq_Jx4a65c_grow_92f84 := ⟨by decide +kernel, allQ_of ⟨oq_J8_newLength_cabcc, ⟨oq_J7_copyOf_1904c, trivial⟩⟩⟩
def cq_Jx4a65c_grow_d5877 : Cd := [
  [(0, .aload_n 0, 1, [], []), (1, .aload_n 0, 1, [], []), (2, .getfield 48, 3, [13, 2, 0, 749, 0], []), (5, .iconst 1, 1, [], []), (6, .iadd, 1, [], []), (7, .invokevirtual 69, 3, [0, 1, 6, 5, 151, 1242], [mq_Jx4a65c_grow_92f84]), (10, .areturn, 1, [], [])]]
theorem kq_Jx4a65c_grow_d5877 : CdQ mq_Jx4a65c_grow_d5877 cq_Jx4a65c_grow_d5877 := ⟨by decide +kernel, allQ_of ⟨oq_Jx4a65c_grow_92f84, trivial⟩⟩
def cq_Jx4a65c_add_72be8 : Cd := [
  [(0, .iload_n 3, 1, [], []), (1, .aload_n 2, 1, [], []), (2, .arraylength, 1, [], []), (3, .if_icmp .ne 8, 3, [11], []), (6, .aload_n 0, 1, [], []), (7, .invokevirtual 129, 3, [0, 0, 6, 5, 151, 1238], [mq_Jx4a65c_grow_d5877]), (10, .astore_n 2, 1, [], []), (11, .aload_n 2, 1, [], []), (12, .iload_n 3, 1, [], []), (13, .aload_n 1, 1, [], []), (14, .aastore, 1, [], []), (15, .aload_n 0, 1, [], [])],
  [(16, .iload_n 3, 1, [], []), (17, .iconst 1, 1, [], []), (18, .iadd, 1, [], []), (19, .putfield 48, 3, [13, 2, 0, 749, 0], []), (22, .return_, 1, [], [])]]
theorem kq_Jx4a65c_add_72be8 : CdQ mq_Jx4a65c_add_72be8 cq_Jx4a65c_add_72be8 := ⟨by decide +kernel, allQ_of ⟨oq_Jx4a65c_grow_d5877, trivial⟩⟩
def cq_Jx4a65c_add_9ea2d : Cd := [
  [(0, .aload_n 0, 1, [], []), (1, .dup, 1, [], []), (2, .getfield 63, 3, [13, 0, 0, 753, 2], []), (5, .iconst 1, 1, [], []), (6, .iadd, 1, [], []), (7, .putfield 63, 3, [13, 0, 0, 753, 2], []), (10, .aload_n 0, 1, [], []), (11, .aload_n 1, 1, [], []), (12, .aload_n 0, 1, [], []), (13, .getfield 9, 3, [13, 1, 3, 746, 0], [])],
  [(16, .aload_n 0, 1, [], []), (17, .getfield 48, 3, [13, 2, 0, 749, 0], []), (20, .invokevirtual 131, 3, [0, 3, 0, 5, 151, 1234], [mq_Jx4a65c_add_72be8]), (23, .iconst 1, 1, [], []), (24, .ireturn, 1, [6], [])]]
theorem kq_Jx4a65c_add_9ea2d : CdQ mq_Jx4a65c_add_9ea2d cq_Jx4a65c_add_9ea2d := ⟨by decide +kernel, allQ_of ⟨oq_Jx4a65c_add_72be8, trivial⟩⟩
def cq_X13_note : Cd := [
  [(0, .aload_n 0, 1, [], []), (1, .getfield 53, 3, [10, 24, 3, 799, 0], []), (4, .iconst 4, 1, [], []), (5, .newarray .int, 2, [0, 196], []), (7, .dup, 1, [], []), (8, .iconst 0, 1, [], []), (9, .aload_n 0, 1, [], []), (10, .getfield 220, 3, [10, 6, 0, 771, 0], []), (13, .iastore, 1, [], []), (14, .dup, 1, [], []), (15, .iconst 1, 1, [], [])],
  [(16, .iload_n 1, 1, [], []), (17, .iastore, 1, [], []), (18, .dup, 1, [], []), (19, .iconst 2, 1, [], []), (20, .iload_n 2, 1, [], []), (21, .iastore, 1, [], []), (22, .dup, 1, [], []), (23, .iconst 3, 1, [], []), (24, .iload_n 3, 1, [], []), (25, .iastore, 1, [], []), (26, .invokeinterface 202 2, 5, [7, 1, 1, 5, 151, 1226, 4, 1229], [mq_Jx4a65c_add_9ea2d]), (31, .pop, 1, [], [])],
  [(32, .return_, 1, [], [])]]
theorem kq_X13_note : CdQ mq_X13_note cq_X13_note := ⟨by decide +kernel, allQ_of ⟨oq_Jx4a65c_add_9ea2d, trivial⟩⟩
def cq_X13_start : Cd := [
  [(0, .bipush 9, 2, [], []), (2, .istore_n 2, 1, [], []), (3, .iconst (-1), 1, [], []), (4, .istore_n 3, 1, [], []), (5, .iconst 0, 1, [], []), (6, .istore 4, 2, [], []), (8, .iload 4, 2, [], []), (10, .aload_n 0, 1, [], []), (11, .getfield 49, 3, [10, 23, 3, 797, 0], []), (14, .invokeinterface 196 1, 5, [7, 0, 1, 5, 0, 1216, 3, 1219], [mq_Jx4a65c_size_8abf5])],
  [(19, .if_icmp .ge 85, 3, [104], []), (22, .aload_n 0, 1, [], []), (23, .iload 4, 2, [], []), (25, .invokevirtual 266, 3, [0, 1, 1, 2, 0, 1485], [mq_X13_waveAt]), (28, .ifCond .lt 70, 3, [98], []), (31, .aload_n 0, 1, [], [])],
  [(32, .getfield 49, 3, [10, 23, 3, 797, 0], []), (35, .iload 4, 2, [], []), (37, .invokeinterface 206 2, 5, [7, 1, 6, 5, 0, 1286, 5, 1289], [mq_Jx4a65c_get_915e3]), (42, .checkcast 155, 3, [0, 1118], []), (45, .getfield 188, 3, [9, 5, 1, 1138, 0], [])],
  [(48, .ifCond .eq 6, 3, [54], []), (51, .goto 47, 3, [98], []), (54, .iload_n 2, 1, [], []), (55, .aload_n 0, 1, [], []), (56, .getfield 49, 3, [10, 23, 3, 797, 0], []), (59, .iload 4, 2, [], []), (61, .invokeinterface 206 2, 5, [7, 1, 6, 5, 0, 1286, 5, 1289], [mq_Jx4a65c_get_915e3])],
  [(66, .checkcast 155, 3, [0, 1118], []), (69, .invokevirtual 257, 3, [0, 0, 1, 1, 0, 1486], [mq_X12_coming]), (72, .invokestatic 105, 3, [10, 1029], []), (75, .istore_n 2, 1, [], []), (76, .iload_n 3, 1, [], []), (77, .aload_n 0, 1, [], []), (78, .getfield 49, 3, [10, 23, 3, 797, 0], [])],
  [(81, .iload 4, 2, [], []), (83, .invokeinterface 206 2, 5, [7, 1, 6, 5, 0, 1286, 5, 1289], [mq_Jx4a65c_get_915e3]), (88, .checkcast 155, 3, [0, 1118], []), (91, .invokevirtual 257, 3, [0, 0, 1, 1, 0, 1486], [mq_X12_coming]), (94, .invokestatic 302, 3, [11, 1494], [])],
  [(97, .istore_n 3, 1, [], []), (98, .iinc 4 1, 3, [], []), (101, .goto (-93), 3, [8], []), (104, .aload_n 0, 1, [], []), (105, .iconst 2, 1, [], []), (106, .iconst (-1), 1, [], []), (107, .iload_n 1, 1, [], []), (108, .invokevirtual 281, 3, [0, 3, 0, 2, 152, 1495], [mq_X13_note]), (111, .aload_n 0, 1, [], [])],
  [(112, .iload_n 1, 1, [], []), (113, .putfield 226, 3, [10, 9, 0, 776, 0], []), (116, .aload_n 0, 1, [], []), (117, .iconst 0, 1, [], []), (118, .putfield 232, 3, [10, 11, 0, 780, 0], []), (121, .aload_n 0, 1, [], []), (122, .iconst 1, 1, [], []), (123, .putfield 223, 3, [10, 8, 0, 774, 0], []), (126, .iload_n 3, 1, [], []), (127, .ifCond .lt 13, 3, [140], [])],
  [(130, .iload_n 2, 1, [], []), (131, .iload_n 1, 1, [], []), (132, .if_icmp .ne 23, 3, [155], []), (135, .iload_n 3, 1, [], []), (136, .iload_n 1, 1, [], []), (137, .if_icmp .ne 18, 3, [155], []), (140, .aload_n 0, 1, [], []), (141, .iconst 4, 1, [], []), (142, .putfield 223, 3, [10, 8, 0, 774, 0], [])],
  [(145, .aload_n 0, 1, [], []), (146, .bipush 6, 2, [], []), (148, .iconst (-1), 1, [], []), (149, .iload_n 1, 1, [], []), (150, .invokevirtual 281, 3, [0, 3, 0, 2, 152, 1495], [mq_X13_note]), (153, .iconst (-1), 1, [], []), (154, .ireturn, 1, [1], []), (155, .aload_n 0, 1, [], []), (156, .iload_n 2, 1, [], []), (157, .iload_n 1, 1, [], []), (158, .if_icmp .ge 7, 3, [165], [])],
  [(161, .iconst 1, 1, [], []), (162, .goto 4, 3, [166], []), (165, .iconst 0, 1, [], []), (166, .putfield 241, 3, [10, 14, 1, 785, 0], []), (169, .aload_n 0, 1, [], []), (170, .aload_n 0, 1, [], []), (171, .getfield 241, 3, [10, 14, 1, 785, 0], []), (174, .ifCond .eq 9, 3, [183], [])],
  [(177, .iload_n 2, 1, [], []), (178, .iconst 1, 1, [], []), (179, .iadd, 1, [], []), (180, .goto 6, 3, [186], []), (183, .iload_n 3, 1, [], []), (184, .iconst 1, 1, [], []), (185, .isub, 1, [], []), (186, .putfield 229, 3, [10, 10, 0, 778, 0], []), (189, .aload_n 0, 1, [], []), (190, .getfield 229, 3, [10, 10, 0, 778, 0], [])],
  [(193, .ireturn, 1, [1], [])]]
theorem kq_X13_start : CdQ mq_X13_start cq_X13_start := ⟨by decide +kernel, allQ_of ⟨oq_Jx4a65c_size_8abf5, ⟨oq_X13_waveAt, ⟨oq_Jx4a65c_get_915e3, ⟨oq_Jx4a65c_get_915e3, ⟨oq_X12_coming, ⟨oq_Jx4a65c_get_915e3, ⟨oq_X12_coming, ⟨oq_X13_note, ⟨oq_X13_note, trivial⟩⟩⟩⟩⟩⟩⟩⟩⟩⟩
def cq_X13_stop : Cd := [
  [(0, .aload_n 0, 1, [], []), (1, .aload_n 0, 1, [], []), (2, .getfield 223, 3, [10, 8, 0, 774, 0], []), (5, .putfield 238, 3, [10, 13, 0, 784, 0], []), (8, .aload_n 0, 1, [], []), (9, .iconst 3, 1, [], []), (10, .putfield 223, 3, [10, 8, 0, 774, 0], []), (13, .aload_n 0, 1, [], []), (14, .iconst 4, 1, [], []), (15, .iconst (-1), 1, [], [])],
  [(16, .aload_n 0, 1, [], []), (17, .getfield 232, 3, [10, 11, 0, 780, 0], []), (20, .invokevirtual 281, 3, [0, 3, 0, 2, 152, 1495], [mq_X13_note]), (23, .return_, 1, [], [])]]
theorem kq_X13_stop : CdQ mq_X13_stop cq_X13_stop := ⟨by decide +kernel, allQ_of ⟨oq_X13_note, trivial⟩⟩
def cq_X13_go : Cd := [
  [(0, .aload_n 0, 1, [], []), (1, .aload_n 0, 1, [], []), (2, .getfield 238, 3, [10, 13, 0, 784, 0], []), (5, .putfield 223, 3, [10, 8, 0, 774, 0], []), (8, .aload_n 0, 1, [], []), (9, .iconst 5, 1, [], []), (10, .iconst (-1), 1, [], []), (11, .aload_n 0, 1, [], []), (12, .getfield 232, 3, [10, 11, 0, 780, 0], []), (15, .invokevirtual 281, 3, [0, 3, 0, 2, 152, 1495], [mq_X13_note])],
  [(18, .aload_n 0, 1, [], []), (19, .getfield 232, 3, [10, 11, 0, 780, 0], []), (22, .ireturn, 1, [1], [])]]
theorem kq_X13_go : CdQ mq_X13_go cq_X13_go := ⟨by decide +kernel, allQ_of ⟨oq_X13_note, trivial⟩⟩
def cq_Jx35411_init_45d68 : Cd := [
  [(0, .aload_n 0, 1, [], []), (1, .aload_n 1, 1, [], []), (2, .putfield 1, 3, [14, 3, 3, 1175, 0], []), (5, .aload_n 0, 1, [], []), (6, .invokespecial 7, 3, [18, 1171], []), (9, .aload_n 0, 1, [], []), (10, .iconst (-1), 1, [], []), (11, .putfield 13, 3, [14, 1, 0, 1173, 0], []), (14, .aload_n 0, 1, [], []), (15, .aload_n 0, 1, [], [])],
  [(16, .getfield 1, 3, [14, 3, 3, 1175, 0], []), (19, .getfield 17, 3, [13, 0, 0, 751, 2], []), (22, .putfield 22, 3, [14, 2, 0, 1174, 0], []), (25, .return_, 1, [], [])]]
theorem kq_Jx35411_init_45d68 : CdQ mq_Jx35411_init_45d68 cq_Jx35411_init_45d68 := ⟨by decide +kernel, allQ_of trivial⟩
def cq_Jx4a65c_iterator_32c93 : Cd := [
  [(0, .new 267, 3, [14, 1166, 1167, 18], []), (3, .dup, 1, [], []), (4, .aload_n 0, 1, [], []), (5, .invokespecial 269, 3, [3, 1, 0, 0, 0, 1168], [mq_Jx35411_init_45d68]), (8, .areturn, 1, [], [])]]
theorem kq_Jx4a65c_iterator_32c93 : CdQ mq_Jx4a65c_iterator_32c93 cq_Jx4a65c_iterator_32c93 := ⟨by decide +kernel, allQ_of ⟨oq_Jx35411_init_45d68, trivial⟩⟩
def cq_Jx35411_hasNext_aae02 : Cd := [
  [(0, .aload_n 0, 1, [], []), (1, .getfield 25, 3, [14, 0, 0, 1172, 0], []), (4, .aload_n 0, 1, [], []), (5, .getfield 1, 3, [14, 3, 3, 1175, 0], []), (8, .getfield 28, 3, [13, 2, 0, 0, 1], []), (11, .if_icmp .eq 7, 3, [18], []), (14, .iconst 1, 1, [], []), (15, .goto 4, 3, [19], [])],
  [(18, .iconst 0, 1, [], []), (19, .ireturn, 1, [6], [])]]
theorem kq_Jx35411_hasNext_aae02 : CdQ mq_Jx35411_hasNext_aae02 cq_Jx35411_hasNext_aae02 := ⟨by decide +kernel, allQ_of trivial⟩
def cq_Jx35411_checkForComodification_da8c8 : Cd := [
  [(0, .aload_n 0, 1, [], []), (1, .getfield 1, 3, [14, 3, 3, 1175, 0], []), (4, .getfield 17, 3, [13, 0, 0, 751, 2], []), (7, .aload_n 0, 1, [], []), (8, .getfield 22, 3, [14, 2, 0, 1174, 0], []), (11, .if_icmp .eq 11, 3, [22], [])],
  [(22, .return_, 1, [], [])]]
theorem kq_Jx35411_checkForComodification_da8c8 : CdQ mq_Jx35411_checkForComodification_da8c8 cq_Jx35411_checkForComodification_da8c8 := ⟨by decide +kernel, allQ_of trivial⟩
def cq_Jx35411_next_0502b : Cd := [
  [(0, .aload_n 0, 1, [], []), (1, .invokevirtual 31, 3, [0, 0, 0, 6, 0, 1204], [mq_Jx35411_checkForComodification_da8c8]), (4, .aload_n 0, 1, [], []), (5, .getfield 25, 3, [14, 0, 0, 1172, 0], []), (8, .istore_n 1, 1, [], []), (9, .iload_n 1, 1, [], []), (10, .aload_n 0, 1, [], []), (11, .getfield 1, 3, [14, 3, 3, 1175, 0], []), (14, .getfield 28, 3, [13, 2, 0, 0, 1], [])],
  [(17, .if_icmp .lt 11, 3, [28], []), (28, .aload_n 0, 1, [], []), (29, .getfield 1, 3, [14, 3, 3, 1175, 0], [])],
  [(32, .getfield 37, 3, [13, 1, 3, 747, 0], []), (35, .astore_n 2, 1, [], []), (36, .iload_n 1, 1, [], []), (37, .aload_n 2, 1, [], []), (38, .arraylength, 1, [], []), (39, .if_icmp .lt 11, 3, [50], [])],
  [(50, .aload_n 0, 1, [], []), (51, .iload_n 1, 1, [], []), (52, .iconst 1, 1, [], []), (53, .iadd, 1, [], []), (54, .putfield 25, 3, [14, 0, 0, 1172, 0], []), (57, .aload_n 2, 1, [], []), (58, .aload_n 0, 1, [], []), (59, .iload_n 1, 1, [], []), (60, .dup_x1, 1, [], []), (61, .putfield 13, 3, [14, 1, 0, 1173, 0], [])],
  [(64, .aaload, 1, [7], []), (65, .areturn, 1, [], [])]]
theorem kq_Jx35411_next_0502b : CdQ mq_Jx35411_next_0502b cq_Jx35411_next_0502b := ⟨by decide +kernel, allQ_of ⟨oq_Jx35411_checkForComodification_da8c8, trivial⟩⟩
def cq_X13_hold : Cd := [
  [(0, .aload_n 0, 1, [], []), (1, .getfield 49, 3, [10, 23, 3, 797, 0], []), (4, .iload_n 1, 1, [], []), (5, .invokeinterface 206 2, 5, [7, 1, 6, 5, 0, 1286, 5, 1289], [mq_Jx4a65c_get_915e3]), (10, .checkcast 155, 3, [0, 1118], []), (13, .iload_n 2, 1, [], []), (14, .putfield 188, 3, [9, 5, 1, 1138, 0], [])],
  [(17, .aload_n 0, 1, [], []), (18, .bipush 8, 2, [], []), (20, .iload_n 1, 1, [], []), (21, .iload_n 2, 1, [], []), (22, .ifCond .eq 7, 3, [29], []), (25, .iconst 1, 1, [], []), (26, .goto 4, 3, [30], []), (29, .iconst 0, 1, [], []), (30, .invokevirtual 281, 3, [0, 3, 0, 2, 152, 1495], [mq_X13_note])],
  [(33, .iconst 0, 1, [], []), (34, .istore_n 3, 1, [], []), (35, .aload_n 0, 1, [], []), (36, .getfield 49, 3, [10, 23, 3, 797, 0], []), (39, .invokeinterface 168 1, 5, [7, 0, 6, 5, 1, 1157, 0, 1161], [mq_Jx4a65c_iterator_32c93]), (44, .astore 4, 2, [], []), (46, .aload 4, 2, [], [])],
  [(48, .invokeinterface 174 1, 5, [7, 0, 1, 6, 0, 1186, 1, 1190], [mq_Jx35411_hasNext_aae02]), (53, .ifCond .eq 34, 3, [87], []), (56, .aload 4, 2, [], []), (58, .invokeinterface 180 1, 5, [7, 0, 6, 6, 0, 1196, 2, 1199], [mq_Jx35411_next_0502b]), (63, .checkcast 155, 3, [0, 1118], [])],
  [(66, .astore 5, 2, [], []), (68, .iload_n 3, 1, [], []), (69, .aload 5, 2, [], []), (71, .getfield 188, 3, [9, 5, 1, 1138, 0], []), (74, .ifCond .eq 7, 3, [81], []), (77, .iconst 1, 1, [], []), (78, .goto 4, 3, [82], [])],
  [(81, .iconst 0, 1, [], []), (82, .iadd, 1, [], []), (83, .istore_n 3, 1, [], []), (84, .goto (-38), 3, [46], []), (87, .iload_n 3, 1, [], []), (88, .ireturn, 1, [1], [])]]
theorem kq_X13_hold : CdQ mq_X13_hold cq_X13_hold := ⟨by decide +kernel, allQ_of ⟨oq_Jx4a65c_get_915e3, ⟨oq_X13_note, ⟨oq_Jx4a65c_iterator_32c93, ⟨oq_Jx35411_hasNext_aae02, ⟨oq_Jx35411_next_0502b, trivial⟩⟩⟩⟩⟩⟩
def cq_X13_reads : Cd := [
  [(0, .iload_n 2, 1, [], []), (1, .aload_n 0, 1, [], []), (2, .getfield 28, 3, [10, 18, 3, 792, 0], []), (5, .iload_n 1, 1, [], []), (6, .iaload, 1, [], []), (7, .if_icmp .lt 17, 3, [24], []), (10, .iload_n 2, 1, [], []), (11, .aload_n 0, 1, [], []), (12, .getfield 32, 3, [10, 19, 3, 793, 0], []), (15, .iload_n 1, 1, [], [])],
  [(16, .iaload, 1, [], []), (17, .if_icmp .gt 7, 3, [24], []), (20, .iconst 1, 1, [], []), (21, .goto 4, 3, [25], []), (24, .iconst 0, 1, [], []), (25, .ireturn, 1, [6], [])]]
theorem kq_X13_reads : CdQ mq_X13_reads cq_X13_reads := ⟨by decide +kernel, allQ_of trivial⟩
def cq_X13_downIn : Cd := [
  [(0, .iconst 0, 1, [], []), (1, .istore_n 2, 1, [], []), (2, .aload_n 0, 1, [], []), (3, .getfield 49, 3, [10, 23, 3, 797, 0], []), (6, .invokeinterface 168 1, 5, [7, 0, 6, 5, 1, 1157, 0, 1161], [mq_Jx4a65c_iterator_32c93]), (11, .astore_n 3, 1, [], []), (12, .aload_n 3, 1, [], []), (13, .invokeinterface 174 1, 5, [7, 0, 1, 6, 0, 1186, 1, 1190], [mq_Jx35411_hasNext_aae02])],
  [(18, .ifCond .eq 42, 3, [60], []), (21, .aload_n 3, 1, [], []), (22, .invokeinterface 180 1, 5, [7, 0, 6, 6, 0, 1196, 2, 1199], [mq_Jx35411_next_0502b]), (27, .checkcast 155, 3, [0, 1118], []), (30, .astore 4, 2, [], [])],
  [(32, .iload_n 2, 1, [], []), (33, .aload 4, 2, [], []), (35, .getfield 158, 3, [9, 0, 0, 1125, 0], []), (38, .iload_n 1, 1, [], []), (39, .if_icmp .ne 15, 3, [54], []), (42, .aload 4, 2, [], []), (44, .invokevirtual 252, 3, [0, 0, 1, 1, 0, 1560], [mq_X12_isUp]), (47, .ifCond .ne 7, 3, [54], [])],
  [(50, .iconst 1, 1, [], []), (51, .goto 4, 3, [55], []), (54, .iconst 0, 1, [], []), (55, .iadd, 1, [], []), (56, .istore_n 2, 1, [], []), (57, .goto (-45), 3, [12], []), (60, .iload_n 2, 1, [], []), (61, .ireturn, 1, [1], [])]]
theorem kq_X13_downIn : CdQ mq_X13_downIn cq_X13_downIn := ⟨by decide +kernel, allQ_of ⟨oq_Jx4a65c_iterator_32c93, ⟨oq_Jx35411_hasNext_aae02, ⟨oq_Jx35411_next_0502b, ⟨oq_X12_isUp, trivial⟩⟩⟩⟩⟩
def cq_X13_partners : Cd := [
  [(0, .iload_n 1, 1, [], []), (1, .iload_n 2, 1, [], []), (2, .if_icmp .eq 53, 3, [55], []), (5, .aload_n 0, 1, [], []), (6, .getfield 49, 3, [10, 23, 3, 797, 0], []), (9, .iload_n 1, 1, [], []), (10, .invokeinterface 206 2, 5, [7, 1, 6, 5, 0, 1286, 5, 1289], [mq_Jx4a65c_get_915e3]), (15, .checkcast 155, 3, [0, 1118], [])],
  [(18, .getfield 158, 3, [9, 0, 0, 1125, 0], []), (21, .aload_n 0, 1, [], []), (22, .getfield 49, 3, [10, 23, 3, 797, 0], []), (25, .iload_n 2, 1, [], []), (26, .invokeinterface 206 2, 5, [7, 1, 6, 5, 0, 1286, 5, 1289], [mq_Jx4a65c_get_915e3]), (31, .checkcast 155, 3, [0, 1118], [])],
  [(34, .getfield 158, 3, [9, 0, 0, 1125, 0], []), (37, .if_icmp .eq 14, 3, [51], []), (40, .aload_n 0, 1, [], []), (41, .getfield 43, 3, [10, 22, 3, 796, 0], []), (44, .iload_n 1, 1, [], []), (45, .aaload, 1, [8], []), (46, .iload_n 2, 1, [], []), (47, .baload, 1, [6], [])],
  [(48, .ifCond .eq 7, 3, [55], []), (51, .iconst 1, 1, [], []), (52, .goto 4, 3, [56], []), (55, .iconst 0, 1, [], []), (56, .ireturn, 1, [6], [])]]
theorem kq_X13_partners : CdQ mq_X13_partners cq_X13_partners := ⟨by decide +kernel, allQ_of ⟨oq_Jx4a65c_get_915e3, ⟨oq_Jx4a65c_get_915e3, trivial⟩⟩⟩
def cq_X13_talk_ : Cd := [
  [(0, .iload_n 1, 1, [], []), (1, .iload_n 2, 1, [], []), (2, .if_icmp .eq 14, 3, [16], []), (5, .aload_n 0, 1, [], []), (6, .getfield 40, 3, [10, 21, 3, 795, 0], []), (9, .iload_n 1, 1, [], []), (10, .aaload, 1, [8], []), (11, .iload_n 2, 1, [], []), (12, .baload, 1, [6], []), (13, .ifCond .eq 7, 3, [20], [])],
  [(16, .iconst 1, 1, [], []), (17, .goto 4, 3, [21], []), (20, .iconst 0, 1, [], []), (21, .ireturn, 1, [6], [])]]
theorem kq_X13_talk_ : CdQ mq_X13_talk_ cq_X13_talk_ := ⟨by decide +kernel, allQ_of trivial⟩
def cq_X13_why : Cd := [
  [(0, .aload_n 0, 1, [], []), (1, .getfield 49, 3, [10, 23, 3, 797, 0], []), (4, .iload_n 1, 1, [], []), (5, .invokeinterface 206 2, 5, [7, 1, 6, 5, 0, 1286, 5, 1289], [mq_Jx4a65c_get_915e3]), (10, .checkcast 155, 3, [0, 1118], []), (13, .astore_n 3, 1, [], []), (14, .aload_n 3, 1, [], []), (15, .getfield 188, 3, [9, 5, 1, 1138, 0], [])],
  [(18, .ifCond .eq 5, 3, [23], []), (21, .iconst 1, 1, [], []), (22, .ireturn, 1, [1], []), (23, .aload_n 3, 1, [], []), (24, .invokevirtual 252, 3, [0, 0, 1, 1, 0, 1560], [mq_X12_isUp]), (27, .ifCond .ne 5, 3, [32], []), (30, .iconst 2, 1, [], []), (31, .ireturn, 1, [1], [])],
  [(32, .aload_n 3, 1, [], []), (33, .getfield 161, 3, [9, 1, 0, 1128, 0], []), (36, .iload_n 2, 1, [], []), (37, .if_icmp .ne 5, 3, [42], []), (40, .iconst 3, 1, [], []), (41, .ireturn, 1, [1], []), (42, .aload_n 0, 1, [], []), (43, .iload_n 2, 1, [], []), (44, .aload_n 0, 1, [], []), (45, .getfield 7, 3, [10, 0, 0, 763, 0], [])],
  [(48, .invokevirtual 164, 3, [0, 2, 1, 2, 0, 1152], [mq_X13_reads]), (51, .ifCond .ne 5, 3, [56], []), (54, .iconst 4, 1, [], []), (55, .ireturn, 1, [1], []), (56, .aload_n 0, 1, [], []), (57, .aload_n 3, 1, [], []), (58, .getfield 158, 3, [9, 0, 0, 1125, 0], []), (61, .invokevirtual 254, 3, [0, 1, 1, 2, 1, 1561], [mq_X13_downIn])],
  [(64, .aload_n 0, 1, [], []), (65, .getfield 16, 3, [10, 2, 0, 766, 0], []), (68, .if_icmp .lt 5, 3, [73], []), (71, .iconst 5, 1, [], []), (72, .ireturn, 1, [1], []), (73, .iconst 0, 1, [], []), (74, .istore 4, 2, [], []), (76, .iload 4, 2, [], []), (78, .aload_n 0, 1, [], []), (79, .getfield 49, 3, [10, 23, 3, 797, 0], [])],
  [(82, .invokeinterface 196 1, 5, [7, 0, 1, 5, 0, 1216, 3, 1219], [mq_Jx4a65c_size_8abf5]), (87, .if_icmp .ge 47, 3, [134], []), (90, .iload 4, 2, [], []), (92, .iload_n 1, 1, [], []), (93, .if_icmp .eq 35, 3, [128], [])],
  [(96, .aload_n 0, 1, [], []), (97, .getfield 49, 3, [10, 23, 3, 797, 0], []), (100, .iload 4, 2, [], []), (102, .invokeinterface 206 2, 5, [7, 1, 6, 5, 0, 1286, 5, 1289], [mq_Jx4a65c_get_915e3]), (107, .checkcast 155, 3, [0, 1118], []), (110, .invokevirtual 257, 3, [0, 0, 1, 1, 0, 1486], [mq_X12_coming])],
  [(113, .iload_n 2, 1, [], []), (114, .isub, 1, [], []), (115, .invokestatic 183, 3, [12, 1208], []), (118, .aload_n 0, 1, [], []), (119, .getfield 13, 3, [10, 1, 0, 765, 0], []), (122, .if_icmp .le 6, 3, [128], []), (125, .bipush 6, 2, [], []), (127, .ireturn, 1, [1], [])],
  [(128, .iinc 4 1, 3, [], []), (131, .goto (-55), 3, [76], []), (134, .iconst 0, 1, [], []), (135, .istore 4, 2, [], []), (137, .iload 4, 2, [], []), (139, .aload_n 0, 1, [], []), (140, .getfield 49, 3, [10, 23, 3, 797, 0], []), (143, .invokeinterface 196 1, 5, [7, 0, 1, 5, 0, 1216, 3, 1219], [mq_Jx4a65c_size_8abf5])],
  [(148, .if_icmp .ge 47, 3, [195], []), (151, .aload_n 0, 1, [], []), (152, .iload_n 1, 1, [], []), (153, .iload 4, 2, [], []), (155, .invokevirtual 260, 3, [0, 2, 1, 2, 0, 1565], [mq_X13_partners]), (158, .ifCond .eq 31, 3, [189], [])],
  [(161, .aload_n 0, 1, [], []), (162, .iload_n 2, 1, [], []), (163, .aload_n 0, 1, [], []), (164, .getfield 49, 3, [10, 23, 3, 797, 0], []), (167, .iload 4, 2, [], []), (169, .invokeinterface 206 2, 5, [7, 1, 6, 5, 0, 1286, 5, 1289], [mq_Jx4a65c_get_915e3]), (174, .checkcast 155, 3, [0, 1118], [])],
  [(177, .invokevirtual 257, 3, [0, 0, 1, 1, 0, 1486], [mq_X12_coming]), (180, .invokevirtual 186, 3, [0, 2, 1, 2, 0, 1209], [mq_X13_talk_]), (183, .ifCond .ne 6, 3, [189], []), (186, .bipush 7, 2, [], []), (188, .ireturn, 1, [1], []), (189, .iinc 4 1, 3, [], [])],
  [(192, .goto (-55), 3, [137], []), (195, .iconst 0, 1, [], []), (196, .ireturn, 1, [1], [])]]
theorem kq_X13_why : CdQ mq_X13_why cq_X13_why := ⟨by decide +kernel, allQ_of ⟨oq_Jx4a65c_get_915e3, ⟨oq_X12_isUp, ⟨oq_X13_reads, ⟨oq_X13_downIn, ⟨oq_Jx4a65c_size_8abf5, ⟨oq_Jx4a65c_get_915e3, ⟨oq_X12_coming, ⟨oq_Jx4a65c_size_8abf5, ⟨oq_X13_partners, ⟨oq_Jx4a65c_get_915e3, ⟨oq_X12_coming, ⟨oq_X13_talk_, trivial⟩⟩⟩⟩⟩⟩⟩⟩⟩⟩⟩⟩⟩
def cq_X13_begin : Cd := [
  [(0, .aload_n 0, 1, [], []), (1, .getfield 49, 3, [10, 23, 3, 797, 0], []), (4, .iload_n 1, 1, [], []), (5, .invokeinterface 206 2, 5, [7, 1, 6, 5, 0, 1286, 5, 1289], [mq_Jx4a65c_get_915e3]), (10, .checkcast 155, 3, [0, 1118], []), (13, .iload_n 2, 1, [], []), (14, .putfield 276, 3, [9, 2, 0, 1131, 0], [])],
  [(17, .aload_n 0, 1, [], []), (18, .getfield 49, 3, [10, 23, 3, 797, 0], []), (21, .iload_n 1, 1, [], []), (22, .invokeinterface 206 2, 5, [7, 1, 6, 5, 0, 1286, 5, 1289], [mq_Jx4a65c_get_915e3]), (27, .checkcast 155, 3, [0, 1118], []), (30, .aload_n 0, 1, [], []), (31, .getfield 220, 3, [10, 6, 0, 771, 0], [])],
  [(34, .aload_n 0, 1, [], []), (35, .getfield 19, 3, [10, 3, 0, 767, 0], []), (38, .iadd, 1, [], []), (39, .putfield 278, 3, [9, 3, 0, 1134, 0], []), (42, .aload_n 0, 1, [], []), (43, .iconst 0, 1, [], []), (44, .iload_n 1, 1, [], []), (45, .iload_n 2, 1, [], []), (46, .invokevirtual 281, 3, [0, 3, 0, 2, 152, 1495], [mq_X13_note])],
  [(49, .return_, 1, [], [])]]
theorem kq_X13_begin : CdQ mq_X13_begin cq_X13_begin := ⟨by decide +kernel, allQ_of ⟨oq_Jx4a65c_get_915e3, ⟨oq_Jx4a65c_get_915e3, ⟨oq_X13_note, trivial⟩⟩⟩⟩
def cq_X13_whyCommit : Cd := [
  [(0, .iload_n 1, 1, [], []), (1, .aload_n 0, 1, [], []), (2, .getfield 7, 3, [10, 0, 0, 763, 0], []), (5, .if_icmp .gt 5, 3, [10], []), (8, .iconst 1, 1, [], []), (9, .ireturn, 1, [1], []), (10, .aload_n 0, 1, [], []), (11, .getfield 49, 3, [10, 23, 3, 797, 0], []), (14, .invokeinterface 168 1, 5, [7, 0, 6, 5, 1, 1157, 0, 1161], [mq_Jx4a65c_iterator_32c93])],
  [(19, .astore_n 2, 1, [], []), (20, .aload_n 2, 1, [], []), (21, .invokeinterface 174 1, 5, [7, 0, 1, 6, 0, 1186, 1, 1190], [mq_Jx35411_hasNext_aae02]), (26, .ifCond .eq 30, 3, [56], []), (29, .aload_n 2, 1, [], []), (30, .invokeinterface 180 1, 5, [7, 0, 6, 6, 0, 1196, 2, 1199], [mq_Jx35411_next_0502b])],
  [(35, .checkcast 155, 3, [0, 1118], []), (38, .astore_n 3, 1, [], []), (39, .aload_n 0, 1, [], []), (40, .aload_n 3, 1, [], []), (41, .invokevirtual 257, 3, [0, 0, 1, 1, 0, 1486], [mq_X12_coming]), (44, .iload_n 1, 1, [], []), (45, .invokevirtual 164, 3, [0, 2, 1, 2, 0, 1152], [mq_X13_reads])],
  [(48, .ifCond .ne 5, 3, [53], []), (51, .iconst 2, 1, [], []), (52, .ireturn, 1, [1], []), (53, .goto (-33), 3, [20], []), (56, .iconst 0, 1, [], []), (57, .ireturn, 1, [1], [])]]
theorem kq_X13_whyCommit : CdQ mq_X13_whyCommit cq_X13_whyCommit := ⟨by decide +kernel, allQ_of ⟨oq_Jx4a65c_iterator_32c93, ⟨oq_Jx35411_hasNext_aae02, ⟨oq_Jx35411_next_0502b, ⟨oq_X12_coming, ⟨oq_X13_reads, trivial⟩⟩⟩⟩⟩⟩
def cq_X13_commit : Cd := [
  [(0, .aload_n 0, 1, [], []), (1, .getfield 7, 3, [10, 0, 0, 763, 0], []), (4, .istore_n 2, 1, [], []), (5, .aload_n 0, 1, [], []), (6, .iload_n 1, 1, [], []), (7, .putfield 7, 3, [10, 0, 0, 763, 0], []), (10, .aload_n 0, 1, [], []), (11, .bipush 7, 2, [], []), (13, .iconst (-1), 1, [], []), (14, .iload_n 1, 1, [], []), (15, .invokevirtual 281, 3, [0, 3, 0, 2, 152, 1495], [mq_X13_note])],
  [(18, .iload_n 2, 1, [], []), (19, .ireturn, 1, [1], [])]]
theorem kq_X13_commit : CdQ mq_X13_commit cq_X13_commit := ⟨by decide +kernel, allQ_of ⟨oq_X13_note, trivial⟩⟩
def cq_X13_isReady : Cd := [
  [(0, .aload_n 0, 1, [], []), (1, .getfield 49, 3, [10, 23, 3, 797, 0], []), (4, .iload_n 1, 1, [], []), (5, .invokeinterface 206 2, 5, [7, 1, 6, 5, 0, 1286, 5, 1289], [mq_Jx4a65c_get_915e3]), (10, .checkcast 155, 3, [0, 1118], []), (13, .astore_n 2, 1, [], []), (14, .aload_n 2, 1, [], []), (15, .invokevirtual 252, 3, [0, 0, 1, 1, 0, 1560], [mq_X12_isUp])],
  [(18, .ifCond .eq 39, 3, [57], []), (21, .aload_n 0, 1, [], []), (22, .getfield 241, 3, [10, 14, 1, 785, 0], []), (25, .ifCond .eq 17, 3, [42], []), (28, .aload_n 2, 1, [], []), (29, .getfield 161, 3, [9, 1, 0, 1128, 0], [])],
  [(32, .aload_n 0, 1, [], []), (33, .getfield 229, 3, [10, 10, 0, 778, 0], []), (36, .if_icmp .lt 21, 3, [57], []), (39, .goto 14, 3, [53], []), (42, .aload_n 2, 1, [], []), (43, .getfield 161, 3, [9, 1, 0, 1128, 0], []), (46, .aload_n 0, 1, [], []), (47, .getfield 229, 3, [10, 10, 0, 778, 0], [])],
  [(50, .if_icmp .gt 7, 3, [57], []), (53, .iconst 1, 1, [], []), (54, .goto 4, 3, [58], []), (57, .iconst 0, 1, [], []), (58, .ireturn, 1, [6], [])]]
theorem kq_X13_isReady : CdQ mq_X13_isReady cq_X13_isReady := ⟨by decide +kernel, allQ_of ⟨oq_Jx4a65c_get_915e3, ⟨oq_X12_isUp, trivial⟩⟩⟩
def cq_X13_measures : Cd := [
  [(0, .iconst 2, 1, [], []), (1, .newarray .int, 2, [0, 196], []), (3, .astore_n 1, 1, [], []), (4, .iconst 0, 1, [], []), (5, .istore_n 2, 1, [], []), (6, .iload_n 2, 1, [], []), (7, .aload_n 0, 1, [], []), (8, .getfield 49, 3, [10, 23, 3, 797, 0], []), (11, .invokeinterface 196 1, 5, [7, 0, 1, 5, 0, 1216, 3, 1219], [mq_Jx4a65c_size_8abf5])],
  [(16, .if_icmp .ge 64, 3, [80], []), (19, .aload_n 0, 1, [], []), (20, .invokevirtual 263, 3, [0, 0, 1, 2, 0, 1641], [mq_X13_hasPlan]), (23, .ifCond .eq 51, 3, [74], []), (26, .aload_n 0, 1, [], []), (27, .iload_n 2, 1, [], []), (28, .invokevirtual 266, 3, [0, 1, 1, 2, 0, 1485], [mq_X13_waveAt]), (31, .ifCond .lt 43, 3, [74], [])],
  [(34, .aload_n 0, 1, [], []), (35, .iload_n 2, 1, [], []), (36, .invokevirtual 269, 3, [0, 1, 1, 2, 0, 1642], [mq_X13_isReady]), (39, .ifCond .ne 6, 3, [45], []), (42, .goto 32, 3, [74], []), (45, .aload_n 1, 1, [], []), (46, .iconst 0, 1, [], []), (47, .dup2, 1, [], [])],
  [(48, .iaload, 1, [], []), (49, .iconst 1, 1, [], []), (50, .iadd, 1, [], []), (51, .iastore, 1, [], []), (52, .aload_n 1, 1, [], []), (53, .iconst 1, 1, [], []), (54, .dup2, 1, [], []), (55, .iaload, 1, [], []), (56, .aload_n 0, 1, [], []), (57, .getfield 49, 3, [10, 23, 3, 797, 0], []), (60, .iload_n 2, 1, [], []), (61, .invokeinterface 206 2, 5, [7, 1, 6, 5, 0, 1286, 5, 1289], [mq_Jx4a65c_get_915e3])],
  [(66, .checkcast 155, 3, [0, 1118], []), (69, .getfield 273, 3, [9, 4, 0, 1136, 0], []), (72, .iadd, 1, [], []), (73, .iastore, 1, [], []), (74, .iinc 2 1, 3, [], []), (77, .goto (-71), 3, [6], [])],
  [(80, .aload_n 1, 1, [], []), (81, .areturn, 1, [], [])]]
theorem kq_X13_measures : CdQ mq_X13_measures cq_X13_measures := ⟨by decide +kernel, allQ_of ⟨oq_Jx4a65c_size_8abf5, ⟨oq_X13_hasPlan, ⟨oq_X13_waveAt, ⟨oq_X13_isReady, ⟨oq_Jx4a65c_get_915e3, trivial⟩⟩⟩⟩⟩⟩
