/-! ===== tables of the methods' code, 2 ===== -/
def m_X1_readTalks : MI := (yX1_readTalks, cX1_readTalks, 3, some .boolean, 2, 45, 0, [], 0)
def m_X5_addPlace : MI := (yX5_addPlace, cX5_addPlace, 4, none, 1, 22, 0, [], 0)
def m_X1_readPlace : MI := (yX1_readPlace, cX1_readPlace, 3, some .boolean, 3, 64, 0, [], 0)
def m_X5_isReader : MI := (yX5_isReader, cX5_isReader, 3, some .boolean, 0, 0, 0, [], 0)
def m_X8_canJoin : MI := (yX8_canJoin, cX8_canJoin, 6, some .boolean, 1, 60, 0, [], 0)
def m_X5_join : MI := (yX5_join, cX5_join, 3, none, 0, 0, 0, [], 0)
def m_X5_addMember : MI := (yX5_addMember, cX5_addMember, 6, none, 1, 22, 0, [], 0)
def m_X8_addMember : MI := (yX8_addMember, cX8_addMember, 7, none, 2, 47, 0, [], 0)
def m_X1_readMember : MI := (yX1_readMember, cX1_readMember, 6, some .boolean, 6, 130, 0, [], 0)
def m_X5_addLink : MI := (yX5_addLink, cX5_addLink, 3, none, 1, 22, 0, [], 0)
def m_X1_readLink : MI := (yX1_readLink, cX1_readLink, 3, some .boolean, 2, 45, 0, [], 0)
def m_X5_addWave : MI := (yX5_addWave, cX5_addWave, 1, none, 0, 0, 0, [], 0)
def m_X5_addToWave : MI := (yX5_addToWave, cX5_addToWave, 3, none, 0, 0, 0, [], 0)
def m_X1_readPlaceOfWave : MI := (yX1_readPlaceOfWave, cX1_readPlaceOfWave, 3, some .boolean, 2, 45, 0, [], 0)
def m_X1_readWave : MI := (yX1_readWave, cX1_readWave, 4, some .boolean, 3, 67, 0, [], 0)
def m_X1_readSetting : MI := (yX1_readSetting, cX1_readSetting, 3, some .boolean, 3, 64, 0, [], 0)
def m_X1_readRest : MI := (yX1_readRest, cX1_readRest, 2, some .boolean, 7, 155, 0, [], 0)
def m_X10_takeSign : MI := (yX10_takeSign, cX10_takeSign, 2, some .boolean, 2, 41, 0, [], 0)
def m_X1_readStatement : MI := (yX1_readStatement, cX1_readStatement, 3, some .boolean, 8, 176, 0, [], 0)
def m_X1_readAll : MI := (yX1_readAll, cX1_readAll, 2, some .boolean, 9, 198, 0, [], 0)
def m_X6_copyFrom : MI := (yX6_copyFrom, cX6_copyFrom, 2, none, 1, 60, 0, [], 0)
def m_X11_copyRow : MI := (yX11_copyRow, cX11_copyRow, 2, none, 1, 60, 0, [], 1)
def m_X5_copyFrom : MI := (yX5_copyFrom, cX5_copyFrom, 2, none, 2, 81, 0, [], 0)
def m_X3_copyFrom : MI := (yX3_copyFrom, cX3_copyFrom, 2, none, 2, 81, 0, [], 0)
def m_X8_copyFrom : MI := (yX8_copyFrom, cX8_copyFrom, 2, none, 3, 102, 0, [], 0)
def m_X8_replaceBy : MI := (yX8_replaceBy, cX8_replaceBy, 2, none, 4, 123, 0, [], 0)
def m_X4_forget : MI := (yX4_forget, cX4_forget, 1, none, 0, 0, 0, [], 0)
def m_X11_readText : MI := (yX11_readText, cX11_readText, 2, some .int, 10, 219, 1, [], 0)
def m_X5_numberOf : MI := (yX5_numberOf, cX5_numberOf, 2, some .int, 0, 0, 0, [], 0)
def m_X11_setting : MI := (yX11_setting, cX11_setting, 2, some .int, 6, 89, 1, [], 0)
def m_X11_needVersion : MI := (yX11_needVersion, cX11_needVersion, 2, none, 6, 89, 1, [], 0)
def m_X11_mayTalk : MI := (yX11_mayTalk, cX11_mayTalk, 3, some .boolean, 7, 110, 2, [], 0)
def m_X11_needFormat : MI := (yX11_needFormat, cX11_needFormat, 1, none, 6, 89, 1, [], 1)
def m_X5_readersOf : MI := (yX5_readersOf, cX5_readersOf, 4, some .int, 1, 22, 0, [], 0)
def m_X11_readers : MI := (yX11_readers, cX11_readers, 2, some .int, 7, 109, 1, [], 0)
theorem o_X1_readTalks : MOK m_X1_readTalks := MOKi (tbG_at (p := 534) (by decide +kernel)) (tbG_at (p := 27) (by decide +kernel)) (by decide +kernel) rfl rfl (tbG_at (p := 533) (by decide +kernel)) (tbG_atS (p := 6) (by decide +kernel))
theorem o_X5_addPlace : MOK m_X5_addPlace := MOKi (tbG_at (p := 557) (by decide +kernel)) (tbG_at (p := 23) (by decide +kernel)) (by decide +kernel) rfl rfl (tbG_at (p := 555) (by decide +kernel)) (tbG_at (p := 556) (by decide +kernel))
theorem o_X1_readPlace : MOK m_X1_readPlace := MOKi (tbG_at (p := 553) (by decide +kernel)) (tbG_at (p := 27) (by decide +kernel)) (by decide +kernel) rfl rfl (tbG_at (p := 552) (by decide +kernel)) (tbG_atS (p := 7) (by decide +kernel))
theorem o_X5_isReader : MOK m_X5_isReader := MOKi (tbG_at (p := 570) (by decide +kernel)) (tbG_at (p := 23) (by decide +kernel)) (by decide +kernel) rfl rfl (tbG_at (p := 568) (by decide +kernel)) (tbG_at (p := 569) (by decide +kernel))
theorem o_X8_canJoin : MOK m_X8_canJoin := MOKi (tbG_at (p := 565) (by decide +kernel)) (tbG_at (p := 22) (by decide +kernel)) (by decide +kernel) rfl rfl (tbG_at (p := 563) (by decide +kernel)) (tbG_at (p := 564) (by decide +kernel))
theorem o_X5_join : MOK m_X5_join := MOKi (tbG_at (p := 588) (by decide +kernel)) (tbG_at (p := 23) (by decide +kernel)) (by decide +kernel) rfl rfl (tbG_at (p := 587) (by decide +kernel)) (tbG_atS (p := 9) (by decide +kernel))
theorem o_X5_addMember : MOK m_X5_addMember := MOKi (tbG_at (p := 584) (by decide +kernel)) (tbG_at (p := 23) (by decide +kernel)) (by decide +kernel) rfl rfl (tbG_at (p := 582) (by decide +kernel)) (tbG_at (p := 583) (by decide +kernel))
theorem o_X8_addMember : MOK m_X8_addMember := MOKi (tbG_at (p := 580) (by decide +kernel)) (tbG_at (p := 22) (by decide +kernel)) (by decide +kernel) rfl rfl (tbG_at (p := 578) (by decide +kernel)) (tbG_at (p := 579) (by decide +kernel))
theorem o_X1_readMember : MOK m_X1_readMember := MOKi (tbG_at (p := 561) (by decide +kernel)) (tbG_at (p := 27) (by decide +kernel)) (by decide +kernel) rfl rfl (tbG_at (p := 560) (by decide +kernel)) (tbG_atS (p := 8) (by decide +kernel))
theorem o_X5_addLink : MOK m_X5_addLink := MOKi (tbG_at (p := 596) (by decide +kernel)) (tbG_at (p := 23) (by decide +kernel)) (by decide +kernel) rfl rfl (tbG_at (p := 594) (by decide +kernel)) (tbG_at (p := 595) (by decide +kernel))
theorem o_X1_readLink : MOK m_X1_readLink := MOKi (tbG_at (p := 592) (by decide +kernel)) (tbG_at (p := 27) (by decide +kernel)) (by decide +kernel) rfl rfl (tbG_at (p := 591) (by decide +kernel)) (tbG_atS (p := 10) (by decide +kernel))
theorem o_X5_addWave : MOK m_X5_addWave := MOKi (tbG_at (p := 604) (by decide +kernel)) (tbG_at (p := 23) (by decide +kernel)) (by decide +kernel) rfl rfl (tbG_at (p := 602) (by decide +kernel)) (tbG_at (p := 603) (by decide +kernel))
theorem o_X5_addToWave : MOK m_X5_addToWave := MOKi (tbG_at (p := 612) (by decide +kernel)) (tbG_at (p := 23) (by decide +kernel)) (by decide +kernel) rfl rfl (tbG_at (p := 610) (by decide +kernel)) (tbG_at (p := 611) (by decide +kernel))
theorem o_X1_readPlaceOfWave : MOK m_X1_readPlaceOfWave := MOKi (tbG_at (p := 608) (by decide +kernel)) (tbG_at (p := 27) (by decide +kernel)) (by decide +kernel) rfl rfl (tbG_at (p := 607) (by decide +kernel)) (tbG_atS (p := 12) (by decide +kernel))
theorem o_X1_readWave : MOK m_X1_readWave := MOKi (tbG_at (p := 600) (by decide +kernel)) (tbG_at (p := 27) (by decide +kernel)) (by decide +kernel) rfl rfl (tbG_at (p := 599) (by decide +kernel)) (tbG_atS (p := 11) (by decide +kernel))
theorem o_X1_readSetting : MOK m_X1_readSetting := MOKi (tbG_at (p := 616) (by decide +kernel)) (tbG_at (p := 27) (by decide +kernel)) (by decide +kernel) rfl rfl (tbG_at (p := 615) (by decide +kernel)) (tbG_atS (p := 13) (by decide +kernel))
theorem o_X1_readRest : MOK m_X1_readRest := MOKi (tbG_at (p := 505) (by decide +kernel)) (tbG_at (p := 27) (by decide +kernel)) (by decide +kernel) rfl rfl (tbG_at (p := 504) (by decide +kernel)) (tbG_atS (p := 4) (by decide +kernel))
theorem o_X10_takeSign : MOK m_X10_takeSign := MOKi (tbG_at (p := 620) (by decide +kernel)) (tbG_at (p := 21) (by decide +kernel)) (by decide +kernel) rfl rfl (tbG_at (p := 618) (by decide +kernel)) (tbG_at (p := 619) (by decide +kernel))
theorem o_X1_readStatement : MOK m_X1_readStatement := MOKi (tbG_at (p := 423) (by decide +kernel)) (tbG_at (p := 27) (by decide +kernel)) (by decide +kernel) rfl rfl (tbG_at (p := 422) (by decide +kernel)) (tbG_atS (p := 2) (by decide +kernel))
theorem o_X1_readAll : MOK m_X1_readAll := MOKi (tbG_at (p := 401) (by decide +kernel)) (tbG_at (p := 27) (by decide +kernel)) (by decide +kernel) rfl rfl (tbG_at (p := 399) (by decide +kernel)) (tbG_at (p := 400) (by decide +kernel))
theorem o_X6_copyFrom : MOK m_X6_copyFrom := MOKi (tbG_at (p := 695) (by decide +kernel)) (tbG_at (p := 24) (by decide +kernel)) (by decide +kernel) rfl rfl (tbG_at (p := 693) (by decide +kernel)) (tbG_at (p := 694) (by decide +kernel))
theorem o_X11_copyRow : MOK m_X11_copyRow := MOKs (tbG_at (p := 704) (by decide +kernel)) (tbG_at (p := 20) (by decide +kernel)) (by decide +kernel) rfl rfl (tbG_at (p := 703) (by decide +kernel))
theorem o_X5_copyFrom : MOK m_X5_copyFrom := MOKi (tbG_at (p := 691) (by decide +kernel)) (tbG_at (p := 23) (by decide +kernel)) (by decide +kernel) rfl rfl (tbG_at (p := 689) (by decide +kernel)) (tbG_at (p := 690) (by decide +kernel))
theorem o_X3_copyFrom : MOK m_X3_copyFrom := MOKi (tbG_at (p := 715) (by decide +kernel)) (tbG_at (p := 25) (by decide +kernel)) (by decide +kernel) rfl rfl (tbG_at (p := 713) (by decide +kernel)) (tbG_at (p := 714) (by decide +kernel))
theorem o_X8_copyFrom : MOK m_X8_copyFrom := MOKi (tbG_at (p := 710) (by decide +kernel)) (tbG_at (p := 22) (by decide +kernel)) (by decide +kernel) rfl rfl (tbG_at (p := 708) (by decide +kernel)) (tbG_at (p := 709) (by decide +kernel))
theorem o_X8_replaceBy : MOK m_X8_replaceBy := MOKi (tbG_at (p := 687) (by decide +kernel)) (tbG_at (p := 22) (by decide +kernel)) (by decide +kernel) rfl rfl (tbG_at (p := 685) (by decide +kernel)) (tbG_at (p := 686) (by decide +kernel))
theorem o_X4_forget : MOK m_X4_forget := MOKi (tbG_at (p := 720) (by decide +kernel)) (tbG_at (p := 26) (by decide +kernel)) (by decide +kernel) rfl rfl (tbG_at (p := 718) (by decide +kernel)) (tbG_at (p := 719) (by decide +kernel))
theorem o_X11_readText : MOK m_X11_readText := MOKi (tbG_at (p := 397) (by decide +kernel)) (tbG_at (p := 20) (by decide +kernel)) (by decide +kernel) rfl rfl (tbG_at (p := 395) (by decide +kernel)) (tbG_at (p := 396) (by decide +kernel))
theorem o_X5_numberOf : MOK m_X5_numberOf := MOKi (tbG_at (p := 1358) (by decide +kernel)) (tbG_at (p := 23) (by decide +kernel)) (by decide +kernel) rfl rfl (tbG_at (p := 1356) (by decide +kernel)) (tbG_at (p := 1357) (by decide +kernel))
theorem o_X11_setting : MOK m_X11_setting := MOKi (tbG_at (p := 1354) (by decide +kernel)) (tbG_at (p := 20) (by decide +kernel)) (by decide +kernel) rfl rfl (tbG_at (p := 1352) (by decide +kernel)) (tbG_at (p := 1353) (by decide +kernel))
theorem o_X11_needVersion : MOK m_X11_needVersion := MOKi (tbG_at (p := 1439) (by decide +kernel)) (tbG_at (p := 20) (by decide +kernel)) (by decide +kernel) rfl rfl (tbG_at (p := 1438) (by decide +kernel)) (tbG_atS (p := 24) (by decide +kernel))
theorem o_X11_mayTalk : MOK m_X11_mayTalk := MOKi (tbG_at (p := 1730) (by decide +kernel)) (tbG_at (p := 20) (by decide +kernel)) (by decide +kernel) rfl rfl (tbG_at (p := 1728) (by decide +kernel)) (tbG_at (p := 1729) (by decide +kernel))
theorem o_X11_needFormat : MOK m_X11_needFormat := MOKs (tbG_at (p := 1607) (by decide +kernel)) (tbG_at (p := 20) (by decide +kernel)) (by decide +kernel) rfl rfl (tbG_at (p := 1606) (by decide +kernel))
theorem o_X5_readersOf : MOK m_X5_readersOf := MOKi (tbG_at (p := 1619) (by decide +kernel)) (tbG_at (p := 23) (by decide +kernel)) (by decide +kernel) rfl rfl (tbG_at (p := 1617) (by decide +kernel)) (tbG_at (p := 1618) (by decide +kernel))
theorem o_X11_readers : MOK m_X11_readers := MOKi (tbG_at (p := 1721) (by decide +kernel)) (tbG_at (p := 20) (by decide +kernel)) (by decide +kernel) rfl rfl (tbG_at (p := 1719) (by decide +kernel)) (tbG_at (p := 1720) (by decide +kernel))
def c_X1_readTalks : Cd := [
  [(0, .aload_n 0, 1, [], []), (1, .getfield 15, 3, [0, 0, 3, 308], []), (4, .aload_n 0, 1, [], []), (5, .getfield 29, 3, [0, 2, 3, 310], []), (8, .getfield 82, 3, [3, 0, 3, 114], []), (11, .invokevirtual 142, 3, [0, 1, 1, 7, 0, 535], [m_X10_findName]), (14, .istore_n 1, 1, [], []), (15, .iload_n 1, 1, [], [])],
  [(16, .iconst (-1), 1, [], []), (17, .if_icmp .ne 5, 3, [22], []), (20, .iconst 0, 1, [], []), (21, .ireturn, 1, [6], []), (22, .aload_n 0, 1, [], []), (23, .getfield 15, 3, [0, 0, 3, 308], []), (26, .invokevirtual 62, 3, [0, 0, 0, 7, 0, 501], [m_X10_advance]), (29, .aload_n 0, 1, [], []), (30, .getfield 15, 3, [0, 0, 3, 308], [])],
  [(33, .aload_n 0, 1, [], []), (34, .getfield 29, 3, [0, 2, 3, 310], []), (37, .getfield 82, 3, [3, 0, 3, 114], []), (40, .invokevirtual 142, 3, [0, 1, 1, 7, 0, 535], [m_X10_findName]), (43, .istore_n 2, 1, [], []), (44, .iload_n 2, 1, [], []), (45, .iconst (-1), 1, [], []), (46, .if_icmp .ne 5, 3, [51], [])],
  [(49, .iconst 0, 1, [], []), (50, .ireturn, 1, [6], []), (51, .iload_n 2, 1, [], []), (52, .iload_n 1, 1, [], []), (53, .if_icmp .ne 12, 3, [65], []), (56, .aload_n 0, 1, [], []), (57, .getfield 15, 3, [0, 0, 3, 308], []), (60, .iconst 3, 1, [], []), (61, .invokevirtual 54, 3, [0, 1, 1, 7, 0, 481], [m_X10_fail])],
  [(64, .ireturn, 1, [6], []), (65, .aload_n 0, 1, [], []), (66, .getfield 29, 3, [0, 2, 3, 310], []), (69, .iload_n 1, 1, [], []), (70, .invokevirtual 146, 3, [0, 1, 1, 3, 0, 539], [m_X5_talkersOf]), (73, .iload_n 2, 1, [], []), (74, .invokestatic 150, 3, [2, 2, 1, 0, 0, 4], [m_X11_isIn]), (77, .ifCond .eq 12, 3, [89], [])],
  [(80, .aload_n 0, 1, [], []), (81, .getfield 15, 3, [0, 0, 3, 308], []), (84, .iconst 4, 1, [], []), (85, .invokevirtual 54, 3, [0, 1, 1, 7, 0, 481], [m_X10_fail]), (88, .ireturn, 1, [6], []), (89, .aload_n 0, 1, [], []), (90, .getfield 15, 3, [0, 0, 3, 308], []), (93, .invokevirtual 62, 3, [0, 0, 0, 7, 0, 501], [m_X10_advance])],
  [(96, .aload_n 0, 1, [], []), (97, .getfield 29, 3, [0, 2, 3, 310], []), (100, .iload_n 1, 1, [], []), (101, .iload_n 2, 1, [], []), (102, .invokevirtual 154, 3, [0, 2, 0, 3, 0, 546], [m_X5_addTalk]), (105, .iconst 1, 1, [], []), (106, .ireturn, 1, [6], [])]]
theorem k_X1_readTalks : CdOk m_X1_readTalks c_X1_readTalks := ⟨by decide +kernel, allM_of ⟨o_X10_findName, ⟨o_X10_advance, ⟨o_X10_findName, ⟨o_X10_fail, ⟨o_X5_talkersOf, ⟨o_X11_isIn, ⟨o_X10_fail, ⟨o_X10_advance, ⟨o_X5_addTalk, trivial⟩⟩⟩⟩⟩⟩⟩⟩⟩⟩
def c_X5_addPlace : Cd := [
  [(0, .aload_n 0, 1, [], []), (1, .getfield 30, 3, [3, 4, 3, 119], []), (4, .getfield 54, 3, [4, 1, 0, 99], []), (7, .istore_n 3, 1, [], []), (8, .iload_n 3, 1, [], []), (9, .iconst 5, 1, [], []), (10, .if_icmp .ge 25, 3, [35], []), (13, .aload_n 0, 1, [], []), (14, .getfield 30, 3, [3, 4, 3, 119], [])],
  [(17, .lload_n 1, 1, [], []), (18, .invokevirtual 87, 3, [0, 1, 0, 4, 0, 527], [m_X6_add]), (21, .aload_n 0, 1, [], []), (22, .getfield 33, 3, [3, 5, 3, 122], []), (25, .iload_n 3, 1, [], []), (26, .iconst (-1), 1, [], []), (27, .iastore, 1, [], []), (28, .aload_n 0, 1, [], []), (29, .getfield 36, 3, [3, 6, 3, 124], [])],
  [(32, .iload_n 3, 1, [], []), (33, .iconst 0, 1, [], []), (34, .iastore, 1, [], []), (35, .return_, 1, [], [])]]
theorem k_X5_addPlace : CdOk m_X5_addPlace c_X5_addPlace := ⟨by decide +kernel, allM_of ⟨o_X6_add, trivial⟩⟩
def c_X1_readPlace : Cd := [
  [(0, .aload_n 0, 1, [], []), (1, .getfield 15, 3, [0, 0, 3, 308], []), (4, .aload_n 0, 1, [], []), (5, .getfield 29, 3, [0, 2, 3, 310], []), (8, .getfield 91, 3, [3, 4, 3, 120], []), (11, .invokevirtual 130, 3, [0, 1, 2, 7, 0, 510], [m_X10_takeNewName]), (14, .lstore_n 1, 1, [], []), (15, .lload_n 1, 1, [], [])],
  [(16, .lconst 0, 1, [], []), (17, .lcmp, 1, [], []), (18, .ifCond .ne 5, 3, [23], []), (21, .iconst 0, 1, [], []), (22, .ireturn, 1, [6], []), (23, .aload_n 0, 1, [], []), (24, .getfield 29, 3, [0, 2, 3, 310], []), (27, .lload_n 1, 1, [], []), (28, .invokevirtual 158, 3, [0, 1, 0, 3, 0, 554], [m_X5_addPlace]), (31, .iconst 1, 1, [], [])],
  [(32, .ireturn, 1, [6], [])]]
theorem k_X1_readPlace : CdOk m_X1_readPlace c_X1_readPlace := ⟨by decide +kernel, allM_of ⟨o_X10_takeNewName, ⟨o_X5_addPlace, trivial⟩⟩⟩
def c_X5_isReader : Cd := [
  [(0, .iload_n 1, 1, [], []), (1, .ifCond .lt 38, 3, [39], []), (4, .iload_n 1, 1, [], []), (5, .aload_n 0, 1, [], []), (6, .getfield 14, 3, [3, 0, 3, 113], []), (9, .getfield 54, 3, [4, 1, 0, 99], []), (12, .if_icmp .ge 27, 3, [39], []), (15, .aload_n 0, 1, [], [])],
  [(16, .getfield 20, 3, [3, 1, 3, 116], []), (19, .iload_n 1, 1, [], []), (20, .iaload, 1, [], []), (21, .iload_n 2, 1, [], []), (22, .if_icmp .gt 17, 3, [39], []), (25, .iload_n 2, 1, [], []), (26, .aload_n 0, 1, [], []), (27, .getfield 24, 3, [3, 2, 3, 117], []), (30, .iload_n 1, 1, [], []), (31, .iaload, 1, [], [])],
  [(32, .if_icmp .gt 7, 3, [39], []), (35, .iconst 1, 1, [], []), (36, .goto 4, 3, [40], []), (39, .iconst 0, 1, [], []), (40, .ireturn, 1, [6], [])]]
theorem k_X5_isReader : CdOk m_X5_isReader c_X5_isReader := ⟨by decide +kernel, allM_of trivial⟩
def c_X8_canJoin : Cd := [
  [(0, .aload_n 0, 1, [], []), (1, .getfield 31, 3, [6, 0, 3, 225], []), (4, .iload_n 2, 1, [], []), (5, .invokevirtual 100, 3, [0, 1, 1, 3, 0, 566], [m_X5_talkersOf]), (8, .istore_n 3, 1, [], []), (9, .aload_n 0, 1, [], []), (10, .getfield 31, 3, [6, 0, 3, 225], []), (13, .iload_n 2, 1, [], []), (14, .aload_n 0, 1, [], []), (15, .getfield 42, 3, [6, 2, 0, 228], [])],
  [(18, .invokevirtual 104, 3, [0, 2, 1, 3, 0, 567], [m_X5_isReader]), (21, .istore 4, 2, [], []), (23, .iconst 0, 1, [], []), (24, .istore 5, 2, [], []), (26, .iload 5, 2, [], []), (28, .aload_n 0, 1, [], []), (29, .getfield 31, 3, [6, 0, 3, 225], [])],
  [(32, .getfield 89, 3, [3, 8, 3, 131], []), (35, .getfield 93, 3, [4, 1, 0, 102], []), (38, .if_icmp .ge 69, 3, [107], []), (41, .iload 4, 2, [], []), (43, .aload_n 0, 1, [], []), (44, .getfield 9, 3, [6, 3, 3, 231], []), (47, .iload 5, 2, [], [])],
  [(49, .iaload, 1, [], []), (50, .iload_n 2, 1, [], []), (51, .isub, 1, [], []), (52, .invokestatic 108, 3, [12, 571], []), (55, .aload_n 0, 1, [], []), (56, .getfield 31, 3, [6, 0, 3, 225], []), (59, .getfield 113, 3, [3, 13, 0, 145], []), (62, .if_icmp .gt 35, 3, [97], [])],
  [(65, .aload_n 0, 1, [], []), (66, .getfield 31, 3, [6, 0, 3, 225], []), (69, .getfield 116, 3, [3, 9, 3, 133], []), (72, .iload 5, 2, [], []), (74, .iaload, 1, [], []), (75, .iload_n 1, 1, [], []), (76, .if_icmp .ne 17, 3, [93], []), (79, .iload_n 3, 1, [], [])],
  [(80, .aload_n 0, 1, [], []), (81, .getfield 9, 3, [6, 3, 3, 231], []), (84, .iload 5, 2, [], []), (86, .iaload, 1, [], []), (87, .invokestatic 119, 3, [2, 2, 1, 0, 0, 0], [m_X11_isIn]), (90, .ifCond .eq 7, 3, [97], []), (93, .iconst 1, 1, [], []), (94, .goto 4, 3, [98], [])],
  [(97, .iconst 0, 1, [], []), (98, .iand, 1, [], []), (99, .istore 4, 2, [], []), (101, .iinc 5 1, 3, [], []), (104, .goto (-78), 3, [26], []), (107, .iload 4, 2, [], []), (109, .ireturn, 1, [6], [])]]
theorem k_X8_canJoin : CdOk m_X8_canJoin c_X8_canJoin := ⟨by decide +kernel, allM_of ⟨o_X5_talkersOf, ⟨o_X5_isReader, ⟨o_X11_isIn, trivial⟩⟩⟩⟩
def c_X5_join : Cd := [
  [(0, .aload_n 0, 1, [], []), (1, .getfield 48, 3, [3, 10, 3, 135], []), (4, .iload_n 1, 1, [], []), (5, .dup2, 1, [], []), (6, .iaload, 1, [], []), (7, .iconst 1, 1, [], []), (8, .iload_n 2, 1, [], []), (9, .ishl, 1, [], []), (10, .ior, 1, [], []), (11, .iastore, 1, [], []), (12, .aload_n 0, 1, [], []), (13, .getfield 48, 3, [3, 10, 3, 135], [])],
  [(16, .iload_n 2, 1, [], []), (17, .dup2, 1, [], []), (18, .iaload, 1, [], []), (19, .iconst 1, 1, [], []), (20, .iload_n 1, 1, [], []), (21, .ishl, 1, [], []), (22, .ior, 1, [], []), (23, .iastore, 1, [], []), (24, .return_, 1, [], [])]]
theorem k_X5_join : CdOk m_X5_join c_X5_join := ⟨by decide +kernel, allM_of trivial⟩
def c_X5_addMember : Cd := [
  [(0, .aload_n 0, 1, [], []), (1, .getfield 42, 3, [3, 8, 3, 128], []), (4, .getfield 54, 3, [4, 1, 0, 99], []), (7, .istore 4, 2, [], []), (9, .iload 4, 2, [], []), (11, .bipush 12, 2, [], []), (13, .if_icmp .lt 4, 3, [17], [])],
  [(16, .return_, 1, [], []), (17, .aload_n 0, 1, [], []), (18, .getfield 42, 3, [3, 8, 3, 128], []), (21, .lload_n 1, 1, [], []), (22, .invokevirtual 87, 3, [0, 1, 0, 4, 0, 527], [m_X6_add]), (25, .aload_n 0, 1, [], []), (26, .getfield 45, 3, [3, 9, 3, 132], []), (29, .iload 4, 2, [], []), (31, .iload_n 3, 1, [], [])],
  [(32, .iastore, 1, [], []), (33, .aload_n 0, 1, [], []), (34, .getfield 48, 3, [3, 10, 3, 135], []), (37, .iload 4, 2, [], []), (39, .iconst 0, 1, [], []), (40, .iastore, 1, [], []), (41, .iconst 0, 1, [], []), (42, .istore 5, 2, [], []), (44, .iload 5, 2, [], []), (46, .iload 4, 2, [], [])],
  [(48, .if_icmp .ge 28, 3, [76], []), (51, .aload_n 0, 1, [], []), (52, .getfield 45, 3, [3, 9, 3, 132], []), (55, .iload 5, 2, [], []), (57, .iaload, 1, [], []), (58, .iload_n 3, 1, [], []), (59, .if_icmp .ne 11, 3, [70], []), (62, .aload_n 0, 1, [], []), (63, .iload 4, 2, [], [])],
  [(65, .iload 5, 2, [], []), (67, .invokevirtual 91, 3, [0, 2, 0, 3, 0, 585], [m_X5_join]), (70, .iinc 5 1, 3, [], []), (73, .goto (-29), 3, [44], []), (76, .aload_n 0, 1, [], []), (77, .getfield 36, 3, [3, 6, 3, 124], [])],
  [(80, .iload_n 3, 1, [], []), (81, .dup2, 1, [], []), (82, .iaload, 1, [], []), (83, .iconst 1, 1, [], []), (84, .iload 4, 2, [], []), (86, .ishl, 1, [], []), (87, .ior, 1, [], []), (88, .iastore, 1, [], []), (89, .aload_n 0, 1, [], []), (90, .getfield 33, 3, [3, 5, 3, 122], []), (93, .iload_n 3, 1, [], []), (94, .iaload, 1, [], []), (95, .istore 5, 2, [], [])],
  [(97, .iload 5, 2, [], []), (99, .ifCond .lt 26, 3, [125], []), (102, .iload 5, 2, [], []), (104, .aload_n 0, 1, [], []), (105, .getfield 61, 3, [3, 12, 0, 141], []), (108, .if_icmp .ge 17, 3, [125], []), (111, .aload_n 0, 1, [], [])],
  [(112, .getfield 39, 3, [3, 7, 3, 126], []), (115, .iload 5, 2, [], []), (117, .dup2, 1, [], []), (118, .iaload, 1, [], []), (119, .iconst 1, 1, [], []), (120, .iload 4, 2, [], []), (122, .ishl, 1, [], []), (123, .ior, 1, [], []), (124, .iastore, 1, [], []), (125, .return_, 1, [], [])]]
theorem k_X5_addMember : CdOk m_X5_addMember c_X5_addMember := ⟨by decide +kernel, allM_of ⟨o_X6_add, ⟨o_X5_join, trivial⟩⟩⟩
def c_X8_addMember : Cd := [
  [(0, .aload_n 0, 1, [], []), (1, .getfield 31, 3, [6, 0, 3, 225], []), (4, .getfield 89, 3, [3, 8, 3, 131], []), (7, .getfield 93, 3, [4, 1, 0, 102], []), (10, .istore 6, 2, [], []), (12, .iload 6, 2, [], []), (14, .bipush 12, 2, [], [])],
  [(16, .if_icmp .ge 68, 3, [84], []), (19, .aload_n 0, 1, [], []), (20, .getfield 31, 3, [6, 0, 3, 225], []), (23, .lload_n 1, 1, [], []), (24, .iload_n 3, 1, [], []), (25, .invokevirtual 96, 3, [0, 2, 0, 3, 0, 581], [m_X5_addMember]), (28, .aload_n 0, 1, [], []), (29, .getfield 9, 3, [6, 3, 3, 231], [])],
  [(32, .iload 6, 2, [], []), (34, .iload 4, 2, [], []), (36, .iastore, 1, [], []), (37, .aload_n 0, 1, [], []), (38, .getfield 15, 3, [6, 4, 3, 233], []), (41, .iload 6, 2, [], []), (43, .iload 4, 2, [], []), (45, .iastore, 1, [], []), (46, .aload_n 0, 1, [], []), (47, .getfield 18, 3, [6, 5, 3, 234], [])],
  [(50, .iload 6, 2, [], []), (52, .iconst (-1), 1, [], []), (53, .iastore, 1, [], []), (54, .aload_n 0, 1, [], []), (55, .getfield 21, 3, [6, 6, 3, 235], []), (58, .iload 6, 2, [], []), (60, .iconst 0, 1, [], []), (61, .iastore, 1, [], []), (62, .aload_n 0, 1, [], []), (63, .dup, 1, [], [])],
  [(64, .getfield 48, 3, [6, 8, 0, 238], []), (67, .iload 5, 2, [], []), (69, .ifCond .eq 10, 3, [79], []), (72, .iconst 1, 1, [], []), (73, .iload 6, 2, [], []), (75, .ishl, 1, [], []), (76, .goto 4, 3, [80], []), (79, .iconst 0, 1, [], [])],
  [(80, .ior, 1, [], []), (81, .putfield 48, 3, [6, 8, 0, 238], []), (84, .return_, 1, [], [])]]
theorem k_X8_addMember : CdOk m_X8_addMember c_X8_addMember := ⟨by decide +kernel, allM_of ⟨o_X5_addMember, trivial⟩⟩
def c_X1_readMember : Cd := [
  [(0, .aload_n 0, 1, [], []), (1, .getfield 15, 3, [0, 0, 3, 308], []), (4, .aload_n 0, 1, [], []), (5, .getfield 29, 3, [0, 2, 3, 310], []), (8, .getfield 94, 3, [3, 8, 3, 130], []), (11, .invokevirtual 130, 3, [0, 1, 2, 7, 0, 510], [m_X10_takeNewName]), (14, .lstore_n 1, 1, [], []), (15, .lload_n 1, 1, [], [])],
  [(16, .lconst 0, 1, [], []), (17, .lcmp, 1, [], []), (18, .ifCond .ne 5, 3, [23], []), (21, .iconst 0, 1, [], []), (22, .ireturn, 1, [6], []), (23, .aload_n 0, 1, [], []), (24, .getfield 15, 3, [0, 0, 3, 308], []), (27, .aload_n 0, 1, [], []), (28, .getfield 29, 3, [0, 2, 3, 310], []), (31, .getfield 91, 3, [3, 4, 3, 120], [])],
  [(34, .invokevirtual 142, 3, [0, 1, 1, 7, 0, 535], [m_X10_findName]), (37, .istore_n 3, 1, [], []), (38, .iload_n 3, 1, [], []), (39, .iconst (-1), 1, [], []), (40, .if_icmp .ne 5, 3, [45], []), (43, .iconst 0, 1, [], []), (44, .ireturn, 1, [6], []), (45, .aload_n 0, 1, [], []), (46, .getfield 15, 3, [0, 0, 3, 308], [])],
  [(49, .invokevirtual 62, 3, [0, 0, 0, 7, 0, 501], [m_X10_advance]), (52, .aload_n 0, 1, [], []), (53, .getfield 15, 3, [0, 0, 3, 308], []), (56, .aload_n 0, 1, [], []), (57, .getfield 29, 3, [0, 2, 3, 310], []), (60, .getfield 82, 3, [3, 0, 3, 114], []), (63, .invokevirtual 142, 3, [0, 1, 1, 7, 0, 535], [m_X10_findName])],
  [(66, .istore 4, 2, [], []), (68, .iload 4, 2, [], []), (70, .iconst (-1), 1, [], []), (71, .if_icmp .ne 5, 3, [76], []), (74, .iconst 0, 1, [], []), (75, .ireturn, 1, [6], []), (76, .aload_n 0, 1, [], []), (77, .getfield 19, 3, [0, 1, 3, 309], [])],
  [(80, .iload_n 3, 1, [], []), (81, .iload 4, 2, [], []), (83, .invokevirtual 162, 3, [0, 2, 1, 6, 0, 562], [m_X8_canJoin]), (86, .ifCond .ne 12, 3, [98], []), (89, .aload_n 0, 1, [], []), (90, .getfield 15, 3, [0, 0, 3, 308], []), (93, .iconst 5, 1, [], []), (94, .invokevirtual 54, 3, [0, 1, 1, 7, 0, 481], [m_X10_fail])],
  [(97, .ireturn, 1, [6], []), (98, .aload_n 0, 1, [], []), (99, .getfield 15, 3, [0, 0, 3, 308], []), (102, .invokevirtual 62, 3, [0, 0, 0, 7, 0, 501], [m_X10_advance]), (105, .aload_n 0, 1, [], []), (106, .getfield 15, 3, [0, 0, 3, 308], []), (109, .ldc 165, 2, [1084], []), (111, .invokevirtual 167, 3, [0, 1, 1, 7, 0, 576], [m_X10_isWord])],
  [(114, .istore 5, 2, [], []), (116, .iload 5, 2, [], []), (118, .ifCond .eq 10, 3, [128], []), (121, .aload_n 0, 1, [], []), (122, .getfield 15, 3, [0, 0, 3, 308], []), (125, .invokevirtual 62, 3, [0, 0, 0, 7, 0, 501], [m_X10_advance])],
  [(128, .aload_n 0, 1, [], []), (129, .getfield 19, 3, [0, 1, 3, 309], []), (132, .lload_n 1, 1, [], []), (133, .iload_n 3, 1, [], []), (134, .iload 4, 2, [], []), (136, .iload 5, 2, [], []), (138, .invokevirtual 171, 3, [0, 4, 0, 6, 0, 577], [m_X8_addMember]), (141, .iconst 1, 1, [], []), (142, .ireturn, 1, [6], [])]]
theorem k_X1_readMember : CdOk m_X1_readMember c_X1_readMember := ⟨by decide +kernel, allM_of ⟨o_X10_takeNewName, ⟨o_X10_findName, ⟨o_X10_advance, ⟨o_X10_findName, ⟨o_X8_canJoin, ⟨o_X10_fail, ⟨o_X10_advance, ⟨o_X10_isWord, ⟨o_X10_advance, ⟨o_X8_addMember, trivial⟩⟩⟩⟩⟩⟩⟩⟩⟩⟩⟩
def c_X5_addLink : Cd := [
  [(0, .aload_n 0, 1, [], []), (1, .iload_n 1, 1, [], []), (2, .iload_n 2, 1, [], []), (3, .invokevirtual 91, 3, [0, 2, 0, 3, 0, 585], [m_X5_join]), (6, .aload_n 0, 1, [], []), (7, .dup, 1, [], []), (8, .getfield 58, 3, [3, 11, 0, 139], []), (11, .iconst 1, 1, [], []), (12, .iadd, 1, [], []), (13, .putfield 58, 3, [3, 11, 0, 139], [])],
  [(16, .return_, 1, [], [])]]
theorem k_X5_addLink : CdOk m_X5_addLink c_X5_addLink := ⟨by decide +kernel, allM_of ⟨o_X5_join, trivial⟩⟩
def c_X1_readLink : Cd := [
  [(0, .aload_n 0, 1, [], []), (1, .getfield 15, 3, [0, 0, 3, 308], []), (4, .aload_n 0, 1, [], []), (5, .getfield 29, 3, [0, 2, 3, 310], []), (8, .getfield 94, 3, [3, 8, 3, 130], []), (11, .invokevirtual 142, 3, [0, 1, 1, 7, 0, 535], [m_X10_findName]), (14, .istore_n 1, 1, [], []), (15, .iload_n 1, 1, [], [])],
  [(16, .iconst (-1), 1, [], []), (17, .if_icmp .ne 5, 3, [22], []), (20, .iconst 0, 1, [], []), (21, .ireturn, 1, [6], []), (22, .aload_n 0, 1, [], []), (23, .getfield 15, 3, [0, 0, 3, 308], []), (26, .invokevirtual 62, 3, [0, 0, 0, 7, 0, 501], [m_X10_advance]), (29, .aload_n 0, 1, [], []), (30, .getfield 15, 3, [0, 0, 3, 308], [])],
  [(33, .aload_n 0, 1, [], []), (34, .getfield 29, 3, [0, 2, 3, 310], []), (37, .getfield 94, 3, [3, 8, 3, 130], []), (40, .invokevirtual 142, 3, [0, 1, 1, 7, 0, 535], [m_X10_findName]), (43, .istore_n 2, 1, [], []), (44, .iload_n 2, 1, [], []), (45, .iconst (-1), 1, [], []), (46, .if_icmp .ne 5, 3, [51], [])],
  [(49, .iconst 0, 1, [], []), (50, .ireturn, 1, [6], []), (51, .aload_n 0, 1, [], []), (52, .getfield 29, 3, [0, 2, 3, 310], []), (55, .getfield 175, 3, [3, 9, 3, 134], []), (58, .iload_n 1, 1, [], []), (59, .iaload, 1, [], []), (60, .aload_n 0, 1, [], []), (61, .getfield 29, 3, [0, 2, 3, 310], [])],
  [(64, .getfield 175, 3, [3, 9, 3, 134], []), (67, .iload_n 2, 1, [], []), (68, .iaload, 1, [], []), (69, .if_icmp .ne 12, 3, [81], []), (72, .aload_n 0, 1, [], []), (73, .getfield 15, 3, [0, 0, 3, 308], []), (76, .iconst 3, 1, [], []), (77, .invokevirtual 54, 3, [0, 1, 1, 7, 0, 481], [m_X10_fail])],
  [(80, .ireturn, 1, [6], []), (81, .aload_n 0, 1, [], []), (82, .getfield 29, 3, [0, 2, 3, 310], []), (85, .getfield 178, 3, [3, 10, 3, 136], []), (88, .iload_n 1, 1, [], []), (89, .iaload, 1, [], []), (90, .iload_n 2, 1, [], []), (91, .invokestatic 150, 3, [2, 2, 1, 0, 0, 4], [m_X11_isIn]), (94, .ifCond .eq 12, 3, [106], [])],
  [(97, .aload_n 0, 1, [], []), (98, .getfield 15, 3, [0, 0, 3, 308], []), (101, .iconst 4, 1, [], []), (102, .invokevirtual 54, 3, [0, 1, 1, 7, 0, 481], [m_X10_fail]), (105, .ireturn, 1, [6], []), (106, .aload_n 0, 1, [], []), (107, .getfield 29, 3, [0, 2, 3, 310], []), (110, .aload_n 0, 1, [], []), (111, .getfield 19, 3, [0, 1, 3, 309], [])],
  [(114, .getfield 181, 3, [6, 3, 3, 232], []), (117, .iload_n 1, 1, [], []), (118, .iaload, 1, [], []), (119, .invokevirtual 146, 3, [0, 1, 1, 3, 0, 539], [m_X5_talkersOf]), (122, .aload_n 0, 1, [], []), (123, .getfield 19, 3, [0, 1, 3, 309], []), (126, .getfield 181, 3, [6, 3, 3, 232], [])],
  [(129, .iload_n 2, 1, [], []), (130, .iaload, 1, [], []), (131, .invokestatic 150, 3, [2, 2, 1, 0, 0, 4], [m_X11_isIn]), (134, .ifCond .ne 12, 3, [146], []), (137, .aload_n 0, 1, [], []), (138, .getfield 15, 3, [0, 0, 3, 308], []), (141, .iconst 5, 1, [], []), (142, .invokevirtual 54, 3, [0, 1, 1, 7, 0, 481], [m_X10_fail])],
  [(145, .ireturn, 1, [6], []), (146, .aload_n 0, 1, [], []), (147, .getfield 15, 3, [0, 0, 3, 308], []), (150, .invokevirtual 62, 3, [0, 0, 0, 7, 0, 501], [m_X10_advance]), (153, .aload_n 0, 1, [], []), (154, .getfield 29, 3, [0, 2, 3, 310], []), (157, .iload_n 1, 1, [], []), (158, .iload_n 2, 1, [], []), (159, .invokevirtual 184, 3, [0, 2, 0, 3, 0, 593], [m_X5_addLink])],
  [(162, .iconst 1, 1, [], []), (163, .ireturn, 1, [6], [])]]
theorem k_X1_readLink : CdOk m_X1_readLink c_X1_readLink := ⟨by decide +kernel, allM_of ⟨o_X10_findName, ⟨o_X10_advance, ⟨o_X10_findName, ⟨o_X10_fail, ⟨o_X11_isIn, ⟨o_X10_fail, ⟨o_X5_talkersOf, ⟨o_X11_isIn, ⟨o_X10_fail, ⟨o_X10_advance, ⟨o_X5_addLink, trivial⟩⟩⟩⟩⟩⟩⟩⟩⟩⟩⟩⟩
def c_X5_addWave : Cd := [
  [(0, .aload_n 0, 1, [], []), (1, .getfield 61, 3, [3, 12, 0, 141], []), (4, .iconst 5, 1, [], []), (5, .if_icmp .ge 23, 3, [28], []), (8, .aload_n 0, 1, [], []), (9, .getfield 39, 3, [3, 7, 3, 126], []), (12, .aload_n 0, 1, [], []), (13, .getfield 61, 3, [3, 12, 0, 141], [])],
  [(16, .iconst 0, 1, [], []), (17, .iastore, 1, [], []), (18, .aload_n 0, 1, [], []), (19, .dup, 1, [], []), (20, .getfield 61, 3, [3, 12, 0, 141], []), (23, .iconst 1, 1, [], []), (24, .iadd, 1, [], []), (25, .putfield 61, 3, [3, 12, 0, 141], []), (28, .return_, 1, [], [])]]
theorem k_X5_addWave : CdOk m_X5_addWave c_X5_addWave := ⟨by decide +kernel, allM_of trivial⟩
def c_X5_addToWave : Cd := [
  [(0, .aload_n 0, 1, [], []), (1, .getfield 33, 3, [3, 5, 3, 122], []), (4, .iload_n 1, 1, [], []), (5, .iload_n 2, 1, [], []), (6, .iastore, 1, [], []), (7, .aload_n 0, 1, [], []), (8, .getfield 39, 3, [3, 7, 3, 126], []), (11, .iload_n 2, 1, [], []), (12, .dup2, 1, [], []), (13, .iaload, 1, [], []), (14, .aload_n 0, 1, [], []), (15, .getfield 36, 3, [3, 6, 3, 124], [])],
  [(18, .iload_n 1, 1, [], []), (19, .iaload, 1, [], []), (20, .ior, 1, [], []), (21, .iastore, 1, [], []), (22, .return_, 1, [], [])]]
theorem k_X5_addToWave : CdOk m_X5_addToWave c_X5_addToWave := ⟨by decide +kernel, allM_of trivial⟩
def c_X1_readPlaceOfWave : Cd := [
  [(0, .aload_n 0, 1, [], []), (1, .getfield 15, 3, [0, 0, 3, 308], []), (4, .aload_n 0, 1, [], []), (5, .getfield 29, 3, [0, 2, 3, 310], []), (8, .getfield 91, 3, [3, 4, 3, 120], []), (11, .invokevirtual 142, 3, [0, 1, 1, 7, 0, 535], [m_X10_findName]), (14, .istore_n 2, 1, [], []), (15, .iload_n 2, 1, [], [])],
  [(16, .iconst (-1), 1, [], []), (17, .if_icmp .ne 5, 3, [22], []), (20, .iconst 0, 1, [], []), (21, .ireturn, 1, [6], []), (22, .aload_n 0, 1, [], []), (23, .getfield 29, 3, [0, 2, 3, 310], []), (26, .getfield 193, 3, [3, 5, 3, 123], []), (29, .iload_n 2, 1, [], []), (30, .iaload, 1, [], []), (31, .iconst (-1), 1, [], [])],
  [(32, .if_icmp .eq 12, 3, [44], []), (35, .aload_n 0, 1, [], []), (36, .getfield 15, 3, [0, 0, 3, 308], []), (39, .iconst 4, 1, [], []), (40, .invokevirtual 54, 3, [0, 1, 1, 7, 0, 481], [m_X10_fail]), (43, .ireturn, 1, [6], []), (44, .aload_n 0, 1, [], []), (45, .getfield 15, 3, [0, 0, 3, 308], [])],
  [(48, .invokevirtual 62, 3, [0, 0, 0, 7, 0, 501], [m_X10_advance]), (51, .aload_n 0, 1, [], []), (52, .getfield 29, 3, [0, 2, 3, 310], []), (55, .iload_n 2, 1, [], []), (56, .iload_n 1, 1, [], []), (57, .invokevirtual 196, 3, [0, 2, 0, 3, 0, 609], [m_X5_addToWave]), (60, .iconst 1, 1, [], []), (61, .ireturn, 1, [6], [])]]
theorem k_X1_readPlaceOfWave : CdOk m_X1_readPlaceOfWave c_X1_readPlaceOfWave := ⟨by decide +kernel, allM_of ⟨o_X10_findName, ⟨o_X10_fail, ⟨o_X10_advance, ⟨o_X5_addToWave, trivial⟩⟩⟩⟩⟩
def c_X1_readWave : Cd := [
  [(0, .aload_n 0, 1, [], []), (1, .getfield 29, 3, [0, 2, 3, 310], []), (4, .getfield 97, 3, [3, 12, 0, 142], []), (7, .istore_n 1, 1, [], []), (8, .aload_n 0, 1, [], []), (9, .getfield 29, 3, [0, 2, 3, 310], []), (12, .invokevirtual 187, 3, [0, 0, 0, 3, 0, 601], [m_X5_addWave]), (15, .aload_n 0, 1, [], [])],
  [(16, .iload_n 1, 1, [], []), (17, .invokevirtual 190, 3, [0, 1, 1, 0, 0, 605], [m_X1_readPlaceOfWave]), (20, .istore_n 2, 1, [], []), (21, .iconst 0, 1, [], []), (22, .istore_n 3, 1, [], []), (23, .iload_n 3, 1, [], []), (24, .iconst 5, 1, [], []), (25, .if_icmp .ge 30, 3, [55], []), (28, .iload_n 2, 1, [], []), (29, .ifCond .eq 26, 3, [55], [])],
  [(32, .aload_n 0, 1, [], []), (33, .getfield 15, 3, [0, 0, 3, 308], []), (36, .getfield 41, 3, [7, 4, 0, 58], []), (39, .iconst 1, 1, [], []), (40, .if_icmp .ne 15, 3, [55], []), (43, .aload_n 0, 1, [], []), (44, .iload_n 1, 1, [], []), (45, .invokevirtual 190, 3, [0, 1, 1, 0, 0, 605], [m_X1_readPlaceOfWave])],
  [(48, .istore_n 2, 1, [], []), (49, .iinc 3 1, 3, [], []), (52, .goto (-29), 3, [23], []), (55, .iload_n 2, 1, [], []), (56, .ireturn, 1, [6], [])]]
theorem k_X1_readWave : CdOk m_X1_readWave c_X1_readWave := ⟨by decide +kernel, allM_of ⟨o_X5_addWave, ⟨o_X1_readPlaceOfWave, ⟨o_X1_readPlaceOfWave, trivial⟩⟩⟩⟩
def c_X1_readSetting : Cd := [
  [(0, .aload_n 0, 1, [], []), (1, .getfield 15, 3, [0, 0, 3, 308], []), (4, .aload_n 1, 1, [], []), (5, .getfield 199, 3, [20, 2, 0, 1847, 0], []), (8, .aload_n 1, 1, [], []), (9, .getfield 202, 3, [20, 3, 0, 1848, 0], []), (12, .invokevirtual 134, 3, [0, 2, 1, 7, 0, 519], [m_X10_takeNumber]), (15, .istore_n 2, 1, [], [])],
  [(16, .iload_n 2, 1, [], []), (17, .iconst (-1), 1, [], []), (18, .if_icmp .ne 5, 3, [23], []), (21, .iconst 0, 1, [], []), (22, .ireturn, 1, [6], []), (23, .aload_n 0, 1, [], []), (24, .dup, 1, [], []), (25, .getfield 9, 3, [0, 3, 0, 311], []), (28, .aload_n 1, 1, [], []), (29, .getfield 103, 3, [20, 1, 0, 1846, 0], [])],
  [(32, .ior, 1, [], []), (33, .putfield 9, 3, [0, 3, 0, 311], []), (36, .getstatic 72, 3, [0, 1082, 489], []), (39, .aload_n 1, 1, [], []), (40, .invokevirtual 78, 3, [20, 491], []), (43, .iaload, 1, [0], []), (44, .tableswitch 95 6 11 #[40, 51, 95, 62, 73, 84], 40, [139, 6, 84, 95, 139, 106, 117, 128], [])],
  [],
  [],
  [(84, .aload_n 0, 1, [], []), (85, .getfield 19, 3, [0, 1, 3, 309], []), (88, .iload_n 2, 1, [], []), (89, .putfield 205, 3, [6, 2, 0, 230], []), (92, .goto 55, 3, [147], []), (95, .aload_n 0, 1, [], [])],
  [(96, .getfield 29, 3, [0, 2, 3, 310], []), (99, .iload_n 2, 1, [], []), (100, .putfield 208, 3, [3, 13, 0, 146], []), (103, .goto 44, 3, [147], []), (106, .aload_n 0, 1, [], []), (107, .getfield 29, 3, [0, 2, 3, 310], []), (110, .iload_n 2, 1, [], []), (111, .putfield 211, 3, [3, 14, 0, 148], [])],
  [(114, .goto 33, 3, [147], []), (117, .aload_n 0, 1, [], []), (118, .getfield 29, 3, [0, 2, 3, 310], []), (121, .iload_n 2, 1, [], []), (122, .putfield 214, 3, [3, 15, 0, 151], []), (125, .goto 22, 3, [147], [])],
  [(128, .aload_n 0, 1, [], []), (129, .getfield 29, 3, [0, 2, 3, 310], []), (132, .iload_n 2, 1, [], []), (133, .putfield 217, 3, [3, 16, 0, 154], []), (136, .goto 11, 3, [147], []), (139, .aload_n 0, 1, [], []), (140, .getfield 29, 3, [0, 2, 3, 310], []), (143, .iload_n 2, 1, [], [])],
  [(144, .putfield 220, 3, [3, 17, 0, 157], []), (147, .iconst 1, 1, [], []), (148, .ireturn, 1, [6], [])]]
theorem k_X1_readSetting : CdOk m_X1_readSetting c_X1_readSetting := ⟨by decide +kernel, allM_of ⟨o_X10_takeNumber, trivial⟩⟩
def c_X1_readRest : Cd := [
  [(0, .getstatic 72, 3, [0, 1082, 489], []), (3, .aload_n 1, 1, [], []), (4, .invokevirtual 78, 3, [20, 491], []), (7, .iaload, 1, [0], []), (8, .tableswitch 78 1 8 #[48, 58, 63, 73, 68, 78, 78, 53], 48, [86, 1, 56, 66, 71, 81, 76, 86, 86, 61], [])],
  [],
  [],
  [(56, .aload_n 0, 1, [], []), (57, .invokevirtual 109, 3, [0, 0, 1, 0, 0, 506], [m_X1_readVersion]), (60, .ireturn, 1, [6], []), (61, .aload_n 0, 1, [], []), (62, .invokevirtual 112, 3, [0, 0, 1, 0, 0, 531], [m_X1_readTalks])],
  [(65, .ireturn, 1, [6], []), (66, .aload_n 0, 1, [], []), (67, .invokevirtual 115, 3, [0, 0, 1, 0, 0, 550], [m_X1_readPlace]), (70, .ireturn, 1, [6], []), (71, .aload_n 0, 1, [], []), (72, .invokevirtual 118, 3, [0, 0, 1, 0, 0, 558], [m_X1_readMember]), (75, .ireturn, 1, [6], []), (76, .aload_n 0, 1, [], []), (77, .invokevirtual 121, 3, [0, 0, 1, 0, 0, 589], [m_X1_readLink])],
  [(80, .ireturn, 1, [6], []), (81, .aload_n 0, 1, [], []), (82, .invokevirtual 124, 3, [0, 0, 1, 0, 0, 597], [m_X1_readWave]), (85, .ireturn, 1, [6], []), (86, .aload_n 0, 1, [], []), (87, .aload_n 1, 1, [], []), (88, .invokevirtual 127, 3, [0, 1, 1, 0, 0, 613], [m_X1_readSetting]), (91, .ireturn, 1, [6], [])]]
theorem k_X1_readRest : CdOk m_X1_readRest c_X1_readRest := ⟨by decide +kernel, allM_of ⟨o_X1_readVersion, ⟨o_X1_readTalks, ⟨o_X1_readPlace, ⟨o_X1_readMember, ⟨o_X1_readLink, ⟨o_X1_readWave, ⟨o_X1_readSetting, trivial⟩⟩⟩⟩⟩⟩⟩⟩
def c_X10_takeSign : Cd := [
  [(0, .aload_n 0, 1, [], []), (1, .getfield 25, 3, [7, 4, 0, 57], []), (4, .iload_n 1, 1, [], []), (5, .if_icmp .eq 9, 3, [14], []), (8, .aload_n 0, 1, [], []), (9, .iconst 1, 1, [], []), (10, .invokevirtual 59, 3, [0, 1, 1, 7, 0, 514], [m_X10_fail]), (13, .ireturn, 1, [6], []), (14, .aload_n 0, 1, [], []), (15, .invokevirtual 41, 3, [0, 0, 0, 7, 0, 408], [m_X10_advance])],
  [(18, .iconst 1, 1, [], []), (19, .ireturn, 1, [6], [])]]
theorem k_X10_takeSign : CdOk m_X10_takeSign c_X10_takeSign := ⟨by decide +kernel, allM_of ⟨o_X10_fail, ⟨o_X10_advance, trivial⟩⟩⟩
def c_X1_readStatement : Cd := [
  [(0, .aload_n 0, 1, [], []), (1, .getfield 15, 3, [0, 0, 3, 308], []), (4, .invokestatic 48, 3, [1, 1, 5, 0, 0, 424], [m_X9_at]), (7, .astore_n 1, 1, [], []), (8, .aload_n 1, 1, [], []), (9, .ifnonnull 12, 3, [21], []), (12, .aload_n 0, 1, [], []), (13, .getfield 15, 3, [0, 0, 3, 308], [])],
  [(16, .iconst 1, 1, [], []), (17, .invokevirtual 54, 3, [0, 1, 1, 7, 0, 481], [m_X10_fail]), (20, .ireturn, 1, [6], []), (21, .aload_n 0, 1, [], []), (22, .aload_n 1, 1, [], []), (23, .invokevirtual 58, 3, [0, 1, 1, 0, 0, 485], [m_X1_errorOfFirstWord]), (26, .istore_n 2, 1, [], []), (27, .iload_n 2, 1, [], []), (28, .ifCond .eq 12, 3, [40], []), (31, .aload_n 0, 1, [], [])],
  [(32, .getfield 15, 3, [0, 0, 3, 308], []), (35, .iload_n 2, 1, [], []), (36, .invokevirtual 54, 3, [0, 1, 1, 7, 0, 481], [m_X10_fail]), (39, .ireturn, 1, [6], []), (40, .aload_n 0, 1, [], []), (41, .getfield 15, 3, [0, 0, 3, 308], []), (44, .invokevirtual 62, 3, [0, 0, 0, 7, 0, 501], [m_X10_advance]), (47, .aload_n 0, 1, [], [])],
  [(48, .aload_n 1, 1, [], []), (49, .invokevirtual 65, 3, [0, 1, 1, 0, 0, 502], [m_X1_readRest]), (52, .ifCond .eq 18, 3, [70], []), (55, .aload_n 0, 1, [], []), (56, .getfield 15, 3, [0, 0, 3, 308], []), (59, .iconst 3, 1, [], []), (60, .invokevirtual 69, 3, [0, 1, 1, 7, 0, 617], [m_X10_takeSign]), (63, .ifCond .eq 7, 3, [70], [])],
  [(66, .iconst 1, 1, [], []), (67, .goto 4, 3, [71], []), (70, .iconst 0, 1, [], []), (71, .ireturn, 1, [6], [])]]
theorem k_X1_readStatement : CdOk m_X1_readStatement c_X1_readStatement := ⟨by decide +kernel, allM_of ⟨o_X9_at, ⟨o_X10_fail, ⟨o_X1_errorOfFirstWord, ⟨o_X10_fail, ⟨o_X10_advance, ⟨o_X1_readRest, ⟨o_X10_takeSign, trivial⟩⟩⟩⟩⟩⟩⟩⟩
def c_X1_readAll : Cd := [
  [(0, .aload_n 0, 1, [], []), (1, .getfield 29, 3, [0, 2, 3, 310], []), (4, .invokevirtual 30, 3, [0, 0, 0, 3, 0, 402], [m_X5_reset]), (7, .aload_n 0, 1, [], []), (8, .getfield 19, 3, [0, 1, 3, 309], []), (11, .invokevirtual 35, 3, [0, 0, 0, 6, 0, 403], [m_X8_reset]), (14, .aload_n 0, 1, [], []), (15, .iconst 0, 1, [], [])],
  [(16, .putfield 9, 3, [0, 3, 0, 311], []), (19, .aload_n 0, 1, [], []), (20, .getfield 15, 3, [0, 0, 3, 308], []), (23, .invokevirtual 36, 3, [0, 0, 0, 7, 0, 404], [m_X10_begin]), (26, .iconst 0, 1, [], []), (27, .istore_n 1, 1, [], []), (28, .iload_n 1, 1, [], []), (29, .sipush 900, 3, [], [])],
  [(32, .if_icmp .ge 28, 3, [60], []), (35, .aload_n 0, 1, [], []), (36, .getfield 15, 3, [0, 0, 3, 308], []), (39, .getfield 41, 3, [7, 4, 0, 58], []), (42, .ifCond .eq 18, 3, [60], []), (45, .aload_n 0, 1, [], []), (46, .invokevirtual 44, 3, [0, 0, 1, 0, 0, 420], [m_X1_readStatement])],
  [(49, .ifCond .ne 5, 3, [54], []), (52, .iconst 0, 1, [], []), (53, .ireturn, 1, [6], []), (54, .iinc 1 1, 3, [], []), (57, .goto (-29), 3, [28], []), (60, .iconst 1, 1, [], []), (61, .ireturn, 1, [6], [])]]
theorem k_X1_readAll : CdOk m_X1_readAll c_X1_readAll := ⟨by decide +kernel, allM_of ⟨o_X5_reset, ⟨o_X8_reset, ⟨o_X10_begin, ⟨o_X1_readStatement, trivial⟩⟩⟩⟩⟩
def c_X6_copyFrom : Cd := [
  [(0, .aload_n 1, 1, [], []), (1, .getfield 15, 3, [4, 0, 3, 97], []), (4, .iconst 0, 1, [], []), (5, .aload_n 0, 1, [], []), (6, .getfield 15, 3, [4, 0, 3, 97], []), (9, .iconst 0, 1, [], []), (10, .aload_n 1, 1, [], []), (11, .getfield 15, 3, [4, 0, 3, 97], []), (14, .arraylength, 1, [], []), (15, .aload_n 0, 1, [], [])],
  [(16, .getfield 15, 3, [4, 0, 3, 97], []), (19, .arraylength, 1, [], []), (20, .invokestatic 19, 3, [10, 696], []), (23, .invokestatic 25, 3, [16, 699], []), (26, .aload_n 0, 1, [], []), (27, .aload_n 1, 1, [], []), (28, .getfield 9, 3, [4, 1, 0, 98], []), (31, .putfield 9, 3, [4, 1, 0, 98], [])],
  [(34, .return_, 1, [], [])]]
theorem k_X6_copyFrom : CdOk m_X6_copyFrom c_X6_copyFrom := ⟨by decide +kernel, allM_of trivial⟩
def c_X11_copyRow : Cd := [
  [(0, .aload_n 0, 1, [], []), (1, .iconst 0, 1, [], []), (2, .aload_n 1, 1, [], []), (3, .iconst 0, 1, [], []), (4, .aload_n 0, 1, [], []), (5, .arraylength, 1, [], []), (6, .aload_n 1, 1, [], []), (7, .arraylength, 1, [], []), (8, .invokestatic 348, 3, [10, 705], []), (11, .invokestatic 353, 3, [15, 706], []), (14, .return_, 1, [], [])]]
theorem k_X11_copyRow : CdOk m_X11_copyRow c_X11_copyRow := ⟨by decide +kernel, allM_of trivial⟩
def c_X5_copyFrom : Cd := [
  [(0, .aload_n 0, 1, [], []), (1, .getfield 14, 3, [3, 0, 3, 113], []), (4, .aload_n 1, 1, [], []), (5, .getfield 14, 3, [3, 0, 3, 113], []), (8, .invokevirtual 79, 3, [0, 1, 0, 4, 0, 692], [m_X6_copyFrom]), (11, .aload_n 1, 1, [], []), (12, .getfield 20, 3, [3, 1, 3, 116], []), (15, .aload_n 0, 1, [], [])],
  [(16, .getfield 20, 3, [3, 1, 3, 116], []), (19, .invokestatic 83, 3, [2, 2, 0, 0, 0, 3], [m_X11_copyRow]), (22, .aload_n 1, 1, [], []), (23, .getfield 24, 3, [3, 2, 3, 117], []), (26, .aload_n 0, 1, [], []), (27, .getfield 24, 3, [3, 2, 3, 117], []), (30, .invokestatic 83, 3, [2, 2, 0, 0, 0, 3], [m_X11_copyRow])],
  [(33, .aload_n 1, 1, [], []), (34, .getfield 27, 3, [3, 3, 3, 118], []), (37, .aload_n 0, 1, [], []), (38, .getfield 27, 3, [3, 3, 3, 118], []), (41, .invokestatic 83, 3, [2, 2, 0, 0, 0, 3], [m_X11_copyRow]), (44, .aload_n 0, 1, [], []), (45, .getfield 30, 3, [3, 4, 3, 119], [])],
  [(48, .aload_n 1, 1, [], []), (49, .getfield 30, 3, [3, 4, 3, 119], []), (52, .invokevirtual 79, 3, [0, 1, 0, 4, 0, 692], [m_X6_copyFrom]), (55, .aload_n 1, 1, [], []), (56, .getfield 33, 3, [3, 5, 3, 122], []), (59, .aload_n 0, 1, [], []), (60, .getfield 33, 3, [3, 5, 3, 122], []), (63, .invokestatic 83, 3, [2, 2, 0, 0, 0, 3], [m_X11_copyRow])],
  [(66, .aload_n 1, 1, [], []), (67, .getfield 36, 3, [3, 6, 3, 124], []), (70, .aload_n 0, 1, [], []), (71, .getfield 36, 3, [3, 6, 3, 124], []), (74, .invokestatic 83, 3, [2, 2, 0, 0, 0, 3], [m_X11_copyRow]), (77, .aload_n 1, 1, [], []), (78, .getfield 39, 3, [3, 7, 3, 126], [])],
  [(81, .aload_n 0, 1, [], []), (82, .getfield 39, 3, [3, 7, 3, 126], []), (85, .invokestatic 83, 3, [2, 2, 0, 0, 0, 3], [m_X11_copyRow]), (88, .aload_n 0, 1, [], []), (89, .getfield 42, 3, [3, 8, 3, 128], []), (92, .aload_n 1, 1, [], []), (93, .getfield 42, 3, [3, 8, 3, 128], [])],
  [(96, .invokevirtual 79, 3, [0, 1, 0, 4, 0, 692], [m_X6_copyFrom]), (99, .aload_n 1, 1, [], []), (100, .getfield 45, 3, [3, 9, 3, 132], []), (103, .aload_n 0, 1, [], []), (104, .getfield 45, 3, [3, 9, 3, 132], []), (107, .invokestatic 83, 3, [2, 2, 0, 0, 0, 3], [m_X11_copyRow]), (110, .aload_n 1, 1, [], []), (111, .getfield 48, 3, [3, 10, 3, 135], [])],
  [(114, .aload_n 0, 1, [], []), (115, .getfield 48, 3, [3, 10, 3, 135], []), (118, .invokestatic 83, 3, [2, 2, 0, 0, 0, 3], [m_X11_copyRow]), (121, .aload_n 0, 1, [], []), (122, .aload_n 1, 1, [], []), (123, .getfield 58, 3, [3, 11, 0, 139], []), (126, .putfield 58, 3, [3, 11, 0, 139], [])],
  [(129, .aload_n 0, 1, [], []), (130, .aload_n 1, 1, [], []), (131, .getfield 61, 3, [3, 12, 0, 141], []), (134, .putfield 61, 3, [3, 12, 0, 141], []), (137, .aload_n 0, 1, [], []), (138, .aload_n 1, 1, [], []), (139, .getfield 64, 3, [3, 13, 0, 144], []), (142, .putfield 64, 3, [3, 13, 0, 144], [])],
  [(145, .aload_n 0, 1, [], []), (146, .aload_n 1, 1, [], []), (147, .getfield 67, 3, [3, 14, 0, 147], []), (150, .putfield 67, 3, [3, 14, 0, 147], []), (153, .aload_n 0, 1, [], []), (154, .aload_n 1, 1, [], []), (155, .getfield 70, 3, [3, 15, 0, 150], []), (158, .putfield 70, 3, [3, 15, 0, 150], [])],
  [(161, .aload_n 0, 1, [], []), (162, .aload_n 1, 1, [], []), (163, .getfield 73, 3, [3, 16, 0, 153], []), (166, .putfield 73, 3, [3, 16, 0, 153], []), (169, .aload_n 0, 1, [], []), (170, .aload_n 1, 1, [], []), (171, .getfield 76, 3, [3, 17, 0, 156], []), (174, .putfield 76, 3, [3, 17, 0, 156], [])],
  [(177, .return_, 1, [], [])]]
theorem k_X5_copyFrom : CdOk m_X5_copyFrom c_X5_copyFrom := ⟨by decide +kernel, allM_of ⟨o_X6_copyFrom, ⟨o_X11_copyRow, ⟨o_X11_copyRow, ⟨o_X11_copyRow, ⟨o_X6_copyFrom, ⟨o_X11_copyRow, ⟨o_X11_copyRow, ⟨o_X11_copyRow, ⟨o_X6_copyFrom, ⟨o_X11_copyRow, ⟨o_X11_copyRow, trivial⟩⟩⟩⟩⟩⟩⟩⟩⟩⟩⟩⟩
def c_X3_copyFrom : Cd := [
  [(0, .aload_n 1, 1, [], []), (1, .getfield 11, 3, [1, 0, 3, 207], []), (4, .aload_n 0, 1, [], []), (5, .getfield 11, 3, [1, 0, 3, 207], []), (8, .invokestatic 22, 3, [2, 2, 0, 0, 0, 2], [m_X11_copyRow]), (11, .aload_n 0, 1, [], []), (12, .aload_n 1, 1, [], []), (13, .getfield 15, 3, [1, 1, 0, 208], [])],
  [(16, .putfield 15, 3, [1, 1, 0, 208], []), (19, .aload_n 0, 1, [], []), (20, .aload_n 1, 1, [], []), (21, .getfield 19, 3, [1, 2, 0, 211], []), (24, .putfield 19, 3, [1, 2, 0, 211], []), (27, .return_, 1, [], [])]]
theorem k_X3_copyFrom : CdOk m_X3_copyFrom c_X3_copyFrom := ⟨by decide +kernel, allM_of ⟨o_X11_copyRow, trivial⟩⟩
def c_X8_copyFrom : Cd := [
  [(0, .aload_n 0, 1, [], []), (1, .aload_n 1, 1, [], []), (2, .getfield 38, 3, [6, 1, 0, 226], []), (5, .putfield 38, 3, [6, 1, 0, 226], []), (8, .aload_n 0, 1, [], []), (9, .aload_n 1, 1, [], []), (10, .getfield 42, 3, [6, 2, 0, 228], []), (13, .putfield 42, 3, [6, 2, 0, 228], [])],
  [(16, .aload_n 1, 1, [], []), (17, .getfield 9, 3, [6, 3, 3, 231], []), (20, .aload_n 0, 1, [], []), (21, .getfield 9, 3, [6, 3, 3, 231], []), (24, .invokestatic 73, 3, [2, 2, 0, 0, 0, 1], [m_X11_copyRow]), (27, .aload_n 1, 1, [], []), (28, .getfield 15, 3, [6, 4, 3, 233], []), (31, .aload_n 0, 1, [], [])],
  [(32, .getfield 15, 3, [6, 4, 3, 233], []), (35, .invokestatic 73, 3, [2, 2, 0, 0, 0, 1], [m_X11_copyRow]), (38, .aload_n 1, 1, [], []), (39, .getfield 18, 3, [6, 5, 3, 234], []), (42, .aload_n 0, 1, [], []), (43, .getfield 18, 3, [6, 5, 3, 234], []), (46, .invokestatic 73, 3, [2, 2, 0, 0, 0, 1], [m_X11_copyRow])],
  [(49, .aload_n 1, 1, [], []), (50, .getfield 21, 3, [6, 6, 3, 235], []), (53, .aload_n 0, 1, [], []), (54, .getfield 21, 3, [6, 6, 3, 235], []), (57, .invokestatic 73, 3, [2, 2, 0, 0, 0, 1], [m_X11_copyRow]), (60, .aload_n 0, 1, [], []), (61, .aload_n 1, 1, [], []), (62, .getfield 45, 3, [6, 7, 0, 236], [])],
  [(65, .putfield 45, 3, [6, 7, 0, 236], []), (68, .aload_n 0, 1, [], []), (69, .aload_n 1, 1, [], []), (70, .getfield 48, 3, [6, 8, 0, 238], []), (73, .putfield 48, 3, [6, 8, 0, 238], []), (76, .aload_n 0, 1, [], []), (77, .aload_n 1, 1, [], []), (78, .getfield 51, 3, [6, 9, 0, 240], [])],
  [(81, .putfield 51, 3, [6, 9, 0, 240], []), (84, .aload_n 0, 1, [], []), (85, .aload_n 1, 1, [], []), (86, .getfield 54, 3, [6, 10, 0, 242], []), (89, .putfield 54, 3, [6, 10, 0, 242], []), (92, .aload_n 0, 1, [], []), (93, .aload_n 1, 1, [], []), (94, .getfield 57, 3, [6, 11, 0, 243], [])],
  [(97, .putfield 57, 3, [6, 11, 0, 243], []), (100, .aload_n 0, 1, [], []), (101, .aload_n 1, 1, [], []), (102, .getfield 60, 3, [6, 12, 1, 244], []), (105, .putfield 60, 3, [6, 12, 1, 244], []), (108, .aload_n 0, 1, [], []), (109, .aload_n 1, 1, [], []), (110, .getfield 64, 3, [6, 13, 0, 245], [])],
  [(113, .putfield 64, 3, [6, 13, 0, 245], []), (116, .aload_n 0, 1, [], []), (117, .aload_n 1, 1, [], []), (118, .getfield 67, 3, [6, 14, 0, 246], []), (121, .putfield 67, 3, [6, 14, 0, 246], []), (124, .aload_n 0, 1, [], []), (125, .getfield 27, 3, [6, 15, 3, 247], [])],
  [(128, .aload_n 1, 1, [], []), (129, .getfield 27, 3, [6, 15, 3, 247], []), (132, .invokevirtual 77, 3, [0, 1, 0, 1, 0, 712], [m_X3_copyFrom]), (135, .return_, 1, [], [])]]
theorem k_X8_copyFrom : CdOk m_X8_copyFrom c_X8_copyFrom := ⟨by decide +kernel, allM_of ⟨o_X11_copyRow, ⟨o_X11_copyRow, ⟨o_X11_copyRow, ⟨o_X11_copyRow, ⟨o_X3_copyFrom, trivial⟩⟩⟩⟩⟩⟩
def c_X8_replaceBy : Cd := [
  [(0, .aload_n 0, 1, [], []), (1, .getfield 31, 3, [6, 0, 3, 225], []), (4, .aload_n 1, 1, [], []), (5, .getfield 31, 3, [6, 0, 3, 225], []), (8, .invokevirtual 81, 3, [0, 1, 0, 3, 0, 688], [m_X5_copyFrom]), (11, .aload_n 0, 1, [], []), (12, .aload_n 1, 1, [], []), (13, .invokevirtual 86, 3, [0, 1, 0, 6, 0, 707], [m_X8_copyFrom])],
  [(16, .return_, 1, [], [])]]
theorem k_X8_replaceBy : CdOk m_X8_replaceBy c_X8_replaceBy := ⟨by decide +kernel, allM_of ⟨o_X5_copyFrom, ⟨o_X8_copyFrom, trivial⟩⟩⟩
def c_X4_forget : Cd := [
  [(0, .aload_n 0, 1, [], []), (1, .iconst 0, 1, [], []), (2, .putfield 17, 3, [2, 1, 0, 292], []), (5, .return_, 1, [], [])]]
theorem k_X4_forget : CdOk m_X4_forget c_X4_forget := ⟨by decide +kernel, allM_of trivial⟩
def c_X11_readText : Cd := [
  [(0, .aload_n 0, 1, [], []), (1, .getfield 57, 3, [8, 7, 3, 367], []), (4, .invokevirtual 89, 3, [0, 0, 1, 0, 0, 398], [m_X1_readAll]), (7, .istore_n 1, 1, [], []), (8, .aload_n 0, 1, [], []), (9, .getfield 10, 3, [8, 0, 3, 360], []), (12, .iconst 0, 1, [], []), (13, .putfield 76, 3, [7, 1, 0, 54], [])],
  [(16, .iload_n 1, 1, [], []), (17, .ifCond .ne 11, 3, [28], []), (20, .new 86, 3, [1, 88, 621, 662], []), (28, .aload_n 0, 1, [], []), (29, .getfield 24, 3, [8, 1, 3, 361], [])],
  [(32, .aload_n 0, 1, [], []), (33, .getfield 35, 3, [8, 3, 3, 363], []), (36, .invokevirtual 93, 3, [0, 1, 0, 6, 0, 684], [m_X8_replaceBy]), (39, .aload_n 0, 1, [], []), (40, .getfield 48, 3, [8, 6, 3, 366], []), (43, .invokevirtual 97, 3, [0, 0, 0, 2, 0, 717], [m_X4_forget]), (46, .aload_n 0, 1, [], []), (47, .getfield 24, 3, [8, 1, 3, 361], [])],
  [(50, .getfield 28, 3, [6, 0, 3, 224], []), (53, .getfield 100, 3, [3, 8, 3, 129], []), (56, .getfield 104, 3, [4, 1, 0, 100], []), (59, .ireturn, 1, [1], [])]]
theorem k_X11_readText : CdOk m_X11_readText c_X11_readText := ⟨by decide +kernel, allM_of ⟨o_X1_readAll, ⟨o_X8_replaceBy, ⟨o_X4_forget, trivial⟩⟩⟩⟩
def c_X5_numberOf : Cd := [
  [(0, .iload_n 1, 1, [], []), (1, .tableswitch 118 0 10 #[59, 67, 75, 83, 88, 118, 93, 98, 103, 108, 113], 59, [119, 0, 60, 68, 76, 84, 89, 119, 94, 99, 104, 109, 114], [])],
  [],
  [],
  [(60, .aload_n 0, 1, [], []), (61, .getfield 14, 3, [3, 0, 3, 113], [])],
  [(64, .getfield 54, 3, [4, 1, 0, 99], []), (67, .ireturn, 1, [1], []), (68, .aload_n 0, 1, [], []), (69, .getfield 30, 3, [3, 4, 3, 119], []), (72, .getfield 54, 3, [4, 1, 0, 99], []), (75, .ireturn, 1, [1], []), (76, .aload_n 0, 1, [], []), (77, .getfield 42, 3, [3, 8, 3, 128], [])],
  [(80, .getfield 54, 3, [4, 1, 0, 99], []), (83, .ireturn, 1, [1], []), (84, .aload_n 0, 1, [], []), (85, .getfield 61, 3, [3, 12, 0, 141], []), (88, .ireturn, 1, [1], []), (89, .aload_n 0, 1, [], []), (90, .getfield 58, 3, [3, 11, 0, 139], []), (93, .ireturn, 1, [1], []), (94, .aload_n 0, 1, [], []), (95, .getfield 64, 3, [3, 13, 0, 144], [])],
  [(98, .ireturn, 1, [1], []), (99, .aload_n 0, 1, [], []), (100, .getfield 67, 3, [3, 14, 0, 147], []), (103, .ireturn, 1, [1], []), (104, .aload_n 0, 1, [], []), (105, .getfield 70, 3, [3, 15, 0, 150], []), (108, .ireturn, 1, [1], []), (109, .aload_n 0, 1, [], []), (110, .getfield 73, 3, [3, 16, 0, 153], [])],
  [(113, .ireturn, 1, [1], []), (114, .aload_n 0, 1, [], []), (115, .getfield 76, 3, [3, 17, 0, 156], []), (118, .ireturn, 1, [1], []), (119, .iconst (-1), 1, [], []), (120, .ireturn, 1, [1], [])]]
theorem k_X5_numberOf : CdOk m_X5_numberOf c_X5_numberOf := ⟨by decide +kernel, allM_of trivial⟩
def c_X11_setting : Cd := [
  [(0, .iload_n 1, 1, [], []), (1, .ifCond .lt 9, 3, [10], []), (4, .iload_n 1, 1, [], []), (5, .bipush 11, 2, [], []), (7, .if_icmp .le 11, 3, [18], []), (10, .new 86, 3, [1, 88, 621, 662], [])],
  [(18, .iload_n 1, 1, [], []), (19, .iconst 5, 1, [], []), (20, .if_icmp .ne 11, 3, [31], []), (23, .aload_n 0, 1, [], []), (24, .getfield 24, 3, [8, 1, 3, 361], []), (27, .getfield 129, 3, [6, 2, 0, 229], []), (30, .ireturn, 1, [1], []), (31, .iload_n 1, 1, [], [])],
  [(32, .bipush 11, 2, [], []), (34, .if_icmp .ne 11, 3, [45], []), (37, .aload_n 0, 1, [], []), (38, .getfield 24, 3, [8, 1, 3, 361], []), (41, .getfield 132, 3, [6, 1, 0, 227], []), (44, .ireturn, 1, [1], []), (45, .aload_n 0, 1, [], []), (46, .getfield 24, 3, [8, 1, 3, 361], [])],
  [(49, .getfield 28, 3, [6, 0, 3, 224], []), (52, .iload_n 1, 1, [], []), (53, .invokevirtual 135, 3, [0, 1, 1, 3, 0, 1355], [m_X5_numberOf]), (56, .ireturn, 1, [1], [])]]
theorem k_X11_setting : CdOk m_X11_setting c_X11_setting := ⟨by decide +kernel, allM_of ⟨o_X5_numberOf, trivial⟩⟩
def c_X11_needVersion : Cd := [
  [(0, .iload_n 1, 1, [], []), (1, .ifCond .lt 20, 3, [21], []), (4, .iload_n 1, 1, [], []), (5, .aload_n 0, 1, [], []), (6, .getfield 24, 3, [8, 1, 3, 361], []), (9, .getfield 28, 3, [6, 0, 3, 224], []), (12, .getfield 199, 3, [3, 0, 3, 115], []), (15, .getfield 104, 3, [4, 1, 0, 100], [])],
  [(18, .if_icmp .lt 11, 3, [29], []), (21, .new 178, 3, [2, 180, 1392, 1401], []), (29, .return_, 1, [], [])]]
theorem k_X11_needVersion : CdOk m_X11_needVersion c_X11_needVersion := ⟨by decide +kernel, allM_of trivial⟩
def c_X11_mayTalk : Cd := [
  [(0, .aload_n 0, 1, [], []), (1, .iload_n 1, 1, [], []), (2, .invokevirtual 139, 3, [0, 1, 0, 8, 1, 1436], [m_X11_needVersion]), (5, .aload_n 0, 1, [], []), (6, .iload_n 2, 1, [], []), (7, .invokevirtual 139, 3, [0, 1, 0, 8, 1, 1436], [m_X11_needVersion]), (10, .aload_n 0, 1, [], []), (11, .getfield 24, 3, [8, 1, 3, 361], []), (14, .getfield 28, 3, [6, 0, 3, 224], [])],
  [(17, .iload_n 1, 1, [], []), (18, .invokevirtual 142, 3, [0, 1, 1, 3, 0, 1731], [m_X5_talkersOf]), (21, .iload_n 2, 1, [], []), (22, .invokestatic 145, 3, [1, 2, 1, 0, 0, 1528], [m_X11_isIn]), (25, .ireturn, 1, [6], [])]]
theorem k_X11_mayTalk : CdOk m_X11_mayTalk c_X11_mayTalk := ⟨by decide +kernel, allM_of ⟨o_X11_needVersion, ⟨o_X11_needVersion, ⟨o_X5_talkersOf, ⟨o_X11_isIn, trivial⟩⟩⟩⟩⟩
def c_X11_needFormat : Cd := [
  [(0, .iload_n 0, 1, [], []), (1, .iconst 1, 1, [], []), (2, .if_icmp .lt 9, 3, [11], []), (5, .iload_n 0, 1, [], []), (6, .bipush 9, 2, [], []), (8, .if_icmp .le 11, 3, [19], []), (11, .new 86, 3, [1, 88, 621, 662], [])],
  [(19, .return_, 1, [], [])]]
theorem k_X11_needFormat : CdOk m_X11_needFormat c_X11_needFormat := ⟨by decide +kernel, allM_of trivial⟩
def c_X5_readersOf : Cd := [
  [(0, .iconst 0, 1, [], []), (1, .istore_n 2, 1, [], []), (2, .iconst 0, 1, [], []), (3, .istore_n 3, 1, [], []), (4, .iload_n 3, 1, [], []), (5, .aload_n 0, 1, [], []), (6, .getfield 14, 3, [3, 0, 3, 113], []), (9, .getfield 54, 3, [4, 1, 0, 99], []), (12, .if_icmp .ge 24, 3, [36], []), (15, .aload_n 0, 1, [], [])],
  [(16, .iload_n 3, 1, [], []), (17, .iload_n 1, 1, [], []), (18, .invokevirtual 95, 3, [0, 2, 1, 3, 0, 1620], [m_X5_isReader]), (21, .ifCond .eq 9, 3, [30], []), (24, .iload_n 2, 1, [], []), (25, .iconst 1, 1, [], []), (26, .iload_n 3, 1, [], []), (27, .ishl, 1, [], []), (28, .ior, 1, [], []), (29, .istore_n 2, 1, [], []), (30, .iinc 3 1, 3, [], [])],
  [(33, .goto (-29), 3, [4], []), (36, .iload_n 2, 1, [], []), (37, .ireturn, 1, [1], [])]]
theorem k_X5_readersOf : CdOk m_X5_readersOf c_X5_readersOf := ⟨by decide +kernel, allM_of ⟨o_X5_isReader, trivial⟩⟩
def c_X11_readers : Cd := [
  [(0, .iload_n 1, 1, [], []), (1, .invokestatic 149, 3, [1, 1, 0, 0, 1, 1605], [m_X11_needFormat]), (4, .aload_n 0, 1, [], []), (5, .getfield 24, 3, [8, 1, 3, 361], []), (8, .getfield 28, 3, [6, 0, 3, 224], []), (11, .iload_n 1, 1, [], []), (12, .invokevirtual 152, 3, [0, 1, 1, 3, 0, 1722], [m_X5_readersOf]), (15, .ireturn, 1, [1], [])]]
theorem k_X11_readers : CdOk m_X11_readers c_X11_readers := ⟨by decide +kernel, allM_of ⟨o_X11_needFormat, ⟨o_X5_readersOf, trivial⟩⟩⟩
