/-! ===== tables of the methods' code, 4 ===== -/
def m_X8_finishPlan : MI := (yX8_finishPlan, cX8_finishPlan, 1, none, 2, 85, 0, [], 0)
def m_X8_leaveWave : MI := (yX8_leaveWave, cX8_leaveWave, 2, none, 3, 105, 0, [], 0)
def m_X8_laggards : MI := (yX8_laggards, cX8_laggards, 2, some .int, 1, 23, 0, [], 0)
def m_X8_beginChange : MI := (yX8_beginChange, cX8_beginChange, 3, some .int, 2, 85, 0, [], 0)
def m_X8_beginChanges : MI := (yX8_beginChanges, cX8_beginChanges, 4, some .int, 3, 107, 0, [], 0)
def m_X8_soakIfComplete : MI := (yX8_soakIfComplete, cX8_soakIfComplete, 1, none, 2, 85, 0, [], 0)
def m_X8_passMinute : MI := (yX8_passMinute, cX8_passMinute, 2, some .int, 4, 130, 0, [], 0)
def m_X8_isStuck : MI := (yX8_isStuck, cX8_isStuck, 2, some .boolean, 0, 0, 0, [], 0)
def m_X8_minutesToDone : MI := (yX8_minutesToDone, cX8_minutesToDone, 4, some .int, 5, 151, 0, [], 0)
def m_X11_minutesToEnd : MI := (yX11_minutesToEnd, cX11_minutesToEnd, 2, some .int, 7, 174, 1, [], 0)
def m_X11_events : MI := (yX11_events, cX11_events, 1, some .int, 0, 0, 0, [], 0)
def m_X3_cellOf : MI := (yX3_cellOf, cX3_cellOf, 4, some .int, 1, 60, 0, [], 0)
def m_X11_event : MI := (yX11_event, cX11_event, 3, some .int, 6, 89, 1, [], 0)
def m_X8_canPass : MI := (yX8_canPass, cX8_canPass, 2, some .boolean, 0, 0, 0, [], 0)
def m_X4_keep : MI := (yX4_keep, cX4_keep, 3, none, 4, 123, 0, [], 0)
def m_X8_passMinutes : MI := (yX8_passMinutes, cX8_passMinutes, 3, some .int, 5, 151, 0, [], 0)
def m_X11_pass : MI := (yX11_pass, cX11_pass, 2, some .int, 6, 173, 1, [], 0)
def m_X8_canStart : MI := (yX8_canStart, cX8_canStart, 1, some .boolean, 1, 20, 0, [], 0)
def m_X8_startPlan : MI := (yX8_startPlan, cX8_startPlan, 5, some .int, 3, 105, 0, [], 0)
def m_X11_start : MI := (yX11_start, cX11_start, 2, some .int, 7, 145, 2, [], 0)
def m_X11_stop : MI := (yX11_stop, cX11_stop, 1, some .int, 6, 145, 1, [], 0)
def m_X8_resumePlan : MI := (yX8_resumePlan, cX8_resumePlan, 1, some .int, 2, 85, 0, [], 0)
def m_X11_go : MI := (yX11_go, cX11_go, 1, some .int, 6, 145, 1, [], 0)
def m_X8_setHeld : MI := (yX8_setHeld, cX8_setHeld, 3, some .int, 2, 85, 0, [], 0)
def m_X11_hold : MI := (yX11_hold, cX11_hold, 3, some .int, 7, 145, 2, [], 0)
def m_X11_needMeasure : MI := (yX11_needMeasure, cX11_needMeasure, 1, none, 6, 89, 1, [], 1)
def m_X8_setMeasure : MI := (yX8_setMeasure, cX8_setMeasure, 4, some .int, 0, 0, 0, [], 0)
def m_X11_report : MI := (yX11_report, cX11_report, 3, some .int, 7, 145, 3, [], 0)
def m_X11_change : MI := (yX11_change, cX11_change, 3, some .int, 7, 145, 3, [], 0)
def m_X8_setFormat : MI := (yX8_setFormat, cX8_setFormat, 3, some .int, 2, 85, 0, [], 0)
def m_X11_commit : MI := (yX11_commit, cX11_commit, 2, some .int, 7, 145, 2, [], 0)
def m_X4_takeBack : MI := (yX4_takeBack, cX4_takeBack, 3, none, 4, 123, 0, [], 0)
def m_X11_undo : MI := (yX11_undo, cX11_undo, 1, some .int, 5, 145, 0, [], 0)
theorem o_X8_finishPlan : MOK m_X8_finishPlan := MOKi (tbG_at (p := 1480) (by decide +kernel)) (tbG_at (p := 22) (by decide +kernel)) (by decide +kernel) rfl rfl (tbG_at (p := 1479) (by decide +kernel)) (tbG_atS (p := 25) (by decide +kernel))
theorem o_X8_leaveWave : MOK m_X8_leaveWave := MOKi (tbG_at (p := 1690) (by decide +kernel)) (tbG_at (p := 22) (by decide +kernel)) (by decide +kernel) rfl rfl (tbG_at (p := 1689) (by decide +kernel)) (tbG_atS (p := 30) (by decide +kernel))
theorem o_X8_laggards : MOK m_X8_laggards := MOKi (tbG_at (p := 1698) (by decide +kernel)) (tbG_at (p := 22) (by decide +kernel)) (by decide +kernel) rfl rfl (tbG_at (p := 1696) (by decide +kernel)) (tbG_at (p := 1697) (by decide +kernel))
theorem o_X8_beginChange : MOK m_X8_beginChange := MOKi (tbG_at (p := 1596) (by decide +kernel)) (tbG_at (p := 22) (by decide +kernel)) (by decide +kernel) rfl rfl (tbG_at (p := 1594) (by decide +kernel)) (tbG_at (p := 1595) (by decide +kernel))
theorem o_X8_beginChanges : MOK m_X8_beginChanges := MOKi (tbG_at (p := 1694) (by decide +kernel)) (tbG_at (p := 22) (by decide +kernel)) (by decide +kernel) rfl rfl (tbG_at (p := 1693) (by decide +kernel)) (tbG_atS (p := 31) (by decide +kernel))
theorem o_X8_soakIfComplete : MOK m_X8_soakIfComplete := MOKi (tbG_at (p := 1704) (by decide +kernel)) (tbG_at (p := 22) (by decide +kernel)) (by decide +kernel) rfl rfl (tbG_at (p := 1703) (by decide +kernel)) (tbG_atS (p := 32) (by decide +kernel))
theorem o_X8_passMinute : MOK m_X8_passMinute := MOKi (tbG_at (p := 1665) (by decide +kernel)) (tbG_at (p := 22) (by decide +kernel)) (by decide +kernel) rfl rfl (tbG_at (p := 1663) (by decide +kernel)) (tbG_at (p := 1664) (by decide +kernel))
theorem o_X8_isStuck : MOK m_X8_isStuck := MOKi (tbG_at (p := 1791) (by decide +kernel)) (tbG_at (p := 22) (by decide +kernel)) (by decide +kernel) rfl rfl (tbG_at (p := 1790) (by decide +kernel)) (tbG_atS (p := 33) (by decide +kernel))
theorem o_X8_minutesToDone : MOK m_X8_minutesToDone := MOKi (tbG_at (p := 1787) (by decide +kernel)) (tbG_at (p := 22) (by decide +kernel)) (by decide +kernel) rfl rfl (tbG_at (p := 1785) (by decide +kernel)) (tbG_at (p := 1786) (by decide +kernel))
theorem o_X11_minutesToEnd : MOK m_X11_minutesToEnd := MOKi (tbG_at (p := 1779) (by decide +kernel)) (tbG_at (p := 20) (by decide +kernel)) (by decide +kernel) rfl rfl (tbG_at (p := 1777) (by decide +kernel)) (tbG_at (p := 1778) (by decide +kernel))
theorem o_X11_events : MOK m_X11_events := MOKi (tbG_at (p := 1422) (by decide +kernel)) (tbG_at (p := 20) (by decide +kernel)) (by decide +kernel) rfl rfl (tbG_at (p := 1420) (by decide +kernel)) (tbG_at (p := 1421) (by decide +kernel))
theorem o_X3_cellOf : MOK m_X3_cellOf := MOKi (tbG_at (p := 1760) (by decide +kernel)) (tbG_at (p := 25) (by decide +kernel)) (by decide +kernel) rfl rfl (tbG_at (p := 1758) (by decide +kernel)) (tbG_at (p := 1759) (by decide +kernel))
theorem o_X11_event : MOK m_X11_event := MOKi (tbG_at (p := 1756) (by decide +kernel)) (tbG_at (p := 20) (by decide +kernel)) (by decide +kernel) rfl rfl (tbG_at (p := 1754) (by decide +kernel)) (tbG_at (p := 1755) (by decide +kernel))
theorem o_X8_canPass : MOK m_X8_canPass := MOKi (tbG_at (p := 1657) (by decide +kernel)) (tbG_at (p := 22) (by decide +kernel)) (by decide +kernel) rfl rfl (tbG_at (p := 1655) (by decide +kernel)) (tbG_at (p := 1656) (by decide +kernel))
theorem o_X4_keep : MOK m_X4_keep := MOKi (tbG_at (p := 1451) (by decide +kernel)) (tbG_at (p := 26) (by decide +kernel)) (by decide +kernel) rfl rfl (tbG_at (p := 1449) (by decide +kernel)) (tbG_at (p := 1450) (by decide +kernel))
theorem o_X8_passMinutes : MOK m_X8_passMinutes := MOKi (tbG_at (p := 1661) (by decide +kernel)) (tbG_at (p := 22) (by decide +kernel)) (by decide +kernel) rfl rfl (tbG_at (p := 1659) (by decide +kernel)) (tbG_at (p := 1660) (by decide +kernel))
theorem o_X11_pass : MOK m_X11_pass := MOKi (tbG_at (p := 1653) (by decide +kernel)) (tbG_at (p := 20) (by decide +kernel)) (by decide +kernel) rfl rfl (tbG_at (p := 1651) (by decide +kernel)) (tbG_at (p := 1652) (by decide +kernel))
theorem o_X8_canStart : MOK m_X8_canStart := MOKi (tbG_at (p := 1443) (by decide +kernel)) (tbG_at (p := 22) (by decide +kernel)) (by decide +kernel) rfl rfl (tbG_at (p := 1441) (by decide +kernel)) (tbG_at (p := 1442) (by decide +kernel))
theorem o_X8_startPlan : MOK m_X8_startPlan := MOKi (tbG_at (p := 1457) (by decide +kernel)) (tbG_at (p := 22) (by decide +kernel)) (by decide +kernel) rfl rfl (tbG_at (p := 1455) (by decide +kernel)) (tbG_at (p := 1456) (by decide +kernel))
theorem o_X11_start : MOK m_X11_start := MOKi (tbG_at (p := 1435) (by decide +kernel)) (tbG_at (p := 20) (by decide +kernel)) (by decide +kernel) rfl rfl (tbG_at (p := 1433) (by decide +kernel)) (tbG_at (p := 1434) (by decide +kernel))
theorem o_X11_stop : MOK m_X11_stop := MOKi (tbG_at (p := 1506) (by decide +kernel)) (tbG_at (p := 20) (by decide +kernel)) (by decide +kernel) rfl rfl (tbG_at (p := 1504) (by decide +kernel)) (tbG_at (p := 1505) (by decide +kernel))
theorem o_X8_resumePlan : MOK m_X8_resumePlan := MOKi (tbG_at (p := 1519) (by decide +kernel)) (tbG_at (p := 22) (by decide +kernel)) (by decide +kernel) rfl rfl (tbG_at (p := 1517) (by decide +kernel)) (tbG_at (p := 1518) (by decide +kernel))
theorem o_X11_go : MOK m_X11_go := MOKi (tbG_at (p := 1515) (by decide +kernel)) (tbG_at (p := 20) (by decide +kernel)) (by decide +kernel) rfl rfl (tbG_at (p := 1513) (by decide +kernel)) (tbG_at (p := 1514) (by decide +kernel))
theorem o_X8_setHeld : MOK m_X8_setHeld := MOKi (tbG_at (p := 1532) (by decide +kernel)) (tbG_at (p := 22) (by decide +kernel)) (by decide +kernel) rfl rfl (tbG_at (p := 1530) (by decide +kernel)) (tbG_at (p := 1531) (by decide +kernel))
theorem o_X11_hold : MOK m_X11_hold := MOKi (tbG_at (p := 1527) (by decide +kernel)) (tbG_at (p := 20) (by decide +kernel)) (by decide +kernel) rfl rfl (tbG_at (p := 1525) (by decide +kernel)) (tbG_at (p := 1526) (by decide +kernel))
theorem o_X11_needMeasure : MOK m_X11_needMeasure := MOKs (tbG_at (p := 1550) (by decide +kernel)) (tbG_at (p := 20) (by decide +kernel)) (by decide +kernel) rfl rfl (tbG_at (p := 1549) (by decide +kernel))
theorem o_X8_setMeasure : MOK m_X8_setMeasure := MOKi (tbG_at (p := 1555) (by decide +kernel)) (tbG_at (p := 22) (by decide +kernel)) (by decide +kernel) rfl rfl (tbG_at (p := 1553) (by decide +kernel)) (tbG_at (p := 1554) (by decide +kernel))
theorem o_X11_report : MOK m_X11_report := MOKi (tbG_at (p := 1547) (by decide +kernel)) (tbG_at (p := 20) (by decide +kernel)) (by decide +kernel) rfl rfl (tbG_at (p := 1545) (by decide +kernel)) (tbG_at (p := 1546) (by decide +kernel))
theorem o_X11_change : MOK m_X11_change := MOKi (tbG_at (p := 1592) (by decide +kernel)) (tbG_at (p := 20) (by decide +kernel)) (by decide +kernel) rfl rfl (tbG_at (p := 1590) (by decide +kernel)) (tbG_at (p := 1591) (by decide +kernel))
theorem o_X8_setFormat : MOK m_X8_setFormat := MOKi (tbG_at (p := 1628) (by decide +kernel)) (tbG_at (p := 22) (by decide +kernel)) (by decide +kernel) rfl rfl (tbG_at (p := 1626) (by decide +kernel)) (tbG_at (p := 1627) (by decide +kernel))
theorem o_X11_commit : MOK m_X11_commit := MOKi (tbG_at (p := 1624) (by decide +kernel)) (tbG_at (p := 20) (by decide +kernel)) (by decide +kernel) rfl rfl (tbG_at (p := 1622) (by decide +kernel)) (tbG_at (p := 1623) (by decide +kernel))
theorem o_X4_takeBack : MOK m_X4_takeBack := MOKi (tbG_at (p := 1771) (by decide +kernel)) (tbG_at (p := 26) (by decide +kernel)) (by decide +kernel) rfl rfl (tbG_at (p := 1769) (by decide +kernel)) (tbG_at (p := 1770) (by decide +kernel))
theorem o_X11_undo : MOK m_X11_undo := MOKi (tbG_at (p := 1767) (by decide +kernel)) (tbG_at (p := 20) (by decide +kernel)) (by decide +kernel) rfl rfl (tbG_at (p := 1765) (by decide +kernel)) (tbG_at (p := 1766) (by decide +kernel))
def c_X8_finishPlan : Cd := [
  [(0, .aload_n 0, 1, [], []), (1, .iconst 4, 1, [], []), (2, .putfield 51, 3, [6, 9, 0, 240], []), (5, .aload_n 0, 1, [], []), (6, .iconst (-1), 1, [], []), (7, .putfield 67, 3, [6, 14, 0, 246], []), (10, .aload_n 0, 1, [], []), (11, .getfield 27, 3, [6, 15, 3, 247], []), (14, .aload_n 0, 1, [], []), (15, .getfield 38, 3, [6, 1, 0, 226], [])],
  [(18, .bipush 6, 2, [], []), (20, .iconst (-1), 1, [], []), (21, .aload_n 0, 1, [], []), (22, .getfield 54, 3, [6, 10, 0, 242], []), (25, .invokevirtual 171, 3, [0, 4, 0, 1, 0, 1472], [m_X3_add]), (28, .return_, 1, [], [])]]
theorem k_X8_finishPlan : CdOk m_X8_finishPlan c_X8_finishPlan := ⟨by decide +kernel, allM_of ⟨o_X3_add, trivial⟩⟩
def c_X8_leaveWave : Cd := [
  [(0, .aload_n 0, 1, [], []), (1, .getfield 64, 3, [6, 13, 0, 245], []), (4, .iconst 1, 1, [], []), (5, .iadd, 1, [], []), (6, .aload_n 0, 1, [], []), (7, .getfield 31, 3, [6, 0, 3, 225], []), (10, .getfield 189, 3, [3, 12, 0, 143], []), (13, .if_icmp .lt 7, 3, [20], [])],
  [(16, .iconst 1, 1, [], []), (17, .goto 4, 3, [21], []), (20, .iconst 0, 1, [], []), (21, .istore_n 1, 1, [], []), (22, .iload_n 1, 1, [], []), (23, .ifCond .eq 19, 3, [42], []), (26, .aload_n 0, 1, [], []), (27, .getfield 57, 3, [6, 11, 0, 243], []), (30, .aload_n 0, 1, [], []), (31, .getfield 54, 3, [6, 10, 0, 242], [])],
  [(34, .if_icmp .ne 8, 3, [42], []), (37, .aload_n 0, 1, [], []), (38, .invokevirtual 201, 3, [0, 0, 0, 6, 0, 1477], [m_X8_finishPlan]), (41, .return_, 1, [], []), (42, .iload_n 1, 1, [], []), (43, .ifCond .eq 24, 3, [67], []), (46, .aload_n 0, 1, [], []), (47, .dup, 1, [], [])],
  [(48, .getfield 57, 3, [6, 11, 0, 243], []), (51, .aload_n 0, 1, [], []), (52, .getfield 60, 3, [6, 12, 1, 244], []), (55, .ifCond .eq 7, 3, [62], []), (58, .iconst 1, 1, [], []), (59, .goto 4, 3, [63], []), (62, .iconst (-1), 1, [], []), (63, .iadd, 1, [], [])],
  [(64, .putfield 57, 3, [6, 11, 0, 243], []), (67, .aload_n 0, 1, [], []), (68, .iload_n 1, 1, [], []), (69, .ifCond .eq 7, 3, [76], []), (72, .iconst 0, 1, [], []), (73, .goto 9, 3, [82], []), (76, .aload_n 0, 1, [], []), (77, .getfield 64, 3, [6, 13, 0, 245], [])],
  [(80, .iconst 1, 1, [], []), (81, .iadd, 1, [], []), (82, .putfield 64, 3, [6, 13, 0, 245], []), (85, .aload_n 0, 1, [], []), (86, .iconst (-1), 1, [], []), (87, .putfield 67, 3, [6, 14, 0, 246], []), (90, .aload_n 0, 1, [], []), (91, .iconst 1, 1, [], []), (92, .putfield 51, 3, [6, 9, 0, 240], []), (95, .return_, 1, [], [])]]
theorem k_X8_leaveWave : CdOk m_X8_leaveWave c_X8_leaveWave := ⟨by decide +kernel, allM_of ⟨o_X8_finishPlan, trivial⟩⟩
def c_X8_laggards : Cd := [
  [(0, .aload_n 0, 1, [], []), (1, .invokevirtual 185, 3, [0, 0, 1, 6, 0, 1367], [m_X8_isUnderWay]), (4, .ifCond .eq 24, 3, [28], []), (7, .aload_n 0, 1, [], []), (8, .getfield 64, 3, [6, 13, 0, 245], []), (11, .ifCond .lt 17, 3, [28], []), (14, .aload_n 0, 1, [], []), (15, .getfield 64, 3, [6, 13, 0, 245], [])],
  [(18, .aload_n 0, 1, [], []), (19, .getfield 31, 3, [6, 0, 3, 225], []), (22, .getfield 189, 3, [3, 12, 0, 143], []), (25, .if_icmp .lt 5, 3, [30], []), (28, .iconst 0, 1, [], []), (29, .ireturn, 1, [1], []), (30, .aload_n 0, 1, [], []), (31, .getfield 31, 3, [6, 0, 3, 225], [])],
  [(34, .getfield 207, 3, [3, 7, 3, 127], []), (37, .aload_n 0, 1, [], []), (38, .getfield 64, 3, [6, 13, 0, 245], []), (41, .iaload, 1, [], []), (42, .istore_n 1, 1, [], []), (43, .iload_n 1, 1, [], []), (44, .aload_n 0, 1, [], []), (45, .iload_n 1, 1, [], []), (46, .invokevirtual 204, 3, [0, 1, 1, 6, 0, 1678], [m_X8_reachedOf])],
  [(49, .iconst (-1), 1, [], []), (50, .ixor, 1, [], []), (51, .iand, 1, [], []), (52, .ireturn, 1, [1], [])]]
theorem k_X8_laggards : CdOk m_X8_laggards c_X8_laggards := ⟨by decide +kernel, allM_of ⟨o_X8_isUnderWay, ⟨o_X8_reachedOf, trivial⟩⟩⟩
def c_X8_beginChange : Cd := [
  [(0, .aload_n 0, 1, [], []), (1, .getfield 15, 3, [6, 4, 3, 233], []), (4, .iload_n 1, 1, [], []), (5, .iload_n 2, 1, [], []), (6, .iastore, 1, [], []), (7, .aload_n 0, 1, [], []), (8, .getfield 18, 3, [6, 5, 3, 234], []), (11, .iload_n 1, 1, [], []), (12, .aload_n 0, 1, [], []), (13, .getfield 38, 3, [6, 1, 0, 226], [])],
  [(16, .aload_n 0, 1, [], []), (17, .getfield 31, 3, [6, 0, 3, 225], []), (20, .getfield 168, 3, [3, 15, 0, 152], []), (23, .iadd, 1, [], []), (24, .iastore, 1, [], []), (25, .aload_n 0, 1, [], []), (26, .dup, 1, [], []), (27, .getfield 45, 3, [6, 7, 0, 236], []), (30, .iconst 1, 1, [], []), (31, .iload_n 1, 1, [], [])],
  [(32, .ishl, 1, [], []), (33, .ior, 1, [], []), (34, .putfield 45, 3, [6, 7, 0, 236], []), (37, .aload_n 0, 1, [], []), (38, .getfield 27, 3, [6, 15, 3, 247], []), (41, .aload_n 0, 1, [], []), (42, .getfield 38, 3, [6, 1, 0, 226], []), (45, .iconst 0, 1, [], []), (46, .iload_n 1, 1, [], []), (47, .iload_n 2, 1, [], [])],
  [(48, .invokevirtual 171, 3, [0, 4, 0, 1, 0, 1472], [m_X3_add]), (51, .aload_n 0, 1, [], []), (52, .getfield 18, 3, [6, 5, 3, 234], []), (55, .iload_n 1, 1, [], []), (56, .iaload, 1, [], []), (57, .ireturn, 1, [1], [])]]
theorem k_X8_beginChange : CdOk m_X8_beginChange c_X8_beginChange := ⟨by decide +kernel, allM_of ⟨o_X3_add, trivial⟩⟩
def c_X8_beginChanges : Cd := [
  [(0, .iconst 0, 1, [], []), (1, .istore_n 1, 1, [], []), (2, .aload_n 0, 1, [], []), (3, .invokevirtual 240, 3, [0, 0, 1, 6, 0, 1695], [m_X8_laggards]), (6, .aload_n 0, 1, [], []), (7, .getfield 45, 3, [6, 7, 0, 236], []), (10, .iconst (-1), 1, [], []), (11, .ixor, 1, [], []), (12, .iand, 1, [], []), (13, .aload_n 0, 1, [], []), (14, .getfield 48, 3, [6, 8, 0, 238], [])],
  [(17, .iconst (-1), 1, [], []), (18, .ixor, 1, [], []), (19, .iand, 1, [], []), (20, .istore_n 2, 1, [], []), (21, .iconst 0, 1, [], []), (22, .istore_n 3, 1, [], []), (23, .iload_n 3, 1, [], []), (24, .aload_n 0, 1, [], []), (25, .getfield 31, 3, [6, 0, 3, 225], []), (28, .getfield 89, 3, [3, 8, 3, 131], []), (31, .getfield 93, 3, [4, 1, 0, 102], [])],
  [(34, .if_icmp .ge 42, 3, [76], []), (37, .iload_n 2, 1, [], []), (38, .iload_n 3, 1, [], []), (39, .invokestatic 119, 3, [2, 2, 1, 0, 0, 0], [m_X11_isIn]), (42, .ifCond .eq 28, 3, [70], []), (45, .aload_n 0, 1, [], []), (46, .iload_n 3, 1, [], []), (47, .aload_n 0, 1, [], [])],
  [(48, .getfield 57, 3, [6, 11, 0, 243], []), (51, .invokevirtual 243, 3, [0, 2, 1, 6, 0, 1699], [m_X8_whyNotBegin]), (54, .ifCond .ne 16, 3, [70], []), (57, .aload_n 0, 1, [], []), (58, .iload_n 3, 1, [], []), (59, .aload_n 0, 1, [], []), (60, .getfield 57, 3, [6, 11, 0, 243], []), (63, .invokevirtual 246, 3, [0, 2, 1, 6, 0, 1700], [m_X8_beginChange])],
  [(66, .pop, 1, [], []), (67, .iinc 1 1, 3, [], []), (70, .iinc 3 1, 3, [], []), (73, .goto (-50), 3, [23], []), (76, .iload_n 1, 1, [], []), (77, .ireturn, 1, [1], [])]]
theorem k_X8_beginChanges : CdOk m_X8_beginChanges c_X8_beginChanges := ⟨by decide +kernel, allM_of ⟨o_X8_laggards, ⟨o_X11_isIn, ⟨o_X8_whyNotBegin, ⟨o_X8_beginChange, trivial⟩⟩⟩⟩⟩
def c_X8_soakIfComplete : Cd := [
  [(0, .aload_n 0, 1, [], []), (1, .invokevirtual 240, 3, [0, 0, 1, 6, 0, 1695], [m_X8_laggards]), (4, .aload_n 0, 1, [], []), (5, .getfield 48, 3, [6, 8, 0, 238], []), (8, .iconst (-1), 1, [], []), (9, .ixor, 1, [], []), (10, .iand, 1, [], []), (11, .ifCond .ne 41, 3, [52], []), (14, .aload_n 0, 1, [], []), (15, .iconst 2, 1, [], [])],
  [(16, .putfield 51, 3, [6, 9, 0, 240], []), (19, .aload_n 0, 1, [], []), (20, .aload_n 0, 1, [], []), (21, .getfield 38, 3, [6, 1, 0, 226], []), (24, .aload_n 0, 1, [], []), (25, .getfield 31, 3, [6, 0, 3, 225], []), (28, .getfield 249, 3, [3, 16, 0, 155], []), (31, .iadd, 1, [], [])],
  [(32, .putfield 67, 3, [6, 14, 0, 246], []), (35, .aload_n 0, 1, [], []), (36, .getfield 27, 3, [6, 15, 3, 247], []), (39, .aload_n 0, 1, [], []), (40, .getfield 38, 3, [6, 1, 0, 226], []), (43, .iconst 3, 1, [], []), (44, .iconst (-1), 1, [], []), (45, .aload_n 0, 1, [], []), (46, .getfield 64, 3, [6, 13, 0, 245], [])],
  [(49, .invokevirtual 171, 3, [0, 4, 0, 1, 0, 1472], [m_X3_add]), (52, .return_, 1, [], [])]]
theorem k_X8_soakIfComplete : CdOk m_X8_soakIfComplete c_X8_soakIfComplete := ⟨by decide +kernel, allM_of ⟨o_X8_laggards, ⟨o_X3_add, trivial⟩⟩⟩
def c_X8_passMinute : Cd := [
  [(0, .iconst 0, 1, [], []), (1, .istore_n 1, 1, [], []), (2, .aload_n 0, 1, [], []), (3, .dup, 1, [], []), (4, .getfield 38, 3, [6, 1, 0, 226], []), (7, .iconst 1, 1, [], []), (8, .iadd, 1, [], []), (9, .putfield 38, 3, [6, 1, 0, 226], []), (12, .aload_n 0, 1, [], []), (13, .invokevirtual 213, 3, [0, 0, 0, 6, 0, 1666], [m_X8_endChanges])],
  [(16, .aload_n 0, 1, [], []), (17, .invokevirtual 192, 3, [0, 0, 1, 6, 0, 1444], [m_X8_isActive]), (20, .ifCond .eq 15, 3, [35], []), (23, .aload_n 0, 1, [], []), (24, .invokevirtual 216, 3, [0, 0, 1, 6, 0, 1670], [m_X8_isOverLimit]), (27, .ifCond .eq 8, 3, [35], []), (30, .aload_n 0, 1, [], []), (31, .invokevirtual 219, 3, [0, 0, 1, 6, 0, 1686], [m_X8_stopPlan])],
  [(34, .pop, 1, [], []), (35, .aload_n 0, 1, [], []), (36, .getfield 51, 3, [6, 9, 0, 240], []), (39, .iconst 2, 1, [], []), (40, .if_icmp .ne 18, 3, [58], []), (43, .aload_n 0, 1, [], []), (44, .getfield 38, 3, [6, 1, 0, 226], []), (47, .aload_n 0, 1, [], [])],
  [(48, .getfield 67, 3, [6, 14, 0, 246], []), (51, .if_icmp .lt 7, 3, [58], []), (54, .aload_n 0, 1, [], []), (55, .invokevirtual 222, 3, [0, 0, 0, 6, 0, 1687], [m_X8_leaveWave]), (58, .aload_n 0, 1, [], []), (59, .getfield 51, 3, [6, 9, 0, 240], []), (62, .iconst 1, 1, [], []), (63, .if_icmp .ne 12, 3, [75], [])],
  [(66, .aload_n 0, 1, [], []), (67, .invokevirtual 225, 3, [0, 0, 1, 6, 0, 1691], [m_X8_beginChanges]), (70, .istore_n 1, 1, [], []), (71, .aload_n 0, 1, [], []), (72, .invokevirtual 228, 3, [0, 0, 0, 6, 0, 1701], [m_X8_soakIfComplete]), (75, .iload_n 1, 1, [], []), (76, .ireturn, 1, [1], [])]]
theorem k_X8_passMinute : CdOk m_X8_passMinute c_X8_passMinute := ⟨by decide +kernel, allM_of ⟨o_X8_endChanges, ⟨o_X8_isActive, ⟨o_X8_isOverLimit, ⟨o_X8_stopPlan, ⟨o_X8_leaveWave, ⟨o_X8_beginChanges, ⟨o_X8_soakIfComplete, trivial⟩⟩⟩⟩⟩⟩⟩⟩
def c_X8_isStuck : Cd := [
  [(0, .aload_n 0, 1, [], []), (1, .getfield 51, 3, [6, 9, 0, 240], []), (4, .iconst 1, 1, [], []), (5, .if_icmp .ne 18, 3, [23], []), (8, .iload_n 1, 1, [], []), (9, .ifCond .ne 14, 3, [23], []), (12, .aload_n 0, 1, [], []), (13, .getfield 45, 3, [6, 7, 0, 236], [])],
  [(16, .ifCond .ne 7, 3, [23], []), (19, .iconst 1, 1, [], []), (20, .goto 4, 3, [24], []), (23, .iconst 0, 1, [], []), (24, .ireturn, 1, [6], [])]]
theorem k_X8_isStuck : CdOk m_X8_isStuck c_X8_isStuck := ⟨by decide +kernel, allM_of trivial⟩
def c_X8_minutesToDone : Cd := [
  [(0, .iconst 0, 1, [], []), (1, .istore_n 2, 1, [], []), (2, .iconst 0, 1, [], []), (3, .istore_n 3, 1, [], []), (4, .iload_n 3, 1, [], []), (5, .iload_n 1, 1, [], []), (6, .if_icmp .gt 43, 3, [49], []), (9, .aload_n 0, 1, [], []), (10, .getfield 51, 3, [6, 9, 0, 240], []), (13, .iconst 4, 1, [], []), (14, .if_icmp .ne 5, 3, [19], [])],
  [(17, .iload_n 3, 1, [], []), (18, .ireturn, 1, [1], []), (19, .aload_n 0, 1, [], []), (20, .invokevirtual 192, 3, [0, 0, 1, 6, 0, 1444], [m_X8_isActive]), (23, .ifCond .ne 5, 3, [28], []), (26, .iconst (-1), 1, [], []), (27, .ireturn, 1, [1], []), (28, .aload_n 0, 1, [], []), (29, .invokevirtual 210, 3, [0, 0, 1, 6, 0, 1662], [m_X8_passMinute])],
  [(32, .istore_n 2, 1, [], []), (33, .aload_n 0, 1, [], []), (34, .iload_n 2, 1, [], []), (35, .invokevirtual 307, 3, [0, 1, 1, 6, 0, 1788], [m_X8_isStuck]), (38, .ifCond .eq 5, 3, [43], []), (41, .iconst (-1), 1, [], []), (42, .ireturn, 1, [1], []), (43, .iinc 3 1, 3, [], []), (46, .goto (-42), 3, [4], [])],
  [(49, .iconst (-1), 1, [], []), (50, .ireturn, 1, [1], [])]]
theorem k_X8_minutesToDone : CdOk m_X8_minutesToDone c_X8_minutesToDone := ⟨by decide +kernel, allM_of ⟨o_X8_isActive, ⟨o_X8_passMinute, ⟨o_X8_isStuck, trivial⟩⟩⟩⟩
def c_X11_minutesToEnd : Cd := [
  [(0, .iload_n 1, 1, [], []), (1, .invokestatic 250, 3, [1, 1, 0, 0, 1, 1780], [m_X11_needAhead]), (4, .aload_n 0, 1, [], []), (5, .getfield 32, 3, [8, 2, 3, 362], []), (8, .aload_n 0, 1, [], []), (9, .getfield 24, 3, [8, 1, 3, 361], []), (12, .invokevirtual 253, 3, [0, 1, 0, 6, 0, 1783], [m_X8_copyFrom]), (15, .aload_n 0, 1, [], [])],
  [(16, .getfield 32, 3, [8, 2, 3, 362], []), (19, .iload_n 1, 1, [], []), (20, .invokevirtual 256, 3, [0, 1, 1, 6, 0, 1784], [m_X8_minutesToDone]), (23, .ireturn, 1, [1], [])]]
theorem k_X11_minutesToEnd : CdOk m_X11_minutesToEnd c_X11_minutesToEnd := ⟨by decide +kernel, allM_of ⟨o_X11_needAhead, ⟨o_X8_copyFrom, ⟨o_X8_minutesToDone, trivial⟩⟩⟩⟩
def c_X11_events : Cd := [
  [(0, .aload_n 0, 1, [], []), (1, .getfield 24, 3, [8, 1, 3, 361], []), (4, .getfield 283, 3, [6, 15, 3, 248], []), (7, .getfield 287, 3, [1, 1, 0, 210], []), (10, .ireturn, 1, [1], [])]]
theorem k_X11_events : CdOk m_X11_events c_X11_events := ⟨by decide +kernel, allM_of trivial⟩
def c_X3_cellOf : Cd := [
  [(0, .aload_n 0, 1, [], []), (1, .getfield 19, 3, [1, 2, 0, 211], []), (4, .iload_n 1, 1, [], []), (5, .isub, 1, [], []), (6, .bipush 30, 2, [], []), (8, .invokestatic 32, 3, [13, 1761], []), (11, .istore_n 3, 1, [], []), (12, .aload_n 0, 1, [], []), (13, .getfield 11, 3, [1, 0, 3, 207], [])],
  [(16, .iload_n 3, 1, [], []), (17, .iconst 4, 1, [], []), (18, .imul, 1, [], []), (19, .iload_n 2, 1, [], []), (20, .iadd, 1, [], []), (21, .iaload, 1, [], []), (22, .ireturn, 1, [1], [])]]
theorem k_X3_cellOf : CdOk m_X3_cellOf c_X3_cellOf := ⟨by decide +kernel, allM_of trivial⟩
def c_X11_event : Cd := [
  [(0, .iload_n 1, 1, [], []), (1, .ifCond .lt 17, 3, [18], []), (4, .iload_n 1, 1, [], []), (5, .aload_n 0, 1, [], []), (6, .getfield 24, 3, [8, 1, 3, 361], []), (9, .getfield 283, 3, [6, 15, 3, 248], []), (12, .getfield 287, 3, [1, 1, 0, 210], []), (15, .if_icmp .lt 11, 3, [26], [])],
  [(18, .new 178, 3, [2, 180, 1392, 1401], []), (26, .iload_n 2, 1, [], []), (27, .ifCond .lt 8, 3, [35], []), (30, .iload_n 2, 1, [], []), (31, .iconst 4, 1, [], [])],
  [(32, .if_icmp .lt 11, 3, [43], []), (35, .new 86, 3, [1, 88, 621, 662], []), (43, .aload_n 0, 1, [], []), (44, .getfield 24, 3, [8, 1, 3, 361], []), (47, .getfield 283, 3, [6, 15, 3, 248], [])],
  [(50, .iload_n 1, 1, [], []), (51, .iload_n 2, 1, [], []), (52, .invokevirtual 290, 3, [0, 2, 1, 1, 0, 1757], [m_X3_cellOf]), (55, .ireturn, 1, [1], [])]]
theorem k_X11_event : CdOk m_X11_event c_X11_event := ⟨by decide +kernel, allM_of ⟨o_X3_cellOf, trivial⟩⟩
def c_X8_canPass : Cd := [
  [(0, .iload_n 1, 1, [], []), (1, .ifCond .lt 26, 3, [27], []), (4, .iload_n 1, 1, [], []), (5, .sipush 999, 3, [], []), (8, .if_icmp .gt 19, 3, [27], []), (11, .aload_n 0, 1, [], []), (12, .getfield 38, 3, [6, 1, 0, 226], []), (15, .iload_n 1, 1, [], [])],
  [(16, .iadd, 1, [], []), (17, .sipush 20000, 3, [], []), (20, .if_icmp .gt 7, 3, [27], []), (23, .iconst 1, 1, [], []), (24, .goto 4, 3, [28], []), (27, .iconst 0, 1, [], []), (28, .ireturn, 1, [6], [])]]
theorem k_X8_canPass : CdOk m_X8_canPass c_X8_canPass := ⟨by decide +kernel, allM_of trivial⟩
def c_X4_keep : Cd := [
  [(0, .aload_n 0, 1, [], []), (1, .aload_n 0, 1, [], []), (2, .getfield 21, 3, [2, 2, 0, 294], []), (5, .iconst 1, 1, [], []), (6, .iadd, 1, [], []), (7, .bipush 6, 2, [], []), (9, .irem, 1, [], []), (10, .putfield 21, 3, [2, 2, 0, 294], []), (13, .aload_n 0, 1, [], []), (14, .getfield 11, 3, [2, 0, 3, 291], [])],
  [(17, .aload_n 0, 1, [], []), (18, .getfield 21, 3, [2, 2, 0, 294], []), (21, .aaload, 1, [4], []), (22, .astore_n 2, 1, [], []), (23, .aload_n 2, 1, [], []), (24, .ifnull 23, 3, [47], []), (27, .aload_n 2, 1, [], []), (28, .aload_n 1, 1, [], []), (29, .invokevirtual 27, 3, [0, 1, 0, 6, 0, 1452], [m_X8_copyFrom])],
  [(32, .aload_n 0, 1, [], []), (33, .aload_n 0, 1, [], []), (34, .getfield 17, 3, [2, 1, 0, 292], []), (37, .iconst 1, 1, [], []), (38, .iadd, 1, [], []), (39, .bipush 6, 2, [], []), (41, .invokestatic 31, 3, [10, 1453], []), (44, .putfield 17, 3, [2, 1, 0, 292], []), (47, .return_, 1, [], [])]]
theorem k_X4_keep : CdOk m_X4_keep c_X4_keep := ⟨by decide +kernel, allM_of ⟨o_X8_copyFrom, trivial⟩⟩
def c_X8_passMinutes : Cd := [
  [(0, .iconst 0, 1, [], []), (1, .istore_n 2, 1, [], []), (2, .iload_n 2, 1, [], []), (3, .iload_n 1, 1, [], []), (4, .if_icmp .ge 14, 3, [18], []), (7, .aload_n 0, 1, [], []), (8, .invokevirtual 210, 3, [0, 0, 1, 6, 0, 1662], [m_X8_passMinute]), (11, .pop, 1, [], []), (12, .iinc 2 1, 3, [], []), (15, .goto (-13), 3, [2], [])],
  [(18, .aload_n 0, 1, [], []), (19, .getfield 38, 3, [6, 1, 0, 226], []), (22, .ireturn, 1, [1], [])]]
theorem k_X8_passMinutes : CdOk m_X8_passMinutes c_X8_passMinutes := ⟨by decide +kernel, allM_of ⟨o_X8_passMinute, trivial⟩⟩
def c_X11_pass : Cd := [
  [(0, .aload_n 0, 1, [], []), (1, .getfield 24, 3, [8, 1, 3, 361], []), (4, .iload_n 1, 1, [], []), (5, .invokevirtual 293, 3, [0, 1, 1, 6, 0, 1654], [m_X8_canPass]), (8, .ifCond .ne 11, 3, [19], []), (11, .new 86, 3, [1, 88, 621, 662], [])],
  [(19, .aload_n 0, 1, [], []), (20, .getfield 48, 3, [8, 6, 3, 366], []), (23, .aload_n 0, 1, [], []), (24, .getfield 24, 3, [8, 1, 3, 361], []), (27, .invokevirtual 112, 3, [0, 1, 0, 2, 0, 1448], [m_X4_keep]), (30, .aload_n 0, 1, [], []), (31, .getfield 24, 3, [8, 1, 3, 361], [])],
  [(34, .iload_n 1, 1, [], []), (35, .invokevirtual 296, 3, [0, 1, 1, 6, 0, 1658], [m_X8_passMinutes]), (38, .ireturn, 1, [1], [])]]
theorem k_X11_pass : CdOk m_X11_pass c_X11_pass := ⟨by decide +kernel, allM_of ⟨o_X8_canPass, ⟨o_X4_keep, ⟨o_X8_passMinutes, trivial⟩⟩⟩⟩
def c_X8_canStart : Cd := [
  [(0, .aload_n 0, 1, [], []), (1, .getfield 31, 3, [6, 0, 3, 225], []), (4, .getfield 189, 3, [3, 12, 0, 143], []), (7, .ifCond .le 14, 3, [21], []), (10, .aload_n 0, 1, [], []), (11, .invokevirtual 192, 3, [0, 0, 1, 6, 0, 1444], [m_X8_isActive]), (14, .ifCond .ne 7, 3, [21], [])],
  [(17, .iconst 1, 1, [], []), (18, .goto 4, 3, [22], []), (21, .iconst 0, 1, [], []), (22, .ireturn, 1, [6], [])]]
theorem k_X8_canStart : CdOk m_X8_canStart c_X8_canStart := ⟨by decide +kernel, allM_of ⟨o_X8_isActive, trivial⟩⟩
def c_X8_startPlan : Cd := [
  [(0, .aload_n 0, 1, [], []), (1, .getfield 31, 3, [6, 0, 3, 225], []), (4, .invokevirtual 195, 3, [0, 0, 1, 3, 0, 1458], [m_X5_plannedMembers]), (7, .aload_n 0, 1, [], []), (8, .getfield 48, 3, [6, 8, 0, 238], []), (11, .iconst (-1), 1, [], []), (12, .ixor, 1, [], []), (13, .iand, 1, [], []), (14, .istore_n 2, 1, [], []), (15, .aload_n 0, 1, [], [])],
  [(16, .iload_n 2, 1, [], []), (17, .invokevirtual 182, 3, [0, 1, 1, 6, 0, 1462], [m_X8_lowestComing]), (20, .istore_n 3, 1, [], []), (21, .aload_n 0, 1, [], []), (22, .iload_n 2, 1, [], []), (23, .invokevirtual 198, 3, [0, 1, 1, 6, 0, 1467], [m_X8_highestComing]), (26, .istore 4, 2, [], []), (28, .aload_n 0, 1, [], []), (29, .getfield 27, 3, [6, 15, 3, 247], [])],
  [(32, .aload_n 0, 1, [], []), (33, .getfield 38, 3, [6, 1, 0, 226], []), (36, .iconst 2, 1, [], []), (37, .iconst (-1), 1, [], []), (38, .iload_n 1, 1, [], []), (39, .invokevirtual 171, 3, [0, 4, 0, 1, 0, 1472], [m_X3_add]), (42, .aload_n 0, 1, [], []), (43, .iload_n 1, 1, [], []), (44, .putfield 54, 3, [6, 10, 0, 242], []), (47, .aload_n 0, 1, [], [])],
  [(48, .iconst (-1), 1, [], []), (49, .putfield 67, 3, [6, 14, 0, 246], []), (52, .iload_n 2, 1, [], []), (53, .ifCond .eq 14, 3, [67], []), (56, .iload_n 3, 1, [], []), (57, .iload_n 1, 1, [], []), (58, .if_icmp .ne 15, 3, [73], []), (61, .iload 4, 2, [], []), (63, .iload_n 1, 1, [], [])],
  [(64, .if_icmp .ne 9, 3, [73], []), (67, .aload_n 0, 1, [], []), (68, .invokevirtual 201, 3, [0, 0, 0, 6, 0, 1477], [m_X8_finishPlan]), (71, .iconst (-1), 1, [], []), (72, .ireturn, 1, [1], []), (73, .aload_n 0, 1, [], []), (74, .iload_n 3, 1, [], []), (75, .iload_n 1, 1, [], []), (76, .if_icmp .ge 7, 3, [83], []), (79, .iconst 1, 1, [], [])],
  [(80, .goto 4, 3, [84], []), (83, .iconst 0, 1, [], []), (84, .putfield 60, 3, [6, 12, 1, 244], []), (87, .aload_n 0, 1, [], []), (88, .aload_n 0, 1, [], []), (89, .getfield 60, 3, [6, 12, 1, 244], []), (92, .ifCond .eq 9, 3, [101], []), (95, .iload_n 3, 1, [], [])],
  [(96, .iconst 1, 1, [], []), (97, .iadd, 1, [], []), (98, .goto 7, 3, [105], []), (101, .iload 4, 2, [], []), (103, .iconst 1, 1, [], []), (104, .isub, 1, [], []), (105, .putfield 57, 3, [6, 11, 0, 243], []), (108, .aload_n 0, 1, [], []), (109, .iconst 0, 1, [], []), (110, .putfield 64, 3, [6, 13, 0, 245], [])],
  [(113, .aload_n 0, 1, [], []), (114, .iconst 1, 1, [], []), (115, .putfield 51, 3, [6, 9, 0, 240], []), (118, .aload_n 0, 1, [], []), (119, .getfield 57, 3, [6, 11, 0, 243], []), (122, .ireturn, 1, [1], [])]]
theorem k_X8_startPlan : CdOk m_X8_startPlan c_X8_startPlan := ⟨by decide +kernel, allM_of ⟨o_X5_plannedMembers, ⟨o_X8_lowestComing, ⟨o_X8_highestComing, ⟨o_X3_add, ⟨o_X8_finishPlan, trivial⟩⟩⟩⟩⟩⟩
def c_X11_start : Cd := [
  [(0, .aload_n 0, 1, [], []), (1, .iload_n 1, 1, [], []), (2, .invokevirtual 139, 3, [0, 1, 0, 8, 1, 1436], [m_X11_needVersion]), (5, .aload_n 0, 1, [], []), (6, .getfield 24, 3, [8, 1, 3, 361], []), (9, .invokevirtual 299, 3, [0, 0, 1, 6, 0, 1440], [m_X8_canStart]), (12, .ifCond .ne 11, 3, [23], []), (15, .new 79, 3, [0, 81, 1321, 1330], [])],
  [(23, .aload_n 0, 1, [], []), (24, .getfield 48, 3, [8, 6, 3, 366], []), (27, .aload_n 0, 1, [], []), (28, .getfield 24, 3, [8, 1, 3, 361], []), (31, .invokevirtual 112, 3, [0, 1, 0, 2, 0, 1448], [m_X4_keep])],
  [(34, .aload_n 0, 1, [], []), (35, .getfield 24, 3, [8, 1, 3, 361], []), (38, .iload_n 1, 1, [], []), (39, .invokevirtual 302, 3, [0, 1, 1, 6, 0, 1454], [m_X8_startPlan]), (42, .ireturn, 1, [1], [])]]
theorem k_X11_start : CdOk m_X11_start c_X11_start := ⟨by decide +kernel, allM_of ⟨o_X11_needVersion, ⟨o_X8_canStart, ⟨o_X4_keep, ⟨o_X8_startPlan, trivial⟩⟩⟩⟩⟩
def c_X11_stop : Cd := [
  [(0, .aload_n 0, 1, [], []), (1, .getfield 24, 3, [8, 1, 3, 361], []), (4, .invokevirtual 271, 3, [0, 0, 1, 6, 0, 1507], [m_X8_isActive]), (7, .ifCond .ne 11, 3, [18], []), (10, .new 79, 3, [0, 81, 1321, 1330], [])],
  [(18, .aload_n 0, 1, [], []), (19, .getfield 48, 3, [8, 6, 3, 366], []), (22, .aload_n 0, 1, [], []), (23, .getfield 24, 3, [8, 1, 3, 361], []), (26, .invokevirtual 112, 3, [0, 1, 0, 2, 0, 1448], [m_X4_keep]), (29, .aload_n 0, 1, [], []), (30, .getfield 24, 3, [8, 1, 3, 361], [])],
  [(33, .invokevirtual 305, 3, [0, 0, 1, 6, 0, 1508], [m_X8_stopPlan]), (36, .ireturn, 1, [1], [])]]
theorem k_X11_stop : CdOk m_X11_stop c_X11_stop := ⟨by decide +kernel, allM_of ⟨o_X8_isActive, ⟨o_X4_keep, ⟨o_X8_stopPlan, trivial⟩⟩⟩⟩
def c_X8_resumePlan : Cd := [
  [(0, .aload_n 0, 1, [], []), (1, .aload_n 0, 1, [], []), (2, .getfield 67, 3, [6, 14, 0, 246], []), (5, .iconst (-1), 1, [], []), (6, .if_icmp .ne 7, 3, [13], []), (9, .iconst 1, 1, [], []), (10, .goto 4, 3, [14], []), (13, .iconst 2, 1, [], []), (14, .putfield 51, 3, [6, 9, 0, 240], [])],
  [(17, .aload_n 0, 1, [], []), (18, .getfield 27, 3, [6, 15, 3, 247], []), (21, .aload_n 0, 1, [], []), (22, .getfield 38, 3, [6, 1, 0, 226], []), (25, .iconst 5, 1, [], []), (26, .iconst (-1), 1, [], []), (27, .aload_n 0, 1, [], []), (28, .getfield 64, 3, [6, 13, 0, 245], []), (31, .invokevirtual 171, 3, [0, 4, 0, 1, 0, 1472], [m_X3_add])],
  [(34, .aload_n 0, 1, [], []), (35, .getfield 64, 3, [6, 13, 0, 245], []), (38, .ireturn, 1, [1], [])]]
theorem k_X8_resumePlan : CdOk m_X8_resumePlan c_X8_resumePlan := ⟨by decide +kernel, allM_of ⟨o_X3_add, trivial⟩⟩
def c_X11_go : Cd := [
  [(0, .aload_n 0, 1, [], []), (1, .getfield 24, 3, [8, 1, 3, 361], []), (4, .getfield 280, 3, [6, 9, 0, 241], []), (7, .iconst 3, 1, [], []), (8, .if_icmp .eq 11, 3, [19], []), (11, .new 79, 3, [0, 81, 1321, 1330], [])],
  [(19, .aload_n 0, 1, [], []), (20, .getfield 48, 3, [8, 6, 3, 366], []), (23, .aload_n 0, 1, [], []), (24, .getfield 24, 3, [8, 1, 3, 361], []), (27, .invokevirtual 112, 3, [0, 1, 0, 2, 0, 1448], [m_X4_keep]), (30, .aload_n 0, 1, [], []), (31, .getfield 24, 3, [8, 1, 3, 361], [])],
  [(34, .invokevirtual 308, 3, [0, 0, 1, 6, 0, 1516], [m_X8_resumePlan]), (37, .ireturn, 1, [1], [])]]
theorem k_X11_go : CdOk m_X11_go c_X11_go := ⟨by decide +kernel, allM_of ⟨o_X4_keep, ⟨o_X8_resumePlan, trivial⟩⟩⟩
def c_X8_setHeld : Cd := [
  [(0, .aload_n 0, 1, [], []), (1, .iload_n 2, 1, [], []), (2, .ifCond .eq 14, 3, [16], []), (5, .aload_n 0, 1, [], []), (6, .getfield 48, 3, [6, 8, 0, 238], []), (9, .iconst 1, 1, [], []), (10, .iload_n 1, 1, [], []), (11, .ishl, 1, [], []), (12, .ior, 1, [], []), (13, .goto 13, 3, [26], [])],
  [(16, .aload_n 0, 1, [], []), (17, .getfield 48, 3, [6, 8, 0, 238], []), (20, .iconst 1, 1, [], []), (21, .iload_n 1, 1, [], []), (22, .ishl, 1, [], []), (23, .iconst (-1), 1, [], []), (24, .ixor, 1, [], []), (25, .iand, 1, [], []), (26, .putfield 48, 3, [6, 8, 0, 238], []), (29, .aload_n 0, 1, [], []), (30, .getfield 27, 3, [6, 15, 3, 247], [])],
  [(33, .aload_n 0, 1, [], []), (34, .getfield 38, 3, [6, 1, 0, 226], []), (37, .bipush 8, 2, [], []), (39, .iload_n 1, 1, [], []), (40, .iload_n 2, 1, [], []), (41, .ifCond .eq 7, 3, [48], []), (44, .iconst 1, 1, [], []), (45, .goto 4, 3, [49], [])],
  [(48, .iconst 0, 1, [], []), (49, .invokevirtual 171, 3, [0, 4, 0, 1, 0, 1472], [m_X3_add]), (52, .aload_n 0, 1, [], []), (53, .getfield 48, 3, [6, 8, 0, 238], []), (56, .invokestatic 151, 3, [1, 1, 1, 0, 0, 1533], [m_J6_bitCount_0f7a4]), (59, .ireturn, 1, [1], [])]]
theorem k_X8_setHeld : CdOk m_X8_setHeld c_X8_setHeld := ⟨by decide +kernel, allM_of ⟨o_X3_add, ⟨o_J6_bitCount_0f7a4, trivial⟩⟩⟩
def c_X11_hold : Cd := [
  [(0, .aload_n 0, 1, [], []), (1, .iload_n 1, 1, [], []), (2, .invokevirtual 162, 3, [0, 1, 0, 8, 1, 1388], [m_X11_needMember]), (5, .aload_n 0, 1, [], []), (6, .getfield 24, 3, [8, 1, 3, 361], []), (9, .getfield 262, 3, [6, 8, 0, 239], []), (12, .iload_n 1, 1, [], []), (13, .invokestatic 145, 3, [1, 2, 1, 0, 0, 1528], [m_X11_isIn])],
  [(16, .iload_n 2, 1, [], []), (17, .if_icmp .ne 11, 3, [28], []), (20, .new 79, 3, [0, 81, 1321, 1330], []), (28, .aload_n 0, 1, [], []), (29, .getfield 48, 3, [8, 6, 3, 366], [])],
  [(32, .aload_n 0, 1, [], []), (33, .getfield 24, 3, [8, 1, 3, 361], []), (36, .invokevirtual 112, 3, [0, 1, 0, 2, 0, 1448], [m_X4_keep]), (39, .aload_n 0, 1, [], []), (40, .getfield 24, 3, [8, 1, 3, 361], []), (43, .iload_n 1, 1, [], []), (44, .iload_n 2, 1, [], []), (45, .invokevirtual 311, 3, [0, 2, 1, 6, 0, 1529], [m_X8_setHeld])],
  [(48, .ireturn, 1, [1], [])]]
theorem k_X11_hold : CdOk m_X11_hold c_X11_hold := ⟨by decide +kernel, allM_of ⟨o_X11_needMember, ⟨o_X11_isIn, ⟨o_X4_keep, ⟨o_X8_setHeld, trivial⟩⟩⟩⟩⟩
def c_X11_needMeasure : Cd := [
  [(0, .iload_n 0, 1, [], []), (1, .ifCond .lt 10, 3, [11], []), (4, .iload_n 0, 1, [], []), (5, .sipush 999, 3, [], []), (8, .if_icmp .le 11, 3, [19], []), (11, .new 86, 3, [1, 88, 621, 662], [])],
  [(19, .return_, 1, [], [])]]
theorem k_X11_needMeasure : CdOk m_X11_needMeasure c_X11_needMeasure := ⟨by decide +kernel, allM_of trivial⟩
def c_X8_setMeasure : Cd := [
  [(0, .aload_n 0, 1, [], []), (1, .getfield 21, 3, [6, 6, 3, 235], []), (4, .iload_n 1, 1, [], []), (5, .iaload, 1, [], []), (6, .istore_n 3, 1, [], []), (7, .aload_n 0, 1, [], []), (8, .getfield 21, 3, [6, 6, 3, 235], []), (11, .iload_n 1, 1, [], []), (12, .iload_n 2, 1, [], []), (13, .iastore, 1, [], []), (14, .iload_n 3, 1, [], []), (15, .ireturn, 1, [1], [])]]
theorem k_X8_setMeasure : CdOk m_X8_setMeasure c_X8_setMeasure := ⟨by decide +kernel, allM_of trivial⟩
def c_X11_report : Cd := [
  [(0, .aload_n 0, 1, [], []), (1, .iload_n 1, 1, [], []), (2, .invokevirtual 162, 3, [0, 1, 0, 8, 1, 1388], [m_X11_needMember]), (5, .iload_n 2, 1, [], []), (6, .invokestatic 268, 3, [1, 1, 0, 0, 1, 1548], [m_X11_needMeasure]), (9, .aload_n 0, 1, [], []), (10, .getfield 24, 3, [8, 1, 3, 361], []), (13, .iload_n 1, 1, [], []), (14, .invokevirtual 315, 3, [0, 1, 1, 6, 0, 1551], [m_X8_isUp])],
  [(17, .ifCond .ne 11, 3, [28], []), (20, .new 79, 3, [0, 81, 1321, 1330], []), (28, .aload_n 0, 1, [], []), (29, .getfield 48, 3, [8, 6, 3, 366], [])],
  [(32, .aload_n 0, 1, [], []), (33, .getfield 24, 3, [8, 1, 3, 361], []), (36, .invokevirtual 112, 3, [0, 1, 0, 2, 0, 1448], [m_X4_keep]), (39, .aload_n 0, 1, [], []), (40, .getfield 24, 3, [8, 1, 3, 361], []), (43, .iload_n 1, 1, [], []), (44, .iload_n 2, 1, [], []), (45, .invokevirtual 318, 3, [0, 2, 1, 6, 0, 1552], [m_X8_setMeasure])],
  [(48, .ireturn, 1, [1], [])]]
theorem k_X11_report : CdOk m_X11_report c_X11_report := ⟨by decide +kernel, allM_of ⟨o_X11_needMember, ⟨o_X11_needMeasure, ⟨o_X8_isUp, ⟨o_X4_keep, ⟨o_X8_setMeasure, trivial⟩⟩⟩⟩⟩⟩
def c_X11_change : Cd := [
  [(0, .aload_n 0, 1, [], []), (1, .iload_n 1, 1, [], []), (2, .invokevirtual 162, 3, [0, 1, 0, 8, 1, 1388], [m_X11_needMember]), (5, .aload_n 0, 1, [], []), (6, .iload_n 2, 1, [], []), (7, .invokevirtual 139, 3, [0, 1, 0, 8, 1, 1436], [m_X11_needVersion]), (10, .aload_n 0, 1, [], []), (11, .getfield 24, 3, [8, 1, 3, 361], []), (14, .iload_n 1, 1, [], []), (15, .iload_n 2, 1, [], [])],
  [(16, .invokevirtual 196, 3, [0, 2, 1, 6, 0, 1573], [m_X8_whyNotBegin]), (19, .ifCond .eq 11, 3, [30], []), (22, .new 79, 3, [0, 81, 1321, 1330], []), (30, .aload_n 0, 1, [], []), (31, .getfield 48, 3, [8, 6, 3, 366], [])],
  [(34, .aload_n 0, 1, [], []), (35, .getfield 24, 3, [8, 1, 3, 361], []), (38, .invokevirtual 112, 3, [0, 1, 0, 2, 0, 1448], [m_X4_keep]), (41, .aload_n 0, 1, [], []), (42, .getfield 24, 3, [8, 1, 3, 361], []), (45, .iload_n 1, 1, [], []), (46, .iload_n 2, 1, [], []), (47, .invokevirtual 321, 3, [0, 2, 1, 6, 0, 1593], [m_X8_beginChange])],
  [(50, .ireturn, 1, [1], [])]]
theorem k_X11_change : CdOk m_X11_change c_X11_change := ⟨by decide +kernel, allM_of ⟨o_X11_needMember, ⟨o_X11_needVersion, ⟨o_X8_whyNotBegin, ⟨o_X4_keep, ⟨o_X8_beginChange, trivial⟩⟩⟩⟩⟩⟩
def c_X8_setFormat : Cd := [
  [(0, .aload_n 0, 1, [], []), (1, .getfield 42, 3, [6, 2, 0, 228], []), (4, .istore_n 2, 1, [], []), (5, .aload_n 0, 1, [], []), (6, .iload_n 1, 1, [], []), (7, .putfield 42, 3, [6, 2, 0, 228], []), (10, .aload_n 0, 1, [], []), (11, .getfield 27, 3, [6, 15, 3, 247], []), (14, .aload_n 0, 1, [], []), (15, .getfield 38, 3, [6, 1, 0, 226], [])],
  [(18, .bipush 7, 2, [], []), (20, .iconst (-1), 1, [], []), (21, .iload_n 1, 1, [], []), (22, .invokevirtual 171, 3, [0, 4, 0, 1, 0, 1472], [m_X3_add]), (25, .iload_n 2, 1, [], []), (26, .ireturn, 1, [1], [])]]
theorem k_X8_setFormat : CdOk m_X8_setFormat c_X8_setFormat := ⟨by decide +kernel, allM_of ⟨o_X3_add, trivial⟩⟩
def c_X11_commit : Cd := [
  [(0, .iload_n 1, 1, [], []), (1, .invokestatic 149, 3, [1, 1, 0, 0, 1, 1605], [m_X11_needFormat]), (4, .aload_n 0, 1, [], []), (5, .getfield 24, 3, [8, 1, 3, 361], []), (8, .iload_n 1, 1, [], []), (9, .invokevirtual 240, 3, [0, 1, 1, 6, 0, 1608], [m_X8_whyNotFormat]), (12, .ifCond .eq 11, 3, [23], []), (15, .new 79, 3, [0, 81, 1321, 1330], [])],
  [(23, .aload_n 0, 1, [], []), (24, .getfield 48, 3, [8, 6, 3, 366], []), (27, .aload_n 0, 1, [], []), (28, .getfield 24, 3, [8, 1, 3, 361], []), (31, .invokevirtual 112, 3, [0, 1, 0, 2, 0, 1448], [m_X4_keep])],
  [(34, .aload_n 0, 1, [], []), (35, .getfield 24, 3, [8, 1, 3, 361], []), (38, .iload_n 1, 1, [], []), (39, .invokevirtual 324, 3, [0, 1, 1, 6, 0, 1625], [m_X8_setFormat]), (42, .ireturn, 1, [1], [])]]
theorem k_X11_commit : CdOk m_X11_commit c_X11_commit := ⟨by decide +kernel, allM_of ⟨o_X11_needFormat, ⟨o_X8_whyNotFormat, ⟨o_X4_keep, ⟨o_X8_setFormat, trivial⟩⟩⟩⟩⟩
def c_X4_takeBack : Cd := [
  [(0, .aload_n 0, 1, [], []), (1, .getfield 11, 3, [2, 0, 3, 291], []), (4, .aload_n 0, 1, [], []), (5, .getfield 21, 3, [2, 2, 0, 294], []), (8, .aaload, 1, [4], []), (9, .astore_n 2, 1, [], []), (10, .aload_n 2, 1, [], []), (11, .ifnull 40, 3, [51], []), (14, .aload_n 0, 1, [], []), (15, .getfield 17, 3, [2, 1, 0, 292], [])],
  [(18, .ifCond .le 33, 3, [51], []), (21, .aload_n 1, 1, [], []), (22, .aload_n 2, 1, [], []), (23, .invokevirtual 27, 3, [0, 1, 0, 6, 0, 1452], [m_X8_copyFrom]), (26, .aload_n 0, 1, [], []), (27, .aload_n 0, 1, [], []), (28, .getfield 21, 3, [2, 2, 0, 294], []), (31, .iconst 1, 1, [], [])],
  [(32, .isub, 1, [], []), (33, .bipush 6, 2, [], []), (35, .invokestatic 37, 3, [13, 1772], []), (38, .putfield 21, 3, [2, 2, 0, 294], []), (41, .aload_n 0, 1, [], []), (42, .dup, 1, [], []), (43, .getfield 17, 3, [2, 1, 0, 292], []), (46, .iconst 1, 1, [], []), (47, .isub, 1, [], [])],
  [(48, .putfield 17, 3, [2, 1, 0, 292], []), (51, .return_, 1, [], [])]]
theorem k_X4_takeBack : CdOk m_X4_takeBack c_X4_takeBack := ⟨by decide +kernel, allM_of ⟨o_X8_copyFrom, trivial⟩⟩
def c_X11_undo : Cd := [
  [(0, .aload_n 0, 1, [], []), (1, .getfield 48, 3, [8, 6, 3, 366], []), (4, .getfield 344, 3, [2, 1, 0, 293], []), (7, .ifCond .ne 5, 3, [12], []), (10, .iconst (-1), 1, [], []), (11, .ireturn, 1, [1], []), (12, .aload_n 0, 1, [], []), (13, .getfield 48, 3, [8, 6, 3, 366], [])],
  [(16, .aload_n 0, 1, [], []), (17, .getfield 24, 3, [8, 1, 3, 361], []), (20, .invokevirtual 345, 3, [0, 1, 0, 2, 0, 1768], [m_X4_takeBack]), (23, .aload_n 0, 1, [], []), (24, .getfield 48, 3, [8, 6, 3, 366], []), (27, .getfield 344, 3, [2, 1, 0, 293], []), (30, .ireturn, 1, [1], [])]]
theorem k_X11_undo : CdOk m_X11_undo c_X11_undo := ⟨by decide +kernel, allM_of ⟨o_X4_takeBack, trivial⟩⟩
