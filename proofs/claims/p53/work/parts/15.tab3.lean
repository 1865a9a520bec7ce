/-! ===== tables of the methods' code, 3 ===== -/
def m_X11_needMember : MI := (yX11_needMember, cX11_needMember, 2, none, 6, 89, 1, [], 0)
def m_X8_isUp : MI := (yX8_isUp, cX8_isUp, 2, some .boolean, 0, 0, 0, [], 0)
def m_X5_waveOf : MI := (yX5_waveOf, cX5_waveOf, 3, some .int, 0, 0, 0, [], 0)
def m_X8_numberOfMember : MI := (yX8_numberOfMember, cX8_numberOfMember, 3, some .int, 1, 22, 0, [], 0)
def m_X11_member : MI := (yX11_member, cX11_member, 3, some .int, 7, 110, 2, [], 0)
def m_X11_partners : MI := (yX11_partners, cX11_partners, 2, some .int, 7, 110, 1, [], 0)
def m_X11_down : MI := (yX11_down, cX11_down, 2, some .int, 6, 89, 1, [], 0)
def m_X5_everyMember : MI := (yX5_everyMember, cX5_everyMember, 1, some .int, 0, 0, 0, [], 0)
def m_X8_highestComing : MI := (yX8_highestComing, cX8_highestComing, 4, some .int, 1, 60, 0, [], 0)
def m_X8_lowestComing : MI := (yX8_lowestComing, cX8_lowestComing, 4, some .int, 1, 60, 0, [], 0)
def m_X11_skewNow : MI := (yX11_skewNow, cX11_skewNow, 2, some .int, 2, 83, 0, [], 0)
def m_X5_neighboursOf : MI := (yX5_neighboursOf, cX5_neighboursOf, 3, some .int, 0, 0, 0, [], 0)
def m_J6_bitCount_0f7a4 : MI := (yJ6_bitCount_0f7a4, cJ6_bitCount_0f7a4, 1, some .int, 0, 0, 0, [], 1)
def m_X8_opponents : MI := (yX8_opponents, cX8_opponents, 6, some .int, 1, 21, 0, [], 0)
def m_X8_whyNotBegin : MI := (yX8_whyNotBegin, cX8_whyNotBegin, 5, some .int, 2, 60, 0, [], 0)
def m_X11_reason : MI := (yX11_reason, cX11_reason, 3, some .int, 7, 110, 2, [], 0)
def m_X11_open : MI := (yX11_open, cX11_open, 4, some .int, 7, 110, 1, [], 0)
def m_X8_isUnderWay : MI := (yX8_isUnderWay, cX8_isUnderWay, 1, some .boolean, 0, 0, 0, [], 0)
def m_X8_numberOfPlan : MI := (yX8_numberOfPlan, cX8_numberOfPlan, 2, some .int, 1, 20, 0, [], 0)
def m_X11_plan : MI := (yX11_plan, cX11_plan, 2, some .int, 6, 89, 1, [], 0)
def m_X8_isReadByAll : MI := (yX8_isReadByAll, cX8_isReadByAll, 4, some .boolean, 2, 45, 0, [], 0)
def m_X8_whyNotFormat : MI := (yX8_whyNotFormat, cX8_whyNotFormat, 2, some .int, 3, 68, 0, [], 0)
def m_X11_whyNotCommit : MI := (yX11_whyNotCommit, cX11_whyNotCommit, 2, some .int, 7, 109, 1, [], 0)
def m_X8_lowestWayBack : MI := (yX8_lowestWayBack, cX8_lowestWayBack, 2, some .int, 2, 83, 0, [], 0)
def m_X11_wayBack : MI := (yX11_wayBack, cX11_wayBack, 1, some .int, 3, 104, 0, [], 0)
def m_X11_needAhead : MI := (yX11_needAhead, cX11_needAhead, 1, none, 6, 89, 1, [], 1)
def m_X8_isActive : MI := (yX8_isActive, cX8_isActive, 1, some .boolean, 0, 0, 0, [], 0)
def m_X3_add : MI := (yX3_add, cX3_add, 6, none, 1, 60, 0, [], 0)
def m_X8_endChanges : MI := (yX8_endChanges, cX8_endChanges, 2, none, 2, 85, 0, [], 0)
def m_X5_plannedMembers : MI := (yX5_plannedMembers, cX5_plannedMembers, 3, some .int, 0, 0, 0, [], 0)
def m_X8_reachedOf : MI := (yX8_reachedOf, cX8_reachedOf, 4, some .int, 0, 0, 0, [], 0)
def m_X8_measuredSet : MI := (yX8_measuredSet, cX8_measuredSet, 1, some .int, 1, 23, 0, [], 0)
def m_X8_sumOfMeasures : MI := (yX8_sumOfMeasures, cX8_sumOfMeasures, 4, some .int, 1, 21, 0, [], 0)
def m_X8_isOverLimit : MI := (yX8_isOverLimit, cX8_isOverLimit, 2, some .boolean, 2, 44, 0, [], 0)
def m_X8_stopPlan : MI := (yX8_stopPlan, cX8_stopPlan, 1, some .int, 2, 85, 0, [], 0)
theorem o_X11_needMember : MOK m_X11_needMember := MOKi (tbG_at (p := 1391) (by decide +kernel)) (tbG_at (p := 20) (by decide +kernel)) (by decide +kernel) rfl rfl (tbG_at (p := 1390) (by decide +kernel)) (tbG_atS (p := 23) (by decide +kernel))
theorem o_X8_isUp : MOK m_X8_isUp := MOKi (tbG_at (p := 1414) (by decide +kernel)) (tbG_at (p := 22) (by decide +kernel)) (by decide +kernel) rfl rfl (tbG_at (p := 1412) (by decide +kernel)) (tbG_at (p := 1413) (by decide +kernel))
theorem o_X5_waveOf : MOK m_X5_waveOf := MOKi (tbG_at (p := 1418) (by decide +kernel)) (tbG_at (p := 23) (by decide +kernel)) (by decide +kernel) rfl rfl (tbG_at (p := 1416) (by decide +kernel)) (tbG_at (p := 1417) (by decide +kernel))
theorem o_X8_numberOfMember : MOK m_X8_numberOfMember := MOKi (tbG_at (p := 1410) (by decide +kernel)) (tbG_at (p := 22) (by decide +kernel)) (by decide +kernel) rfl rfl (tbG_at (p := 1408) (by decide +kernel)) (tbG_at (p := 1409) (by decide +kernel))
theorem o_X11_member : MOK m_X11_member := MOKi (tbG_at (p := 1387) (by decide +kernel)) (tbG_at (p := 20) (by decide +kernel)) (by decide +kernel) rfl rfl (tbG_at (p := 1385) (by decide +kernel)) (tbG_at (p := 1386) (by decide +kernel))
theorem o_X11_partners : MOK m_X11_partners := MOKi (tbG_at (p := 1726) (by decide +kernel)) (tbG_at (p := 20) (by decide +kernel)) (by decide +kernel) rfl rfl (tbG_at (p := 1724) (by decide +kernel)) (tbG_at (p := 1725) (by decide +kernel))
theorem o_X11_down : MOK m_X11_down := MOKi (tbG_at (p := 1735) (by decide +kernel)) (tbG_at (p := 20) (by decide +kernel)) (by decide +kernel) rfl rfl (tbG_at (p := 1733) (by decide +kernel)) (tbG_at (p := 1734) (by decide +kernel))
theorem o_X5_everyMember : MOK m_X5_everyMember := MOKi (tbG_at (p := 1715) (by decide +kernel)) (tbG_at (p := 23) (by decide +kernel)) (by decide +kernel) rfl rfl (tbG_at (p := 1713) (by decide +kernel)) (tbG_at (p := 1714) (by decide +kernel))
theorem o_X8_highestComing : MOK m_X8_highestComing := MOKi (tbG_at (p := 1470) (by decide +kernel)) (tbG_at (p := 22) (by decide +kernel)) (by decide +kernel) rfl rfl (tbG_at (p := 1468) (by decide +kernel)) (tbG_at (p := 1469) (by decide +kernel))
theorem o_X8_lowestComing : MOK m_X8_lowestComing := MOKi (tbG_at (p := 1465) (by decide +kernel)) (tbG_at (p := 22) (by decide +kernel)) (by decide +kernel) rfl rfl (tbG_at (p := 1463) (by decide +kernel)) (tbG_at (p := 1464) (by decide +kernel))
theorem o_X11_skewNow : MOK m_X11_skewNow := MOKi (tbG_at (p := 1711) (by decide +kernel)) (tbG_at (p := 20) (by decide +kernel)) (by decide +kernel) rfl rfl (tbG_at (p := 1709) (by decide +kernel)) (tbG_at (p := 1710) (by decide +kernel))
theorem o_X5_neighboursOf : MOK m_X5_neighboursOf := MOKi (tbG_at (p := 1580) (by decide +kernel)) (tbG_at (p := 23) (by decide +kernel)) (by decide +kernel) rfl rfl (tbG_at (p := 1578) (by decide +kernel)) (tbG_at (p := 1579) (by decide +kernel))
theorem o_J6_bitCount_0f7a4 : MOK m_J6_bitCount_0f7a4 := MOKs (tbG_at (p := 1535) (by decide +kernel)) (tbG_at (p := 16) (by decide +kernel)) (by decide +kernel) rfl rfl (tbG_at (p := 1534) (by decide +kernel))
theorem o_X8_opponents : MOK m_X8_opponents := MOKi (tbG_at (p := 1584) (by decide +kernel)) (tbG_at (p := 22) (by decide +kernel)) (by decide +kernel) rfl rfl (tbG_at (p := 1582) (by decide +kernel)) (tbG_at (p := 1583) (by decide +kernel))
theorem o_X8_whyNotBegin : MOK m_X8_whyNotBegin := MOKi (tbG_at (p := 1576) (by decide +kernel)) (tbG_at (p := 22) (by decide +kernel)) (by decide +kernel) rfl rfl (tbG_at (p := 1574) (by decide +kernel)) (tbG_at (p := 1575) (by decide +kernel))
theorem o_X11_reason : MOK m_X11_reason := MOKi (tbG_at (p := 1572) (by decide +kernel)) (tbG_at (p := 20) (by decide +kernel)) (by decide +kernel) rfl rfl (tbG_at (p := 1570) (by decide +kernel)) (tbG_at (p := 1571) (by decide +kernel))
theorem o_X11_open : MOK m_X11_open := MOKi (tbG_at (p := 1752) (by decide +kernel)) (tbG_at (p := 20) (by decide +kernel)) (by decide +kernel) rfl rfl (tbG_at (p := 1750) (by decide +kernel)) (tbG_at (p := 1751) (by decide +kernel))
theorem o_X8_isUnderWay : MOK m_X8_isUnderWay := MOKi (tbG_at (p := 1370) (by decide +kernel)) (tbG_at (p := 22) (by decide +kernel)) (by decide +kernel) rfl rfl (tbG_at (p := 1368) (by decide +kernel)) (tbG_at (p := 1369) (by decide +kernel))
theorem o_X8_numberOfPlan : MOK m_X8_numberOfPlan := MOKi (tbG_at (p := 1366) (by decide +kernel)) (tbG_at (p := 22) (by decide +kernel)) (by decide +kernel) rfl rfl (tbG_at (p := 1364) (by decide +kernel)) (tbG_at (p := 1365) (by decide +kernel))
theorem o_X11_plan : MOK m_X11_plan := MOKi (tbG_at (p := 1362) (by decide +kernel)) (tbG_at (p := 20) (by decide +kernel)) (by decide +kernel) rfl rfl (tbG_at (p := 1360) (by decide +kernel)) (tbG_at (p := 1361) (by decide +kernel))
theorem o_X8_isReadByAll : MOK m_X8_isReadByAll := MOKi (tbG_at (p := 1615) (by decide +kernel)) (tbG_at (p := 22) (by decide +kernel)) (by decide +kernel) rfl rfl (tbG_at (p := 1613) (by decide +kernel)) (tbG_at (p := 1614) (by decide +kernel))
theorem o_X8_whyNotFormat : MOK m_X8_whyNotFormat := MOKi (tbG_at (p := 1611) (by decide +kernel)) (tbG_at (p := 22) (by decide +kernel)) (by decide +kernel) rfl rfl (tbG_at (p := 1609) (by decide +kernel)) (tbG_at (p := 1610) (by decide +kernel))
theorem o_X11_whyNotCommit : MOK m_X11_whyNotCommit := MOKi (tbG_at (p := 1604) (by decide +kernel)) (tbG_at (p := 20) (by decide +kernel)) (by decide +kernel) rfl rfl (tbG_at (p := 1602) (by decide +kernel)) (tbG_at (p := 1603) (by decide +kernel))
theorem o_X8_lowestWayBack : MOK m_X8_lowestWayBack := MOKi (tbG_at (p := 1744) (by decide +kernel)) (tbG_at (p := 22) (by decide +kernel)) (by decide +kernel) rfl rfl (tbG_at (p := 1742) (by decide +kernel)) (tbG_at (p := 1743) (by decide +kernel))
theorem o_X11_wayBack : MOK m_X11_wayBack := MOKi (tbG_at (p := 1740) (by decide +kernel)) (tbG_at (p := 20) (by decide +kernel)) (by decide +kernel) rfl rfl (tbG_at (p := 1738) (by decide +kernel)) (tbG_at (p := 1739) (by decide +kernel))
theorem o_X11_needAhead : MOK m_X11_needAhead := MOKs (tbG_at (p := 1782) (by decide +kernel)) (tbG_at (p := 20) (by decide +kernel)) (by decide +kernel) rfl rfl (tbG_at (p := 1781) (by decide +kernel))
theorem o_X8_isActive : MOK m_X8_isActive := MOKi (tbG_at (p := 1447) (by decide +kernel)) (tbG_at (p := 22) (by decide +kernel)) (by decide +kernel) rfl rfl (tbG_at (p := 1445) (by decide +kernel)) (tbG_at (p := 1446) (by decide +kernel))
theorem o_X3_add : MOK m_X3_add := MOKi (tbG_at (p := 1475) (by decide +kernel)) (tbG_at (p := 25) (by decide +kernel)) (by decide +kernel) rfl rfl (tbG_at (p := 1473) (by decide +kernel)) (tbG_at (p := 1474) (by decide +kernel))
theorem o_X8_endChanges : MOK m_X8_endChanges := MOKi (tbG_at (p := 1669) (by decide +kernel)) (tbG_at (p := 22) (by decide +kernel)) (by decide +kernel) rfl rfl (tbG_at (p := 1668) (by decide +kernel)) (tbG_atS (p := 27) (by decide +kernel))
theorem o_X5_plannedMembers : MOK m_X5_plannedMembers := MOKi (tbG_at (p := 1461) (by decide +kernel)) (tbG_at (p := 23) (by decide +kernel)) (by decide +kernel) rfl rfl (tbG_at (p := 1459) (by decide +kernel)) (tbG_at (p := 1460) (by decide +kernel))
theorem o_X8_reachedOf : MOK m_X8_reachedOf := MOKi (tbG_at (p := 1681) (by decide +kernel)) (tbG_at (p := 22) (by decide +kernel)) (by decide +kernel) rfl rfl (tbG_at (p := 1680) (by decide +kernel)) (tbG_atS (p := 29) (by decide +kernel))
theorem o_X8_measuredSet : MOK m_X8_measuredSet := MOKi (tbG_at (p := 1677) (by decide +kernel)) (tbG_at (p := 22) (by decide +kernel)) (by decide +kernel) rfl rfl (tbG_at (p := 1675) (by decide +kernel)) (tbG_at (p := 1676) (by decide +kernel))
theorem o_X8_sumOfMeasures : MOK m_X8_sumOfMeasures := MOKi (tbG_at (p := 1685) (by decide +kernel)) (tbG_at (p := 22) (by decide +kernel)) (by decide +kernel) rfl rfl (tbG_at (p := 1683) (by decide +kernel)) (tbG_at (p := 1684) (by decide +kernel))
theorem o_X8_isOverLimit : MOK m_X8_isOverLimit := MOKi (tbG_at (p := 1673) (by decide +kernel)) (tbG_at (p := 22) (by decide +kernel)) (by decide +kernel) rfl rfl (tbG_at (p := 1672) (by decide +kernel)) (tbG_atS (p := 28) (by decide +kernel))
theorem o_X8_stopPlan : MOK m_X8_stopPlan := MOKi (tbG_at (p := 1511) (by decide +kernel)) (tbG_at (p := 22) (by decide +kernel)) (by decide +kernel) rfl rfl (tbG_at (p := 1509) (by decide +kernel)) (tbG_at (p := 1510) (by decide +kernel))
def c_X11_needMember : Cd := [
  [(0, .iload_n 1, 1, [], []), (1, .ifCond .lt 20, 3, [21], []), (4, .iload_n 1, 1, [], []), (5, .aload_n 0, 1, [], []), (6, .getfield 24, 3, [8, 1, 3, 361], []), (9, .getfield 28, 3, [6, 0, 3, 224], []), (12, .getfield 100, 3, [3, 8, 3, 129], []), (15, .getfield 104, 3, [4, 1, 0, 100], [])],
  [(18, .if_icmp .lt 11, 3, [29], []), (21, .new 178, 3, [2, 180, 1392, 1401], []), (29, .return_, 1, [], [])]]
theorem k_X11_needMember : CdOk m_X11_needMember c_X11_needMember := ⟨by decide +kernel, allM_of trivial⟩
def c_X8_isUp : Cd := [
  [(0, .aload_n 0, 1, [], []), (1, .getfield 18, 3, [6, 5, 3, 234], []), (4, .iload_n 1, 1, [], []), (5, .iaload, 1, [], []), (6, .iconst (-1), 1, [], []), (7, .if_icmp .ne 7, 3, [14], []), (10, .iconst 1, 1, [], []), (11, .goto 4, 3, [15], []), (14, .iconst 0, 1, [], []), (15, .ireturn, 1, [6], [])]]
theorem k_X8_isUp : CdOk m_X8_isUp c_X8_isUp := ⟨by decide +kernel, allM_of trivial⟩
def c_X5_waveOf : Cd := [
  [(0, .aload_n 0, 1, [], []), (1, .getfield 45, 3, [3, 9, 3, 132], []), (4, .iload_n 1, 1, [], []), (5, .iaload, 1, [], []), (6, .istore_n 2, 1, [], []), (7, .iload_n 2, 1, [], []), (8, .ifCond .lt 23, 3, [31], []), (11, .iload_n 2, 1, [], []), (12, .aload_n 0, 1, [], []), (13, .getfield 30, 3, [3, 4, 3, 119], [])],
  [(16, .getfield 54, 3, [4, 1, 0, 99], []), (19, .if_icmp .ge 12, 3, [31], []), (22, .aload_n 0, 1, [], []), (23, .getfield 33, 3, [3, 5, 3, 122], []), (26, .iload_n 2, 1, [], []), (27, .iaload, 1, [], []), (28, .goto 4, 3, [32], []), (31, .iconst (-1), 1, [], [])],
  [(32, .ireturn, 1, [1], [])]]
theorem k_X5_waveOf : CdOk m_X5_waveOf c_X5_waveOf := ⟨by decide +kernel, allM_of trivial⟩
def c_X8_numberOfMember : Cd := [
  [(0, .iload_n 2, 1, [], []), (1, .tableswitch 119 0 6 #[43, 53, 60, 79, 86, 93, 110], 43, [120, 0, 44, 54, 61, 80, 87, 94, 111], [])],
  [],
  [(44, .aload_n 0, 1, [], []), (45, .getfield 31, 3, [6, 0, 3, 225], [])],
  [(48, .getfield 116, 3, [3, 9, 3, 133], []), (51, .iload_n 1, 1, [], []), (52, .iaload, 1, [], []), (53, .ireturn, 1, [1], []), (54, .aload_n 0, 1, [], []), (55, .getfield 9, 3, [6, 3, 3, 231], []), (58, .iload_n 1, 1, [], []), (59, .iaload, 1, [], []), (60, .ireturn, 1, [1], []), (61, .aload_n 0, 1, [], []), (62, .iload_n 1, 1, [], []), (63, .invokevirtual 135, 3, [0, 1, 1, 6, 0, 1411], [m_X8_isUp])],
  [(66, .ifCond .eq 7, 3, [73], []), (69, .iconst (-1), 1, [], []), (70, .goto 9, 3, [79], []), (73, .aload_n 0, 1, [], []), (74, .getfield 15, 3, [6, 4, 3, 233], []), (77, .iload_n 1, 1, [], []), (78, .iaload, 1, [], []), (79, .ireturn, 1, [1], [])],
  [(80, .aload_n 0, 1, [], []), (81, .getfield 18, 3, [6, 5, 3, 234], []), (84, .iload_n 1, 1, [], []), (85, .iaload, 1, [], []), (86, .ireturn, 1, [1], []), (87, .aload_n 0, 1, [], []), (88, .getfield 21, 3, [6, 6, 3, 235], []), (91, .iload_n 1, 1, [], []), (92, .iaload, 1, [], []), (93, .ireturn, 1, [1], []), (94, .aload_n 0, 1, [], []), (95, .getfield 48, 3, [6, 8, 0, 238], [])],
  [(98, .iload_n 1, 1, [], []), (99, .invokestatic 119, 3, [2, 2, 1, 0, 0, 0], [m_X11_isIn]), (102, .ifCond .eq 7, 3, [109], []), (105, .iconst 1, 1, [], []), (106, .goto 4, 3, [110], []), (109, .iconst 0, 1, [], []), (110, .ireturn, 1, [1], []), (111, .aload_n 0, 1, [], [])],
  [(112, .getfield 31, 3, [6, 0, 3, 225], []), (115, .iload_n 1, 1, [], []), (116, .invokevirtual 139, 3, [0, 1, 1, 3, 0, 1415], [m_X5_waveOf]), (119, .ireturn, 1, [1], []), (120, .iconst (-1), 1, [], []), (121, .ireturn, 1, [1], [])]]
theorem k_X8_numberOfMember : CdOk m_X8_numberOfMember c_X8_numberOfMember := ⟨by decide +kernel, allM_of ⟨o_X8_isUp, ⟨o_X11_isIn, ⟨o_X5_waveOf, trivial⟩⟩⟩⟩
def c_X11_member : Cd := [
  [(0, .aload_n 0, 1, [], []), (1, .iload_n 1, 1, [], []), (2, .invokevirtual 162, 3, [0, 1, 0, 8, 1, 1388], [m_X11_needMember]), (5, .iload_n 2, 1, [], []), (6, .ifCond .lt 9, 3, [15], []), (9, .iload_n 2, 1, [], []), (10, .bipush 6, 2, [], []), (12, .if_icmp .le 11, 3, [23], []), (15, .new 86, 3, [1, 88, 621, 662], [])],
  [(23, .aload_n 0, 1, [], []), (24, .getfield 24, 3, [8, 1, 3, 361], []), (27, .iload_n 1, 1, [], []), (28, .iload_n 2, 1, [], []), (29, .invokevirtual 165, 3, [0, 2, 1, 6, 0, 1407], [m_X8_numberOfMember])],
  [(32, .ireturn, 1, [1], [])]]
theorem k_X11_member : CdOk m_X11_member c_X11_member := ⟨by decide +kernel, allM_of ⟨o_X11_needMember, ⟨o_X8_numberOfMember, trivial⟩⟩⟩
def c_X11_partners : Cd := [
  [(0, .aload_n 0, 1, [], []), (1, .iload_n 1, 1, [], []), (2, .invokevirtual 162, 3, [0, 1, 0, 8, 1, 1388], [m_X11_needMember]), (5, .aload_n 0, 1, [], []), (6, .getfield 24, 3, [8, 1, 3, 361], []), (9, .getfield 28, 3, [6, 0, 3, 224], []), (12, .getfield 168, 3, [3, 10, 3, 137], []), (15, .iload_n 1, 1, [], [])],
  [(16, .iaload, 1, [], []), (17, .ireturn, 1, [1], [])]]
theorem k_X11_partners : CdOk m_X11_partners c_X11_partners := ⟨by decide +kernel, allM_of ⟨o_X11_needMember, trivial⟩⟩
def c_X11_down : Cd := [
  [(0, .iload_n 1, 1, [], []), (1, .ifCond .lt 20, 3, [21], []), (4, .iload_n 1, 1, [], []), (5, .aload_n 0, 1, [], []), (6, .getfield 24, 3, [8, 1, 3, 361], []), (9, .getfield 28, 3, [6, 0, 3, 224], []), (12, .getfield 175, 3, [3, 4, 3, 121], []), (15, .getfield 104, 3, [4, 1, 0, 100], [])],
  [(18, .if_icmp .lt 11, 3, [29], []), (21, .new 178, 3, [2, 180, 1392, 1401], []), (29, .aload_n 0, 1, [], []), (30, .getfield 24, 3, [8, 1, 3, 361], [])],
  [(33, .getfield 28, 3, [6, 0, 3, 224], []), (36, .getfield 181, 3, [3, 6, 3, 125], []), (39, .iload_n 1, 1, [], []), (40, .iaload, 1, [], []), (41, .aload_n 0, 1, [], []), (42, .getfield 24, 3, [8, 1, 3, 361], []), (45, .getfield 184, 3, [6, 7, 0, 237], [])],
  [(48, .iand, 1, [], []), (49, .ireturn, 1, [1], [])]]
theorem k_X11_down : CdOk m_X11_down c_X11_down := ⟨by decide +kernel, allM_of trivial⟩
def c_X5_everyMember : Cd := [
  [(0, .iconst 1, 1, [], []), (1, .aload_n 0, 1, [], []), (2, .getfield 42, 3, [3, 8, 3, 128], []), (5, .getfield 54, 3, [4, 1, 0, 99], []), (8, .ishl, 1, [], []), (9, .iconst 1, 1, [], []), (10, .isub, 1, [], []), (11, .ireturn, 1, [1], [])]]
theorem k_X5_everyMember : CdOk m_X5_everyMember c_X5_everyMember := ⟨by decide +kernel, allM_of trivial⟩
def c_X8_highestComing : Cd := [
  [(0, .iconst (-1), 1, [], []), (1, .istore_n 2, 1, [], []), (2, .iconst 0, 1, [], []), (3, .istore_n 3, 1, [], []), (4, .iload_n 3, 1, [], []), (5, .aload_n 0, 1, [], []), (6, .getfield 31, 3, [6, 0, 3, 225], []), (9, .getfield 89, 3, [3, 8, 3, 131], []), (12, .getfield 93, 3, [4, 1, 0, 102], []), (15, .if_icmp .ge 28, 3, [43], [])],
  [(18, .iload_n 1, 1, [], []), (19, .iload_n 3, 1, [], []), (20, .invokestatic 119, 3, [2, 2, 1, 0, 0, 0], [m_X11_isIn]), (23, .ifCond .eq 14, 3, [37], []), (26, .iload_n 2, 1, [], []), (27, .aload_n 0, 1, [], []), (28, .getfield 15, 3, [6, 4, 3, 233], []), (31, .iload_n 3, 1, [], [])],
  [(32, .iaload, 1, [], []), (33, .invokestatic 145, 3, [11, 1471], []), (36, .istore_n 2, 1, [], []), (37, .iinc 3 1, 3, [], []), (40, .goto (-36), 3, [4], []), (43, .iload_n 2, 1, [], []), (44, .ireturn, 1, [1], [])]]
theorem k_X8_highestComing : CdOk m_X8_highestComing c_X8_highestComing := ⟨by decide +kernel, allM_of ⟨o_X11_isIn, trivial⟩⟩
def c_X8_lowestComing : Cd := [
  [(0, .bipush 8, 2, [], []), (2, .istore_n 2, 1, [], []), (3, .iconst 0, 1, [], []), (4, .istore_n 3, 1, [], []), (5, .iload_n 3, 1, [], []), (6, .aload_n 0, 1, [], []), (7, .getfield 31, 3, [6, 0, 3, 225], []), (10, .getfield 89, 3, [3, 8, 3, 131], []), (13, .getfield 93, 3, [4, 1, 0, 102], [])],
  [(16, .if_icmp .ge 28, 3, [44], []), (19, .iload_n 1, 1, [], []), (20, .iload_n 3, 1, [], []), (21, .invokestatic 119, 3, [2, 2, 1, 0, 0, 0], [m_X11_isIn]), (24, .ifCond .eq 14, 3, [38], []), (27, .iload_n 2, 1, [], []), (28, .aload_n 0, 1, [], []), (29, .getfield 15, 3, [6, 4, 3, 233], [])],
  [(32, .iload_n 3, 1, [], []), (33, .iaload, 1, [], []), (34, .invokestatic 142, 3, [10, 1466], []), (37, .istore_n 2, 1, [], []), (38, .iinc 3 1, 3, [], []), (41, .goto (-36), 3, [5], []), (44, .iload_n 2, 1, [], []), (45, .ireturn, 1, [1], [])]]
theorem k_X8_lowestComing : CdOk m_X8_lowestComing c_X8_lowestComing := ⟨by decide +kernel, allM_of ⟨o_X11_isIn, trivial⟩⟩
def c_X11_skewNow : Cd := [
  [(0, .aload_n 0, 1, [], []), (1, .getfield 24, 3, [8, 1, 3, 361], []), (4, .getfield 28, 3, [6, 0, 3, 224], []), (7, .invokevirtual 187, 3, [0, 0, 1, 3, 0, 1712], [m_X5_everyMember]), (10, .istore_n 1, 1, [], []), (11, .iload_n 1, 1, [], []), (12, .ifCond .ne 7, 3, [19], []), (15, .iconst 0, 1, [], [])],
  [(16, .goto 20, 3, [36], []), (19, .aload_n 0, 1, [], []), (20, .getfield 24, 3, [8, 1, 3, 361], []), (23, .iload_n 1, 1, [], []), (24, .invokevirtual 190, 3, [0, 1, 1, 6, 0, 1716], [m_X8_highestComing]), (27, .aload_n 0, 1, [], []), (28, .getfield 24, 3, [8, 1, 3, 361], []), (31, .iload_n 1, 1, [], [])],
  [(32, .invokevirtual 193, 3, [0, 1, 1, 6, 0, 1717], [m_X8_lowestComing]), (35, .isub, 1, [], []), (36, .ireturn, 1, [1], [])]]
theorem k_X11_skewNow : CdOk m_X11_skewNow c_X11_skewNow := ⟨by decide +kernel, allM_of ⟨o_X5_everyMember, ⟨o_X8_highestComing, ⟨o_X8_lowestComing, trivial⟩⟩⟩⟩
def c_X5_neighboursOf : Cd := [
  [(0, .aload_n 0, 1, [], []), (1, .getfield 45, 3, [3, 9, 3, 132], []), (4, .iload_n 1, 1, [], []), (5, .iaload, 1, [], []), (6, .istore_n 2, 1, [], []), (7, .iload_n 2, 1, [], []), (8, .ifCond .lt 23, 3, [31], []), (11, .iload_n 2, 1, [], []), (12, .aload_n 0, 1, [], []), (13, .getfield 30, 3, [3, 4, 3, 119], [])],
  [(16, .getfield 54, 3, [4, 1, 0, 99], []), (19, .if_icmp .ge 12, 3, [31], []), (22, .aload_n 0, 1, [], []), (23, .getfield 36, 3, [3, 6, 3, 124], []), (26, .iload_n 2, 1, [], []), (27, .iaload, 1, [], []), (28, .goto 4, 3, [32], []), (31, .iconst 0, 1, [], [])],
  [(32, .ireturn, 1, [1], [])]]
theorem k_X5_neighboursOf : CdOk m_X5_neighboursOf c_X5_neighboursOf := ⟨by decide +kernel, allM_of trivial⟩
def c_J6_bitCount_0f7a4 : Cd := [
  [(0, .iload_n 0, 1, [], []), (1, .iload_n 0, 1, [], []), (2, .iconst 1, 1, [], []), (3, .iushr, 1, [], []), (4, .ldc_w 265, 3, [1431655765, 1536], []), (7, .iand, 1, [], []), (8, .isub, 1, [], []), (9, .istore_n 0, 1, [], []), (10, .iload_n 0, 1, [], []), (11, .ldc_w 266, 3, [858993459, 1537], []), (14, .iand, 1, [], []), (15, .iload_n 0, 1, [], [])],
  [(16, .iconst 2, 1, [], []), (17, .iushr, 1, [], []), (18, .ldc_w 266, 3, [858993459, 1537], []), (21, .iand, 1, [], []), (22, .iadd, 1, [], []), (23, .istore_n 0, 1, [], []), (24, .iload_n 0, 1, [], []), (25, .iload_n 0, 1, [], []), (26, .iconst 4, 1, [], []), (27, .iushr, 1, [], []), (28, .iadd, 1, [], []), (29, .ldc_w 267, 3, [252645135, 1538], [])],
  [(32, .iand, 1, [], []), (33, .istore_n 0, 1, [], []), (34, .iload_n 0, 1, [], []), (35, .iload_n 0, 1, [], []), (36, .bipush 8, 2, [], []), (38, .iushr, 1, [], []), (39, .iadd, 1, [], []), (40, .istore_n 0, 1, [], []), (41, .iload_n 0, 1, [], []), (42, .iload_n 0, 1, [], []), (43, .bipush 16, 2, [], []), (45, .iushr, 1, [], []), (46, .iadd, 1, [], []), (47, .istore_n 0, 1, [], [])],
  [(48, .iload_n 0, 1, [], []), (49, .bipush 63, 2, [], []), (51, .iand, 1, [], []), (52, .ireturn, 1, [1], [])]]
theorem k_J6_bitCount_0f7a4 : CdOk m_J6_bitCount_0f7a4 c_J6_bitCount_0f7a4 := ⟨by decide +kernel, allM_of trivial⟩
def c_X8_opponents : Cd := [
  [(0, .aload_n 0, 1, [], []), (1, .getfield 31, 3, [6, 0, 3, 225], []), (4, .iload_n 2, 1, [], []), (5, .invokevirtual 100, 3, [0, 1, 1, 3, 0, 566], [m_X5_talkersOf]), (8, .istore_n 3, 1, [], []), (9, .aload_n 0, 1, [], []), (10, .getfield 31, 3, [6, 0, 3, 225], []), (13, .getfield 162, 3, [3, 10, 3, 138], [])],
  [(16, .iload_n 1, 1, [], []), (17, .iaload, 1, [], []), (18, .istore 4, 2, [], []), (20, .iconst 0, 1, [], []), (21, .istore 5, 2, [], []), (23, .iload 5, 2, [], []), (25, .aload_n 0, 1, [], []), (26, .getfield 31, 3, [6, 0, 3, 225], []), (29, .getfield 89, 3, [3, 8, 3, 131], [])],
  [(32, .getfield 93, 3, [4, 1, 0, 102], []), (35, .if_icmp .ge 34, 3, [69], []), (38, .iload_n 3, 1, [], []), (39, .aload_n 0, 1, [], []), (40, .getfield 15, 3, [6, 4, 3, 233], []), (43, .iload 5, 2, [], []), (45, .iaload, 1, [], []), (46, .invokestatic 119, 3, [2, 2, 1, 0, 0, 0], [m_X11_isIn])],
  [(49, .ifCond .eq 14, 3, [63], []), (52, .iload 4, 2, [], []), (54, .iconst 1, 1, [], []), (55, .iload 5, 2, [], []), (57, .ishl, 1, [], []), (58, .iconst (-1), 1, [], []), (59, .ixor, 1, [], []), (60, .iand, 1, [], []), (61, .istore 4, 2, [], []), (63, .iinc 5 1, 3, [], [])],
  [(66, .goto (-43), 3, [23], []), (69, .iload 4, 2, [], []), (71, .ireturn, 1, [1], [])]]
theorem k_X8_opponents : CdOk m_X8_opponents c_X8_opponents := ⟨by decide +kernel, allM_of ⟨o_X5_talkersOf, ⟨o_X11_isIn, trivial⟩⟩⟩
def c_X8_whyNotBegin : Cd := [
  [(0, .aload_n 0, 1, [], []), (1, .getfield 48, 3, [6, 8, 0, 238], []), (4, .iload_n 1, 1, [], []), (5, .invokestatic 119, 3, [2, 2, 1, 0, 0, 0], [m_X11_isIn]), (8, .ifCond .eq 5, 3, [13], []), (11, .iconst 1, 1, [], []), (12, .ireturn, 1, [1], []), (13, .aload_n 0, 1, [], []), (14, .iload_n 1, 1, [], []), (15, .invokevirtual 135, 3, [0, 1, 1, 6, 0, 1411], [m_X8_isUp])],
  [(18, .ifCond .ne 5, 3, [23], []), (21, .iconst 2, 1, [], []), (22, .ireturn, 1, [1], []), (23, .aload_n 0, 1, [], []), (24, .getfield 9, 3, [6, 3, 3, 231], []), (27, .iload_n 1, 1, [], []), (28, .iaload, 1, [], []), (29, .iload_n 2, 1, [], []), (30, .if_icmp .ne 5, 3, [35], [])],
  [(33, .iconst 3, 1, [], []), (34, .ireturn, 1, [1], []), (35, .aload_n 0, 1, [], []), (36, .getfield 31, 3, [6, 0, 3, 225], []), (39, .iload_n 2, 1, [], []), (40, .aload_n 0, 1, [], []), (41, .getfield 42, 3, [6, 2, 0, 228], []), (44, .invokevirtual 104, 3, [0, 2, 1, 3, 0, 567], [m_X5_isReader]), (47, .ifCond .ne 5, 3, [52], [])],
  [(50, .iconst 4, 1, [], []), (51, .ireturn, 1, [1], []), (52, .aload_n 0, 1, [], []), (53, .getfield 31, 3, [6, 0, 3, 225], []), (56, .iload_n 1, 1, [], []), (57, .invokevirtual 148, 3, [0, 1, 1, 3, 0, 1577], [m_X5_neighboursOf]), (60, .aload_n 0, 1, [], []), (61, .getfield 45, 3, [6, 7, 0, 236], [])],
  [(64, .iand, 1, [], []), (65, .istore_n 3, 1, [], []), (66, .iload_n 3, 1, [], []), (67, .invokestatic 151, 3, [1, 1, 1, 0, 0, 1533], [m_J6_bitCount_0f7a4]), (70, .aload_n 0, 1, [], []), (71, .getfield 31, 3, [6, 0, 3, 225], []), (74, .getfield 156, 3, [3, 14, 0, 149], []), (77, .if_icmp .lt 5, 3, [82], [])],
  [(80, .iconst 5, 1, [], []), (81, .ireturn, 1, [1], []), (82, .iconst 0, 1, [], []), (83, .istore 4, 2, [], []), (85, .iload 4, 2, [], []), (87, .aload_n 0, 1, [], []), (88, .getfield 31, 3, [6, 0, 3, 225], []), (91, .getfield 89, 3, [3, 8, 3, 131], []), (94, .getfield 93, 3, [4, 1, 0, 102], [])],
  [(97, .if_icmp .ge 40, 3, [137], []), (100, .iload 4, 2, [], []), (102, .iload_n 1, 1, [], []), (103, .if_icmp .eq 28, 3, [131], []), (106, .aload_n 0, 1, [], []), (107, .getfield 15, 3, [6, 4, 3, 233], []), (110, .iload 4, 2, [], [])],
  [(112, .iaload, 1, [], []), (113, .iload_n 2, 1, [], []), (114, .isub, 1, [], []), (115, .invokestatic 108, 3, [12, 571], []), (118, .aload_n 0, 1, [], []), (119, .getfield 31, 3, [6, 0, 3, 225], []), (122, .getfield 113, 3, [3, 13, 0, 145], []), (125, .if_icmp .le 6, 3, [131], [])],
  [(128, .bipush 6, 2, [], []), (130, .ireturn, 1, [1], []), (131, .iinc 4 1, 3, [], []), (134, .goto (-49), 3, [85], []), (137, .aload_n 0, 1, [], []), (138, .iload_n 1, 1, [], []), (139, .iload_n 2, 1, [], []), (140, .invokevirtual 159, 3, [0, 2, 1, 6, 0, 1581], [m_X8_opponents]), (143, .ifCond .ne 7, 3, [150], [])],
  [(146, .iconst 0, 1, [], []), (147, .goto 5, 3, [152], []), (150, .bipush 7, 2, [], []), (152, .ireturn, 1, [1], [])]]
theorem k_X8_whyNotBegin : CdOk m_X8_whyNotBegin c_X8_whyNotBegin := ⟨by decide +kernel, allM_of ⟨o_X11_isIn, ⟨o_X8_isUp, ⟨o_X5_isReader, ⟨o_X5_neighboursOf, ⟨o_J6_bitCount_0f7a4, ⟨o_X8_opponents, trivial⟩⟩⟩⟩⟩⟩⟩
def c_X11_reason : Cd := [
  [(0, .aload_n 0, 1, [], []), (1, .iload_n 1, 1, [], []), (2, .invokevirtual 162, 3, [0, 1, 0, 8, 1, 1388], [m_X11_needMember]), (5, .aload_n 0, 1, [], []), (6, .iload_n 2, 1, [], []), (7, .invokevirtual 139, 3, [0, 1, 0, 8, 1, 1436], [m_X11_needVersion]), (10, .aload_n 0, 1, [], []), (11, .getfield 24, 3, [8, 1, 3, 361], []), (14, .iload_n 1, 1, [], []), (15, .iload_n 2, 1, [], [])],
  [(16, .invokevirtual 196, 3, [0, 2, 1, 6, 0, 1573], [m_X8_whyNotBegin]), (19, .ireturn, 1, [1], [])]]
theorem k_X11_reason : CdOk m_X11_reason c_X11_reason := ⟨by decide +kernel, allM_of ⟨o_X11_needMember, ⟨o_X11_needVersion, ⟨o_X8_whyNotBegin, trivial⟩⟩⟩⟩
def c_X11_open : Cd := [
  [(0, .aload_n 0, 1, [], []), (1, .iload_n 1, 1, [], []), (2, .invokevirtual 162, 3, [0, 1, 0, 8, 1, 1388], [m_X11_needMember]), (5, .iconst 0, 1, [], []), (6, .istore_n 2, 1, [], []), (7, .iconst 0, 1, [], []), (8, .istore_n 3, 1, [], []), (9, .iload_n 3, 1, [], []), (10, .aload_n 0, 1, [], []), (11, .getfield 24, 3, [8, 1, 3, 361], []), (14, .getfield 28, 3, [6, 0, 3, 224], [])],
  [(17, .getfield 199, 3, [3, 0, 3, 115], []), (20, .getfield 104, 3, [4, 1, 0, 100], []), (23, .if_icmp .ge 27, 3, [50], []), (26, .aload_n 0, 1, [], []), (27, .getfield 24, 3, [8, 1, 3, 361], []), (30, .iload_n 1, 1, [], []), (31, .iload_n 3, 1, [], [])],
  [(32, .invokevirtual 196, 3, [0, 2, 1, 6, 0, 1573], [m_X8_whyNotBegin]), (35, .ifCond .ne 9, 3, [44], []), (38, .iload_n 2, 1, [], []), (39, .iconst 1, 1, [], []), (40, .iload_n 3, 1, [], []), (41, .ishl, 1, [], []), (42, .ior, 1, [], []), (43, .istore_n 2, 1, [], []), (44, .iinc 3 1, 3, [], []), (47, .goto (-38), 3, [9], [])],
  [(50, .iload_n 2, 1, [], []), (51, .ireturn, 1, [1], [])]]
theorem k_X11_open : CdOk m_X11_open c_X11_open := ⟨by decide +kernel, allM_of ⟨o_X11_needMember, ⟨o_X8_whyNotBegin, trivial⟩⟩⟩
def c_X8_isUnderWay : Cd := [
  [(0, .aload_n 0, 1, [], []), (1, .getfield 51, 3, [6, 9, 0, 240], []), (4, .ifCond .eq 15, 3, [19], []), (7, .aload_n 0, 1, [], []), (8, .getfield 51, 3, [6, 9, 0, 240], []), (11, .iconst 4, 1, [], []), (12, .if_icmp .eq 7, 3, [19], []), (15, .iconst 1, 1, [], [])],
  [(16, .goto 4, 3, [20], []), (19, .iconst 0, 1, [], []), (20, .ireturn, 1, [6], [])]]
theorem k_X8_isUnderWay : CdOk m_X8_isUnderWay c_X8_isUnderWay := ⟨by decide +kernel, allM_of trivial⟩
def c_X8_numberOfPlan : Cd := [
  [(0, .iload_n 1, 1, [], []), (1, .ifCond .ne 8, 3, [9], []), (4, .aload_n 0, 1, [], []), (5, .getfield 51, 3, [6, 9, 0, 240], []), (8, .ireturn, 1, [1], []), (9, .aload_n 0, 1, [], []), (10, .invokevirtual 185, 3, [0, 0, 1, 6, 0, 1367], [m_X8_isUnderWay]), (13, .ifCond .ne 5, 3, [18], [])],
  [(16, .iconst (-1), 1, [], []), (17, .ireturn, 1, [1], []), (18, .iload_n 1, 1, [], []), (19, .tableswitch 49 1 4 #[29, 34, 39, 44], 29, [68, 1, 48, 53, 58, 63], [])],
  [],
  [(48, .aload_n 0, 1, [], []), (49, .getfield 54, 3, [6, 10, 0, 242], []), (52, .ireturn, 1, [1], []), (53, .aload_n 0, 1, [], []), (54, .getfield 57, 3, [6, 11, 0, 243], []), (57, .ireturn, 1, [1], []), (58, .aload_n 0, 1, [], []), (59, .getfield 64, 3, [6, 13, 0, 245], []), (62, .ireturn, 1, [1], []), (63, .aload_n 0, 1, [], [])],
  [(64, .getfield 67, 3, [6, 14, 0, 246], []), (67, .ireturn, 1, [1], []), (68, .iconst (-1), 1, [], []), (69, .ireturn, 1, [1], [])]]
theorem k_X8_numberOfPlan : CdOk m_X8_numberOfPlan c_X8_numberOfPlan := ⟨by decide +kernel, allM_of ⟨o_X8_isUnderWay, trivial⟩⟩
def c_X11_plan : Cd := [
  [(0, .iload_n 1, 1, [], []), (1, .ifCond .lt 8, 3, [9], []), (4, .iload_n 1, 1, [], []), (5, .iconst 4, 1, [], []), (6, .if_icmp .le 11, 3, [17], []), (9, .new 86, 3, [1, 88, 621, 662], [])],
  [(17, .aload_n 0, 1, [], []), (18, .getfield 24, 3, [8, 1, 3, 361], []), (21, .iload_n 1, 1, [], []), (22, .invokevirtual 208, 3, [0, 1, 1, 6, 0, 1363], [m_X8_numberOfPlan]), (25, .ireturn, 1, [1], [])]]
theorem k_X11_plan : CdOk m_X11_plan c_X11_plan := ⟨by decide +kernel, allM_of ⟨o_X8_numberOfPlan, trivial⟩⟩
def c_X8_isReadByAll : Cd := [
  [(0, .aload_n 0, 1, [], []), (1, .getfield 31, 3, [6, 0, 3, 225], []), (4, .iload_n 1, 1, [], []), (5, .invokevirtual 122, 3, [0, 1, 1, 3, 0, 1616], [m_X5_readersOf]), (8, .istore_n 2, 1, [], []), (9, .iconst 0, 1, [], []), (10, .istore_n 3, 1, [], []), (11, .iload_n 3, 1, [], []), (12, .aload_n 0, 1, [], []), (13, .getfield 31, 3, [6, 0, 3, 225], [])],
  [(16, .getfield 89, 3, [3, 8, 3, 131], []), (19, .getfield 93, 3, [4, 1, 0, 102], []), (22, .if_icmp .ge 24, 3, [46], []), (25, .iload_n 2, 1, [], []), (26, .aload_n 0, 1, [], []), (27, .getfield 15, 3, [6, 4, 3, 233], []), (30, .iload_n 3, 1, [], []), (31, .iaload, 1, [], [])],
  [(32, .invokestatic 119, 3, [2, 2, 1, 0, 0, 0], [m_X11_isIn]), (35, .ifCond .ne 5, 3, [40], []), (38, .iconst 0, 1, [], []), (39, .ireturn, 1, [6], []), (40, .iinc 3 1, 3, [], []), (43, .goto (-32), 3, [11], []), (46, .iconst 1, 1, [], []), (47, .ireturn, 1, [6], [])]]
theorem k_X8_isReadByAll : CdOk m_X8_isReadByAll c_X8_isReadByAll := ⟨by decide +kernel, allM_of ⟨o_X5_readersOf, ⟨o_X11_isIn, trivial⟩⟩⟩
def c_X8_whyNotFormat : Cd := [
  [(0, .iload_n 1, 1, [], []), (1, .aload_n 0, 1, [], []), (2, .getfield 42, 3, [6, 2, 0, 228], []), (5, .if_icmp .gt 5, 3, [10], []), (8, .iconst 1, 1, [], []), (9, .ireturn, 1, [1], []), (10, .aload_n 0, 1, [], []), (11, .iload_n 1, 1, [], []), (12, .invokevirtual 175, 3, [0, 1, 1, 6, 0, 1612], [m_X8_isReadByAll]), (15, .ifCond .eq 7, 3, [22], [])],
  [(18, .iconst 0, 1, [], []), (19, .goto 4, 3, [23], []), (22, .iconst 2, 1, [], []), (23, .ireturn, 1, [1], [])]]
theorem k_X8_whyNotFormat : CdOk m_X8_whyNotFormat c_X8_whyNotFormat := ⟨by decide +kernel, allM_of ⟨o_X8_isReadByAll, trivial⟩⟩
def c_X11_whyNotCommit : Cd := [
  [(0, .iload_n 1, 1, [], []), (1, .invokestatic 149, 3, [1, 1, 0, 0, 1, 1605], [m_X11_needFormat]), (4, .aload_n 0, 1, [], []), (5, .getfield 24, 3, [8, 1, 3, 361], []), (8, .iload_n 1, 1, [], []), (9, .invokevirtual 240, 3, [0, 1, 1, 6, 0, 1608], [m_X8_whyNotFormat]), (12, .ireturn, 1, [1], [])]]
theorem k_X11_whyNotCommit : CdOk m_X11_whyNotCommit c_X11_whyNotCommit := ⟨by decide +kernel, allM_of ⟨o_X11_needFormat, ⟨o_X8_whyNotFormat, trivial⟩⟩⟩
def c_X8_lowestWayBack : Cd := [
  [(0, .aload_n 0, 1, [], []), (1, .getfield 31, 3, [6, 0, 3, 225], []), (4, .getfield 89, 3, [3, 8, 3, 131], []), (7, .getfield 93, 3, [4, 1, 0, 102], []), (10, .ifCond .ne 5, 3, [15], []), (13, .iconst (-1), 1, [], []), (14, .ireturn, 1, [1], []), (15, .aload_n 0, 1, [], [])],
  [(16, .aload_n 0, 1, [], []), (17, .getfield 31, 3, [6, 0, 3, 225], []), (20, .invokevirtual 178, 3, [0, 0, 1, 3, 0, 1745], [m_X5_everyMember]), (23, .invokevirtual 182, 3, [0, 1, 1, 6, 0, 1462], [m_X8_lowestComing]), (26, .istore_n 1, 1, [], []), (27, .iload_n 1, 1, [], []), (28, .ifCond .le 43, 3, [71], []), (31, .aload_n 0, 1, [], [])],
  [(32, .getfield 31, 3, [6, 0, 3, 225], []), (35, .iload_n 1, 1, [], []), (36, .iconst 1, 1, [], []), (37, .isub, 1, [], []), (38, .aload_n 0, 1, [], []), (39, .getfield 42, 3, [6, 2, 0, 228], []), (42, .invokevirtual 104, 3, [0, 2, 1, 3, 0, 567], [m_X5_isReader]), (45, .ifCond .eq 26, 3, [71], [])],
  [(48, .aload_n 0, 1, [], []), (49, .getfield 31, 3, [6, 0, 3, 225], []), (52, .iload_n 1, 1, [], []), (53, .invokevirtual 100, 3, [0, 1, 1, 3, 0, 566], [m_X5_talkersOf]), (56, .iload_n 1, 1, [], []), (57, .iconst 1, 1, [], []), (58, .isub, 1, [], []), (59, .invokestatic 119, 3, [2, 2, 1, 0, 0, 0], [m_X11_isIn]), (62, .ifCond .eq 9, 3, [71], [])],
  [(65, .iinc 1 (-1), 3, [], []), (68, .goto (-41), 3, [27], []), (71, .iload_n 1, 1, [], []), (72, .ireturn, 1, [1], [])]]
theorem k_X8_lowestWayBack : CdOk m_X8_lowestWayBack c_X8_lowestWayBack := ⟨by decide +kernel, allM_of ⟨o_X5_everyMember, ⟨o_X8_lowestComing, ⟨o_X5_isReader, ⟨o_X5_talkersOf, ⟨o_X11_isIn, trivial⟩⟩⟩⟩⟩⟩
def c_X11_wayBack : Cd := [
  [(0, .aload_n 0, 1, [], []), (1, .getfield 24, 3, [8, 1, 3, 361], []), (4, .invokevirtual 247, 3, [0, 0, 1, 6, 0, 1741], [m_X8_lowestWayBack]), (7, .ireturn, 1, [1], [])]]
theorem k_X11_wayBack : CdOk m_X11_wayBack c_X11_wayBack := ⟨by decide +kernel, allM_of ⟨o_X8_lowestWayBack, trivial⟩⟩
def c_X11_needAhead : Cd := [
  [(0, .iload_n 0, 1, [], []), (1, .ifCond .lt 10, 3, [11], []), (4, .iload_n 0, 1, [], []), (5, .sipush 2000, 3, [], []), (8, .if_icmp .le 11, 3, [19], []), (11, .new 86, 3, [1, 88, 621, 662], [])],
  [(19, .return_, 1, [], [])]]
theorem k_X11_needAhead : CdOk m_X11_needAhead c_X11_needAhead := ⟨by decide +kernel, allM_of trivial⟩
def c_X8_isActive : Cd := [
  [(0, .aload_n 0, 1, [], []), (1, .getfield 51, 3, [6, 9, 0, 240], []), (4, .iconst 1, 1, [], []), (5, .if_icmp .eq 11, 3, [16], []), (8, .aload_n 0, 1, [], []), (9, .getfield 51, 3, [6, 9, 0, 240], []), (12, .iconst 2, 1, [], []), (13, .if_icmp .ne 7, 3, [20], [])],
  [(16, .iconst 1, 1, [], []), (17, .goto 4, 3, [21], []), (20, .iconst 0, 1, [], []), (21, .ireturn, 1, [6], [])]]
theorem k_X8_isActive : CdOk m_X8_isActive c_X8_isActive := ⟨by decide +kernel, allM_of trivial⟩
def c_X3_add : Cd := [
  [(0, .aload_n 0, 1, [], []), (1, .aload_n 0, 1, [], []), (2, .getfield 19, 3, [1, 2, 0, 211], []), (5, .iconst 1, 1, [], []), (6, .iadd, 1, [], []), (7, .bipush 30, 2, [], []), (9, .irem, 1, [], []), (10, .putfield 19, 3, [1, 2, 0, 211], []), (13, .aload_n 0, 1, [], []), (14, .getfield 19, 3, [1, 2, 0, 211], [])],
  [(17, .iconst 4, 1, [], []), (18, .imul, 1, [], []), (19, .istore 5, 2, [], []), (21, .aload_n 0, 1, [], []), (22, .getfield 11, 3, [1, 0, 3, 207], []), (25, .iload 5, 2, [], []), (27, .iload_n 1, 1, [], []), (28, .iastore, 1, [], []), (29, .aload_n 0, 1, [], []), (30, .getfield 11, 3, [1, 0, 3, 207], [])],
  [(33, .iload 5, 2, [], []), (35, .iconst 1, 1, [], []), (36, .iadd, 1, [], []), (37, .iload_n 2, 1, [], []), (38, .iastore, 1, [], []), (39, .aload_n 0, 1, [], []), (40, .getfield 11, 3, [1, 0, 3, 207], []), (43, .iload 5, 2, [], []), (45, .iconst 2, 1, [], []), (46, .iadd, 1, [], []), (47, .iload_n 3, 1, [], [])],
  [(48, .iastore, 1, [], []), (49, .aload_n 0, 1, [], []), (50, .getfield 11, 3, [1, 0, 3, 207], []), (53, .iload 5, 2, [], []), (55, .iconst 3, 1, [], []), (56, .iadd, 1, [], []), (57, .iload 4, 2, [], []), (59, .iastore, 1, [], []), (60, .aload_n 0, 1, [], []), (61, .aload_n 0, 1, [], []), (62, .getfield 15, 3, [1, 1, 0, 208], [])],
  [(65, .iconst 1, 1, [], []), (66, .iadd, 1, [], []), (67, .bipush 30, 2, [], []), (69, .invokestatic 26, 3, [10, 1476], []), (72, .putfield 15, 3, [1, 1, 0, 208], []), (75, .return_, 1, [], [])]]
theorem k_X3_add : CdOk m_X3_add c_X3_add := ⟨by decide +kernel, allM_of trivial⟩
def c_X8_endChanges : Cd := [
  [(0, .iconst 0, 1, [], []), (1, .istore_n 1, 1, [], []), (2, .iload_n 1, 1, [], []), (3, .aload_n 0, 1, [], []), (4, .getfield 31, 3, [6, 0, 3, 225], []), (7, .getfield 89, 3, [3, 8, 3, 131], []), (10, .getfield 93, 3, [4, 1, 0, 102], []), (13, .if_icmp .ge 81, 3, [94], [])],
  [(16, .aload_n 0, 1, [], []), (17, .getfield 18, 3, [6, 5, 3, 234], []), (20, .iload_n 1, 1, [], []), (21, .iaload, 1, [], []), (22, .aload_n 0, 1, [], []), (23, .getfield 38, 3, [6, 1, 0, 226], []), (26, .if_icmp .ne 62, 3, [88], []), (29, .aload_n 0, 1, [], []), (30, .getfield 18, 3, [6, 5, 3, 234], [])],
  [(33, .iload_n 1, 1, [], []), (34, .iconst (-1), 1, [], []), (35, .iastore, 1, [], []), (36, .aload_n 0, 1, [], []), (37, .dup, 1, [], []), (38, .getfield 45, 3, [6, 7, 0, 236], []), (41, .iconst 1, 1, [], []), (42, .iload_n 1, 1, [], []), (43, .ishl, 1, [], []), (44, .iconst (-1), 1, [], []), (45, .ixor, 1, [], []), (46, .iand, 1, [], []), (47, .putfield 45, 3, [6, 7, 0, 236], [])],
  [(50, .aload_n 0, 1, [], []), (51, .getfield 9, 3, [6, 3, 3, 231], []), (54, .iload_n 1, 1, [], []), (55, .aload_n 0, 1, [], []), (56, .getfield 15, 3, [6, 4, 3, 233], []), (59, .iload_n 1, 1, [], []), (60, .iaload, 1, [], []), (61, .iastore, 1, [], []), (62, .aload_n 0, 1, [], []), (63, .getfield 21, 3, [6, 6, 3, 235], [])],
  [(66, .iload_n 1, 1, [], []), (67, .iconst 0, 1, [], []), (68, .iastore, 1, [], []), (69, .aload_n 0, 1, [], []), (70, .getfield 27, 3, [6, 15, 3, 247], []), (73, .aload_n 0, 1, [], []), (74, .getfield 38, 3, [6, 1, 0, 226], []), (77, .iconst 1, 1, [], []), (78, .iload_n 1, 1, [], []), (79, .aload_n 0, 1, [], [])],
  [(80, .getfield 9, 3, [6, 3, 3, 231], []), (83, .iload_n 1, 1, [], []), (84, .iaload, 1, [], []), (85, .invokevirtual 171, 3, [0, 4, 0, 1, 0, 1472], [m_X3_add]), (88, .iinc 1 1, 3, [], []), (91, .goto (-89), 3, [2], []), (94, .return_, 1, [], [])]]
theorem k_X8_endChanges : CdOk m_X8_endChanges c_X8_endChanges := ⟨by decide +kernel, allM_of ⟨o_X3_add, trivial⟩⟩
def c_X5_plannedMembers : Cd := [
  [(0, .iconst 0, 1, [], []), (1, .istore_n 1, 1, [], []), (2, .iconst 0, 1, [], []), (3, .istore_n 2, 1, [], []), (4, .iload_n 2, 1, [], []), (5, .aload_n 0, 1, [], []), (6, .getfield 61, 3, [3, 12, 0, 141], []), (9, .if_icmp .ge 18, 3, [27], []), (12, .iload_n 1, 1, [], []), (13, .aload_n 0, 1, [], []), (14, .getfield 39, 3, [3, 7, 3, 126], [])],
  [(17, .iload_n 2, 1, [], []), (18, .iaload, 1, [], []), (19, .ior, 1, [], []), (20, .istore_n 1, 1, [], []), (21, .iinc 2 1, 3, [], []), (24, .goto (-20), 3, [4], []), (27, .iload_n 1, 1, [], []), (28, .ireturn, 1, [1], [])]]
theorem k_X5_plannedMembers : CdOk m_X5_plannedMembers c_X5_plannedMembers := ⟨by decide +kernel, allM_of trivial⟩
def c_X8_reachedOf : Cd := [
  [(0, .iload_n 1, 1, [], []), (1, .aload_n 0, 1, [], []), (2, .getfield 45, 3, [6, 7, 0, 236], []), (5, .iconst (-1), 1, [], []), (6, .ixor, 1, [], []), (7, .iand, 1, [], []), (8, .istore_n 2, 1, [], []), (9, .iconst 0, 1, [], []), (10, .istore_n 3, 1, [], []), (11, .iload_n 3, 1, [], []), (12, .aload_n 0, 1, [], []), (13, .getfield 31, 3, [6, 0, 3, 225], [])],
  [(16, .getfield 89, 3, [3, 8, 3, 131], []), (19, .getfield 93, 3, [4, 1, 0, 102], []), (22, .if_icmp .ge 53, 3, [75], []), (25, .aload_n 0, 1, [], []), (26, .getfield 60, 3, [6, 12, 1, 244], []), (29, .ifCond .eq 19, 3, [48], [])],
  [(32, .aload_n 0, 1, [], []), (33, .getfield 9, 3, [6, 3, 3, 231], []), (36, .iload_n 3, 1, [], []), (37, .iaload, 1, [], []), (38, .aload_n 0, 1, [], []), (39, .getfield 57, 3, [6, 11, 0, 243], []), (42, .if_icmp .ge 27, 3, [69], []), (45, .goto 16, 3, [61], [])],
  [(48, .aload_n 0, 1, [], []), (49, .getfield 9, 3, [6, 3, 3, 231], []), (52, .iload_n 3, 1, [], []), (53, .iaload, 1, [], []), (54, .aload_n 0, 1, [], []), (55, .getfield 57, 3, [6, 11, 0, 243], []), (58, .if_icmp .le 11, 3, [69], []), (61, .iload_n 2, 1, [], []), (62, .iconst 1, 1, [], []), (63, .iload_n 3, 1, [], [])],
  [(64, .ishl, 1, [], []), (65, .iconst (-1), 1, [], []), (66, .ixor, 1, [], []), (67, .iand, 1, [], []), (68, .istore_n 2, 1, [], []), (69, .iinc 3 1, 3, [], []), (72, .goto (-61), 3, [11], []), (75, .iload_n 2, 1, [], []), (76, .ireturn, 1, [1], [])]]
theorem k_X8_reachedOf : CdOk m_X8_reachedOf c_X8_reachedOf := ⟨by decide +kernel, allM_of trivial⟩
def c_X8_measuredSet : Cd := [
  [(0, .aload_n 0, 1, [], []), (1, .aload_n 0, 1, [], []), (2, .getfield 31, 3, [6, 0, 3, 225], []), (5, .invokevirtual 195, 3, [0, 0, 1, 3, 0, 1458], [m_X5_plannedMembers]), (8, .invokevirtual 204, 3, [0, 1, 1, 6, 0, 1678], [m_X8_reachedOf]), (11, .ireturn, 1, [1], [])]]
theorem k_X8_measuredSet : CdOk m_X8_measuredSet c_X8_measuredSet := ⟨by decide +kernel, allM_of ⟨o_X5_plannedMembers, ⟨o_X8_reachedOf, trivial⟩⟩⟩
def c_X8_sumOfMeasures : Cd := [
  [(0, .iconst 0, 1, [], []), (1, .istore_n 2, 1, [], []), (2, .iconst 0, 1, [], []), (3, .istore_n 3, 1, [], []), (4, .iload_n 3, 1, [], []), (5, .aload_n 0, 1, [], []), (6, .getfield 31, 3, [6, 0, 3, 225], []), (9, .getfield 89, 3, [3, 8, 3, 131], []), (12, .getfield 93, 3, [4, 1, 0, 102], []), (15, .if_icmp .ge 30, 3, [45], [])],
  [(18, .iload_n 2, 1, [], []), (19, .iload_n 1, 1, [], []), (20, .iload_n 3, 1, [], []), (21, .invokestatic 119, 3, [2, 2, 1, 0, 0, 0], [m_X11_isIn]), (24, .ifCond .eq 12, 3, [36], []), (27, .aload_n 0, 1, [], []), (28, .getfield 21, 3, [6, 6, 3, 235], []), (31, .iload_n 3, 1, [], [])],
  [(32, .iaload, 1, [], []), (33, .goto 4, 3, [37], []), (36, .iconst 0, 1, [], []), (37, .iadd, 1, [], []), (38, .istore_n 2, 1, [], []), (39, .iinc 3 1, 3, [], []), (42, .goto (-38), 3, [4], []), (45, .iload_n 2, 1, [], []), (46, .ireturn, 1, [1], [])]]
theorem k_X8_sumOfMeasures : CdOk m_X8_sumOfMeasures c_X8_sumOfMeasures := ⟨by decide +kernel, allM_of ⟨o_X11_isIn, trivial⟩⟩
def c_X8_isOverLimit : Cd := [
  [(0, .aload_n 0, 1, [], []), (1, .invokevirtual 231, 3, [0, 0, 1, 6, 0, 1674], [m_X8_measuredSet]), (4, .istore_n 1, 1, [], []), (5, .aload_n 0, 1, [], []), (6, .iload_n 1, 1, [], []), (7, .invokevirtual 234, 3, [0, 1, 1, 6, 0, 1682], [m_X8_sumOfMeasures]), (10, .aload_n 0, 1, [], []), (11, .getfield 31, 3, [6, 0, 3, 225], []), (14, .getfield 237, 3, [3, 17, 0, 158], [])],
  [(17, .iload_n 1, 1, [], []), (18, .invokestatic 151, 3, [1, 1, 1, 0, 0, 1533], [m_J6_bitCount_0f7a4]), (21, .imul, 1, [], []), (22, .if_icmp .le 7, 3, [29], []), (25, .iconst 1, 1, [], []), (26, .goto 4, 3, [30], []), (29, .iconst 0, 1, [], []), (30, .ireturn, 1, [6], [])]]
theorem k_X8_isOverLimit : CdOk m_X8_isOverLimit c_X8_isOverLimit := ⟨by decide +kernel, allM_of ⟨o_X8_measuredSet, ⟨o_X8_sumOfMeasures, ⟨o_J6_bitCount_0f7a4, trivial⟩⟩⟩⟩
def c_X8_stopPlan : Cd := [
  [(0, .aload_n 0, 1, [], []), (1, .iconst 3, 1, [], []), (2, .putfield 51, 3, [6, 9, 0, 240], []), (5, .aload_n 0, 1, [], []), (6, .getfield 27, 3, [6, 15, 3, 247], []), (9, .aload_n 0, 1, [], []), (10, .getfield 38, 3, [6, 1, 0, 226], []), (13, .iconst 4, 1, [], []), (14, .iconst (-1), 1, [], []), (15, .aload_n 0, 1, [], [])],
  [(16, .getfield 64, 3, [6, 13, 0, 245], []), (19, .invokevirtual 171, 3, [0, 4, 0, 1, 0, 1472], [m_X3_add]), (22, .aload_n 0, 1, [], []), (23, .getfield 64, 3, [6, 13, 0, 245], []), (26, .ireturn, 1, [1], [])]]
theorem k_X8_stopPlan : CdOk m_X8_stopPlan c_X8_stopPlan := ⟨by decide +kernel, allM_of ⟨o_X3_add, trivial⟩⟩
