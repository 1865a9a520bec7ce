/-! ===== tables of the methods' code, 6 ===== -/
def m_X11_changesIn : MI := (yX11_changesIn, cX11_changesIn, 2, some .int, 7, 175, 1, [], 0)
def m_L_changesIn : MI := (yL_changesIn, cL_changesIn, 4, some .int, 8, 196, 1, [(0, 9, 12, 19)], 2)
def m_X12_changesIn : MI := (yX12_changesIn, cX12_changesIn, 4, some .int, 7, 151, 0, [], 0)
def m_X11_needMeasure : MI := (yX11_needMeasure, cX11_needMeasure, 1, none, 6, 89, 1, [], 1)
def m_X11_wouldStop : MI := (yX11_wouldStop, cX11_wouldStop, 3, some .boolean, 7, 151, 2, [], 0)
def m_L_wouldStop : MI := (yL_wouldStop, cL_wouldStop, 5, some .int, 8, 173, 2, [(0, 17, 20, 35), (0, 17, 24, 19)], 2)
def m_X12_wouldStop : MI := (yX12_wouldStop, cX12_wouldStop, 5, some .boolean, 7, 151, 0, [], 0)
def m_X11_events : MI := (yX11_events, cX11_events, 1, some .int, 0, 0, 0, [], 0)
def m_X12_keptEvents : MI := (yX12_keptEvents, cX12_keptEvents, 1, some .int, 0, 0, 0, [], 0)
def m_X12_events : MI := (yX12_events, cX12_events, 1, some .int, 1, 20, 0, [], 0)
def m_X3_cellOf : MI := (yX3_cellOf, cX3_cellOf, 4, some .int, 1, 60, 0, [], 0)
def m_X11_event : MI := (yX11_event, cX11_event, 3, some .int, 6, 89, 1, [], 0)
def m_L_event : MI := (yL_event, cL_event, 5, some .int, 7, 111, 1, [(0, 10, 13, 35), (0, 10, 17, 19)], 2)
def m_X12_event : MI := (yX12_event, cX12_event, 3, some .int, 1, 25, 0, [], 0)
def m_X11_pass : MI := (yX11_pass, cX11_pass, 2, some .int, 6, 173, 1, [], 0)
def m_L_pass : MI := (yL_pass, cL_pass, 4, some .int, 7, 194, 1, [(0, 9, 12, 19)], 2)
def m_X12_kept : MI := (yX12_kept, cX12_kept, 2, some .int, 1, 21, 0, [], 0)
def m_X12_pass : MI := (yX12_pass, cX12_pass, 2, some .int, 8, 173, 0, [], 0)
def m_X11_start : MI := (yX11_start, cX11_start, 2, some .int, 7, 145, 2, [], 0)
def m_L_start : MI := (yL_start, cL_start, 4, some .int, 8, 166, 2, [(0, 9, 12, 35), (0, 9, 15, 13)], 2)
def m_X12_start : MI := (yX12_start, cX12_start, 2, some .int, 4, 89, 0, [], 0)
def m_X11_stop : MI := (yX11_stop, cX11_stop, 1, some .int, 6, 145, 1, [], 0)
def m_L_stop : MI := (yL_stop, cL_stop, 3, some .int, 7, 165, 1, [(0, 8, 11, 13)], 2)
def m_X12_stop : MI := (yX12_stop, cX12_stop, 1, some .int, 2, 44, 0, [], 0)
def m_X11_go : MI := (yX11_go, cX11_go, 1, some .int, 6, 145, 1, [], 0)
def m_L_go : MI := (yL_go, cL_go, 3, some .int, 7, 165, 1, [(0, 8, 11, 13)], 2)
def m_X12_go : MI := (yX12_go, cX12_go, 1, some .int, 2, 44, 0, [], 0)
def m_X11_hold : MI := (yX11_hold, cX11_hold, 3, some .int, 7, 145, 2, [], 0)
def m_L_hold : MI := (yL_hold, cL_hold, 5, some .int, 8, 167, 2, [(0, 10, 13, 35), (0, 10, 17, 13)], 2)
def m_X12_hold : MI := (yX12_hold, cX12_hold, 4, some .int, 2, 48, 0, [], 0)
def m_X11_report : MI := (yX11_report, cX11_report, 3, some .int, 7, 145, 3, [], 0)
def m_L_report : MI := (yL_report, cL_report, 5, some .int, 8, 167, 3, [(0, 10, 13, 35), (0, 10, 17, 19), (0, 10, 21, 13)], 2)
def m_X12_report : MI := (yX12_report, cX12_report, 4, some .int, 2, 46, 0, [], 0)
def m_X11_change : MI := (yX11_change, cX11_change, 3, some .int, 7, 145, 3, [], 0)
def m_L_change : MI := (yL_change, cL_change, 5, some .int, 8, 167, 3, [(0, 10, 13, 35), (0, 10, 17, 13)], 2)
def m_X12_change : MI := (yX12_change, cX12_change, 4, some .int, 5, 110, 0, [], 0)
def m_X11_commit : MI := (yX11_commit, cX11_commit, 2, some .int, 7, 145, 2, [], 0)
def m_L_commit : MI := (yL_commit, cL_commit, 4, some .int, 8, 166, 2, [(0, 9, 12, 19), (0, 9, 15, 13)], 2)
def m_X12_commit : MI := (yX12_commit, cX12_commit, 3, some .int, 5, 108, 0, [], 0)
def m_X6_nameOf : MI := (yX6_nameOf, cX6_nameOf, 2, some .long, 0, 0, 0, [], 0)
def m_X11_writeByte : MI := (yX11_writeByte, cX11_writeByte, 2, none, 0, 0, 0, [], 0)
def m_X11_writeName : MI := (yX11_writeName, cX11_writeName, 5, none, 1, 21, 0, [], 0)
def m_X11_writeReport : MI := (yX11_writeReport, cX11_writeReport, 2, some .int, 2, 45, 0, [], 0)
def m_X12_tell : MI := (yX12_tell, cX12_tell, 2, none, 0, 0, 0, [], 0)
def m_X12_tellName : MI := (yX12_tellName, cX12_tellName, 4, none, 1, 21, 0, [], 0)
def m_X12_writeReport : MI := (yX12_writeReport, cX12_writeReport, 2, some .int, 2, 44, 0, [], 0)
def m_X11_reportByte : MI := (yX11_reportByte, cX11_reportByte, 2, some .int, 6, 89, 1, [], 0)
def m_L_reportByte : MI := (yL_reportByte, cL_reportByte, 4, some .int, 7, 110, 1, [(0, 9, 12, 35)], 2)
def m_X12_reportByte : MI := (yX12_reportByte, cX12_reportByte, 2, some .int, 2, 41, 0, [], 0)
def m_X4_takeBack : MI := (yX4_takeBack, cX4_takeBack, 3, none, 4, 123, 0, [], 0)
def m_X11_undo : MI := (yX11_undo, cX11_undo, 1, some .int, 5, 145, 0, [], 0)
def m_X12_undo : MI := (yX12_undo, cX12_undo, 2, some .int, 0, 0, 0, [], 0)
def m_X11_save : MI := (yX11_save, cX11_save, 1, some .int, 5, 144, 0, [], 0)
def m_X12_save : MI := (yX12_save, cX12_save, 2, some .int, 0, 0, 0, [], 0)
def m_X11_restore : MI := (yX11_restore, cX11_restore, 1, some .int, 6, 144, 1, [], 0)
def m_L_restore : MI := (yL_restore, cL_restore, 3, some .int, 7, 164, 1, [(0, 8, 11, 13)], 2)
def m_X12_restore : MI := (yX12_restore, cX12_restore, 2, some .int, 2, 41, 0, [], 0)
theorem o_X11_changesIn : MOK m_X11_changesIn := MOKi (tbG_at (p := 1302) (by decide +kernel)) (tbG_at (p := 1) (by decide +kernel)) (by decide +kernel) rfl rfl (tbG_at (p := 1300) (by decide +kernel)) (tbG_at (p := 1301) (by decide +kernel))
theorem o_L_changesIn : MOK m_L_changesIn := MOKh (tbG_at (p := 1298) (by decide +kernel)) (tbG_at (p := 0) (by decide +kernel)) (by decide +kernel) rfl (by decide) (tbG_at (p := 1297) (by decide +kernel))
theorem o_X12_changesIn : MOK m_X12_changesIn := MOKi (tbG_at (p := 2025) (by decide +kernel)) (tbG_at (p := 10) (by decide +kernel)) (by decide +kernel) rfl rfl (tbG_at (p := 2023) (by decide +kernel)) (tbG_at (p := 2024) (by decide +kernel))
theorem o_X11_needMeasure : MOK m_X11_needMeasure := MOKs (tbG_at (p := 1316) (by decide +kernel)) (tbG_at (p := 1) (by decide +kernel)) (by decide +kernel) rfl rfl (tbG_at (p := 1315) (by decide +kernel))
theorem o_X11_wouldStop : MOK m_X11_wouldStop := MOKi (tbG_at (p := 1313) (by decide +kernel)) (tbG_at (p := 1) (by decide +kernel)) (by decide +kernel) rfl rfl (tbG_at (p := 1311) (by decide +kernel)) (tbG_at (p := 1312) (by decide +kernel))
theorem o_L_wouldStop : MOK m_L_wouldStop := MOKh (tbG_at (p := 1309) (by decide +kernel)) (tbG_at (p := 0) (by decide +kernel)) (by decide +kernel) rfl (by decide) (tbG_at (p := 1308) (by decide +kernel))
theorem o_X12_wouldStop : MOK m_X12_wouldStop := MOKi (tbG_at (p := 2029) (by decide +kernel)) (tbG_at (p := 10) (by decide +kernel)) (by decide +kernel) rfl rfl (tbG_at (p := 2027) (by decide +kernel)) (tbG_at (p := 2028) (by decide +kernel))
theorem o_X11_events : MOK m_X11_events := MOKi (tbG_at (p := 624) (by decide +kernel)) (tbG_at (p := 1) (by decide +kernel)) (by decide +kernel) rfl rfl (tbG_at (p := 622) (by decide +kernel)) (tbG_at (p := 623) (by decide +kernel))
theorem o_X12_keptEvents : MOK m_X12_keptEvents := MOKi (tbG_at (p := 1874) (by decide +kernel)) (tbG_at (p := 10) (by decide +kernel)) (by decide +kernel) rfl rfl (tbG_at (p := 1873) (by decide +kernel)) (tbG_atS (p := 84) (by decide +kernel))
theorem o_X12_events : MOK m_X12_events := MOKi (tbG_at (p := 1870) (by decide +kernel)) (tbG_at (p := 10) (by decide +kernel)) (by decide +kernel) rfl rfl (tbG_at (p := 1868) (by decide +kernel)) (tbG_at (p := 1869) (by decide +kernel))
theorem o_X3_cellOf : MOK m_X3_cellOf := MOKi (tbG_at (p := 1329) (by decide +kernel)) (tbG_at (p := 6) (by decide +kernel)) (by decide +kernel) rfl rfl (tbG_at (p := 1327) (by decide +kernel)) (tbG_at (p := 1328) (by decide +kernel))
theorem o_X11_event : MOK m_X11_event := MOKi (tbG_at (p := 1325) (by decide +kernel)) (tbG_at (p := 1) (by decide +kernel)) (by decide +kernel) rfl rfl (tbG_at (p := 1323) (by decide +kernel)) (tbG_at (p := 1324) (by decide +kernel))
theorem o_L_event : MOK m_L_event := MOKh (tbG_at (p := 1321) (by decide +kernel)) (tbG_at (p := 0) (by decide +kernel)) (by decide +kernel) rfl (by decide) (tbG_at (p := 1320) (by decide +kernel))
theorem o_X12_event : MOK m_X12_event := MOKi (tbG_at (p := 1878) (by decide +kernel)) (tbG_at (p := 10) (by decide +kernel)) (by decide +kernel) rfl rfl (tbG_at (p := 1876) (by decide +kernel)) (tbG_at (p := 1877) (by decide +kernel))
theorem o_X11_pass : MOK m_X11_pass := MOKi (tbG_at (p := 1337) (by decide +kernel)) (tbG_at (p := 1) (by decide +kernel)) (by decide +kernel) rfl rfl (tbG_at (p := 1335) (by decide +kernel)) (tbG_at (p := 1336) (by decide +kernel))
theorem o_L_pass : MOK m_L_pass := MOKh (tbG_at (p := 1333) (by decide +kernel)) (tbG_at (p := 0) (by decide +kernel)) (by decide +kernel) rfl (by decide) (tbG_at (p := 1332) (by decide +kernel))
theorem o_X12_kept : MOK m_X12_kept := MOKi (tbG_at (p := 2046) (by decide +kernel)) (tbG_at (p := 10) (by decide +kernel)) (by decide +kernel) rfl rfl (tbG_at (p := 2045) (by decide +kernel)) (tbG_atS (p := 110) (by decide +kernel))
theorem o_X12_pass : MOK m_X12_pass := MOKi (tbG_at (p := 2034) (by decide +kernel)) (tbG_at (p := 10) (by decide +kernel)) (by decide +kernel) rfl rfl (tbG_at (p := 2032) (by decide +kernel)) (tbG_at (p := 2033) (by decide +kernel))
theorem o_X11_start : MOK m_X11_start := MOKi (tbG_at (p := 1346) (by decide +kernel)) (tbG_at (p := 1) (by decide +kernel)) (by decide +kernel) rfl rfl (tbG_at (p := 1344) (by decide +kernel)) (tbG_at (p := 1345) (by decide +kernel))
theorem o_L_start : MOK m_L_start := MOKh (tbG_at (p := 1342) (by decide +kernel)) (tbG_at (p := 0) (by decide +kernel)) (by decide +kernel) rfl (by decide) (tbG_at (p := 1341) (by decide +kernel))
theorem o_X12_start : MOK m_X12_start := MOKi (tbG_at (p := 2054) (by decide +kernel)) (tbG_at (p := 10) (by decide +kernel)) (by decide +kernel) rfl rfl (tbG_at (p := 2052) (by decide +kernel)) (tbG_at (p := 2053) (by decide +kernel))
theorem o_X11_stop : MOK m_X11_stop := MOKi (tbG_at (p := 1355) (by decide +kernel)) (tbG_at (p := 1) (by decide +kernel)) (by decide +kernel) rfl rfl (tbG_at (p := 1353) (by decide +kernel)) (tbG_at (p := 1354) (by decide +kernel))
theorem o_L_stop : MOK m_L_stop := MOKh (tbG_at (p := 1351) (by decide +kernel)) (tbG_at (p := 0) (by decide +kernel)) (by decide +kernel) rfl (by decide) (tbG_at (p := 1350) (by decide +kernel))
theorem o_X12_stop : MOK m_X12_stop := MOKi (tbG_at (p := 2066) (by decide +kernel)) (tbG_at (p := 10) (by decide +kernel)) (by decide +kernel) rfl rfl (tbG_at (p := 2064) (by decide +kernel)) (tbG_at (p := 2065) (by decide +kernel))
theorem o_X11_go : MOK m_X11_go := MOKi (tbG_at (p := 1363) (by decide +kernel)) (tbG_at (p := 1) (by decide +kernel)) (by decide +kernel) rfl rfl (tbG_at (p := 1361) (by decide +kernel)) (tbG_at (p := 1362) (by decide +kernel))
theorem o_L_go : MOK m_L_go := MOKh (tbG_at (p := 1359) (by decide +kernel)) (tbG_at (p := 0) (by decide +kernel)) (by decide +kernel) rfl (by decide) (tbG_at (p := 1358) (by decide +kernel))
theorem o_X12_go : MOK m_X12_go := MOKi (tbG_at (p := 2070) (by decide +kernel)) (tbG_at (p := 10) (by decide +kernel)) (by decide +kernel) rfl rfl (tbG_at (p := 2068) (by decide +kernel)) (tbG_at (p := 2069) (by decide +kernel))
theorem o_X11_hold : MOK m_X11_hold := MOKi (tbG_at (p := 1371) (by decide +kernel)) (tbG_at (p := 1) (by decide +kernel)) (by decide +kernel) rfl rfl (tbG_at (p := 1369) (by decide +kernel)) (tbG_at (p := 1370) (by decide +kernel))
theorem o_L_hold : MOK m_L_hold := MOKh (tbG_at (p := 1367) (by decide +kernel)) (tbG_at (p := 0) (by decide +kernel)) (by decide +kernel) rfl (by decide) (tbG_at (p := 1366) (by decide +kernel))
theorem o_X12_hold : MOK m_X12_hold := MOKi (tbG_at (p := 2078) (by decide +kernel)) (tbG_at (p := 10) (by decide +kernel)) (by decide +kernel) rfl rfl (tbG_at (p := 2076) (by decide +kernel)) (tbG_at (p := 2077) (by decide +kernel))
theorem o_X11_report : MOK m_X11_report := MOKi (tbG_at (p := 1379) (by decide +kernel)) (tbG_at (p := 1) (by decide +kernel)) (by decide +kernel) rfl rfl (tbG_at (p := 1377) (by decide +kernel)) (tbG_at (p := 1378) (by decide +kernel))
theorem o_L_report : MOK m_L_report := MOKh (tbG_at (p := 1375) (by decide +kernel)) (tbG_at (p := 0) (by decide +kernel)) (by decide +kernel) rfl (by decide) (tbG_at (p := 1374) (by decide +kernel))
theorem o_X12_report : MOK m_X12_report := MOKi (tbG_at (p := 2086) (by decide +kernel)) (tbG_at (p := 10) (by decide +kernel)) (by decide +kernel) rfl rfl (tbG_at (p := 2084) (by decide +kernel)) (tbG_at (p := 2085) (by decide +kernel))
theorem o_X11_change : MOK m_X11_change := MOKi (tbG_at (p := 1387) (by decide +kernel)) (tbG_at (p := 1) (by decide +kernel)) (by decide +kernel) rfl rfl (tbG_at (p := 1385) (by decide +kernel)) (tbG_at (p := 1386) (by decide +kernel))
theorem o_L_change : MOK m_L_change := MOKh (tbG_at (p := 1383) (by decide +kernel)) (tbG_at (p := 0) (by decide +kernel)) (by decide +kernel) rfl (by decide) (tbG_at (p := 1382) (by decide +kernel))
theorem o_X12_change : MOK m_X12_change := MOKi (tbG_at (p := 2094) (by decide +kernel)) (tbG_at (p := 10) (by decide +kernel)) (by decide +kernel) rfl rfl (tbG_at (p := 2092) (by decide +kernel)) (tbG_at (p := 2093) (by decide +kernel))
theorem o_X11_commit : MOK m_X11_commit := MOKi (tbG_at (p := 1395) (by decide +kernel)) (tbG_at (p := 1) (by decide +kernel)) (by decide +kernel) rfl rfl (tbG_at (p := 1393) (by decide +kernel)) (tbG_at (p := 1394) (by decide +kernel))
theorem o_L_commit : MOK m_L_commit := MOKh (tbG_at (p := 1391) (by decide +kernel)) (tbG_at (p := 0) (by decide +kernel)) (by decide +kernel) rfl (by decide) (tbG_at (p := 1390) (by decide +kernel))
theorem o_X12_commit : MOK m_X12_commit := MOKi (tbG_at (p := 2102) (by decide +kernel)) (tbG_at (p := 10) (by decide +kernel)) (by decide +kernel) rfl rfl (tbG_at (p := 2100) (by decide +kernel)) (tbG_at (p := 2101) (by decide +kernel))
theorem o_X6_nameOf : MOK m_X6_nameOf := MOKi (tbG_at (p := 632) (by decide +kernel)) (tbG_at (p := 5) (by decide +kernel)) (by decide +kernel) rfl rfl (tbG_at (p := 630) (by decide +kernel)) (tbG_at (p := 631) (by decide +kernel))
theorem o_X11_writeByte : MOK m_X11_writeByte := MOKi (tbG_at (p := 640) (by decide +kernel)) (tbG_at (p := 1) (by decide +kernel)) (by decide +kernel) rfl rfl (tbG_at (p := 639) (by decide +kernel)) (tbG_atS (p := 10) (by decide +kernel))
theorem o_X11_writeName : MOK m_X11_writeName := MOKi (tbG_at (p := 636) (by decide +kernel)) (tbG_at (p := 1) (by decide +kernel)) (by decide +kernel) rfl rfl (tbG_at (p := 635) (by decide +kernel)) (tbG_atS (p := 9) (by decide +kernel))
theorem o_X11_writeReport : MOK m_X11_writeReport := MOKi (tbG_at (p := 628) (by decide +kernel)) (tbG_at (p := 1) (by decide +kernel)) (by decide +kernel) rfl rfl (tbG_at (p := 626) (by decide +kernel)) (tbG_at (p := 627) (by decide +kernel))
theorem o_X12_tell : MOK m_X12_tell := MOKi (tbG_at (p := 2157) (by decide +kernel)) (tbG_at (p := 10) (by decide +kernel)) (by decide +kernel) rfl rfl (tbG_at (p := 2156) (by decide +kernel)) (tbG_atS (p := 126) (by decide +kernel))
theorem o_X12_tellName : MOK m_X12_tellName := MOKi (tbG_at (p := 2152) (by decide +kernel)) (tbG_at (p := 10) (by decide +kernel)) (by decide +kernel) rfl rfl (tbG_at (p := 2151) (by decide +kernel)) (tbG_atS (p := 125) (by decide +kernel))
theorem o_X12_writeReport : MOK m_X12_writeReport := MOKi (tbG_at (p := 2148) (by decide +kernel)) (tbG_at (p := 10) (by decide +kernel)) (by decide +kernel) rfl rfl (tbG_at (p := 2146) (by decide +kernel)) (tbG_at (p := 2147) (by decide +kernel))
theorem o_X11_reportByte : MOK m_X11_reportByte := MOKi (tbG_at (p := 1403) (by decide +kernel)) (tbG_at (p := 1) (by decide +kernel)) (by decide +kernel) rfl rfl (tbG_at (p := 1401) (by decide +kernel)) (tbG_at (p := 1402) (by decide +kernel))
theorem o_L_reportByte : MOK m_L_reportByte := MOKh (tbG_at (p := 1399) (by decide +kernel)) (tbG_at (p := 0) (by decide +kernel)) (by decide +kernel) rfl (by decide) (tbG_at (p := 1398) (by decide +kernel))
theorem o_X12_reportByte : MOK m_X12_reportByte := MOKi (tbG_at (p := 2161) (by decide +kernel)) (tbG_at (p := 10) (by decide +kernel)) (by decide +kernel) rfl rfl (tbG_at (p := 2159) (by decide +kernel)) (tbG_at (p := 2160) (by decide +kernel))
theorem o_X4_takeBack : MOK m_X4_takeBack := MOKi (tbG_at (p := 649) (by decide +kernel)) (tbG_at (p := 7) (by decide +kernel)) (by decide +kernel) rfl rfl (tbG_at (p := 647) (by decide +kernel)) (tbG_at (p := 648) (by decide +kernel))
theorem o_X11_undo : MOK m_X11_undo := MOKi (tbG_at (p := 645) (by decide +kernel)) (tbG_at (p := 1) (by decide +kernel)) (by decide +kernel) rfl rfl (tbG_at (p := 643) (by decide +kernel)) (tbG_at (p := 644) (by decide +kernel))
theorem o_X12_undo : MOK m_X12_undo := MOKi (tbG_at (p := 1579) (by decide +kernel)) (tbG_at (p := 10) (by decide +kernel)) (by decide +kernel) rfl rfl (tbG_at (p := 1577) (by decide +kernel)) (tbG_at (p := 1578) (by decide +kernel))
theorem o_X11_save : MOK m_X11_save := MOKi (tbG_at (p := 657) (by decide +kernel)) (tbG_at (p := 1) (by decide +kernel)) (by decide +kernel) rfl rfl (tbG_at (p := 655) (by decide +kernel)) (tbG_at (p := 656) (by decide +kernel))
theorem o_X12_save : MOK m_X12_save := MOKi (tbG_at (p := 1583) (by decide +kernel)) (tbG_at (p := 10) (by decide +kernel)) (by decide +kernel) rfl rfl (tbG_at (p := 1581) (by decide +kernel)) (tbG_at (p := 1582) (by decide +kernel))
theorem o_X11_restore : MOK m_X11_restore := MOKi (tbG_at (p := 1410) (by decide +kernel)) (tbG_at (p := 1) (by decide +kernel)) (by decide +kernel) rfl rfl (tbG_at (p := 1408) (by decide +kernel)) (tbG_at (p := 1409) (by decide +kernel))
theorem o_L_restore : MOK m_L_restore := MOKh (tbG_at (p := 1406) (by decide +kernel)) (tbG_at (p := 0) (by decide +kernel)) (by decide +kernel) rfl (by decide) (tbG_at (p := 1405) (by decide +kernel))
theorem o_X12_restore : MOK m_X12_restore := MOKi (tbG_at (p := 1587) (by decide +kernel)) (tbG_at (p := 10) (by decide +kernel)) (by decide +kernel) rfl rfl (tbG_at (p := 1585) (by decide +kernel)) (tbG_at (p := 1586) (by decide +kernel))
def c_X11_changesIn : Cd := [
  [(0, .iload_n 1, 1, [], []), (1, .invokestatic 250, 3, [1, 1, 0, 0, 1, 1286], [m_X11_needAhead]), (4, .aload_n 0, 1, [], []), (5, .getfield 32, 3, [8, 2, 3, 368], []), (8, .aload_n 0, 1, [], []), (9, .getfield 24, 3, [8, 1, 3, 367], []), (12, .invokevirtual 253, 3, [0, 1, 0, 6, 0, 548], [m_X8_copyFrom]), (15, .aload_n 0, 1, [], [])],
  [(16, .getfield 32, 3, [8, 2, 3, 368], []), (19, .iload_n 1, 1, [], []), (20, .invokevirtual 265, 3, [0, 1, 1, 6, 0, 1303], [m_X8_changesWithin]), (23, .ireturn, 1, [1], [])]]
theorem k_X11_changesIn : CdOk m_X11_changesIn c_X11_changesIn := ⟨by decide +kernel, allM_of ⟨o_X11_needAhead, ⟨o_X8_copyFrom, ⟨o_X8_changesWithin, trivial⟩⟩⟩⟩
def c_L_changesIn : Cd := [
  [(0, .aload_n 2, 1, [], []), (1, .iconst 0, 1, [], []), (2, .aload_n 0, 1, [], []), (3, .iload_n 1, 1, [], []), (4, .invokevirtual 90, 3, [0, 1, 1, 8, 1, 1299, 0, 0, 13, 3, 0, 0], [m_X11_changesIn]), (7, .i2l, 1, [], []), (8, .lastore, 1, [], []), (9, .goto 6, 3, [15], []), (13, .iconst 1, 1, [], []), (14, .ireturn, 1, [1], []), (15, .iconst 0, 1, [], [])],
  [(16, .ireturn, 1, [1], [])]]
theorem k_L_changesIn : CdOk m_L_changesIn c_L_changesIn := ⟨by decide +kernel, allM_of ⟨o_X11_changesIn, trivial⟩⟩
def c_X12_changesIn : Cd := [
  [(0, .aload_n 0, 1, [], []), (1, .iload_n 1, 1, [], []), (2, .i2l, 1, [], []), (3, .lconst 0, 1, [], []), (4, .ldc2_w 393, 3, [2000, 1953], []), (7, .invokestatic 87, 3, [1, 3, 1, 0, 0, 1565], [m_X12_isIn]), (10, .invokevirtual 79, 3, [0, 1, 1, 9, 0, 1550], [m_X12_goes]), (13, .ifCond .ne 5, 3, [18], [])],
  [(16, .iconst 0, 1, [], []), (17, .ireturn, 1, [1], []), (18, .aload_n 0, 1, [], []), (19, .invokevirtual 395, 3, [0, 0, 0, 9, 0, 1954], [m_X12_thinks]), (22, .aload_n 0, 1, [], []), (23, .getfield 350, 3, [9, 27, 0, 1448], []), (26, .istore_n 2, 1, [], []), (27, .iconst 0, 1, [], []), (28, .istore_n 3, 1, [], []), (29, .iload_n 3, 1, [], []), (30, .iload_n 1, 1, [], []), (31, .if_icmp .ge 13, 3, [44], [])],
  [(34, .aload_n 0, 1, [], []), (35, .invokevirtual 390, 3, [0, 0, 0, 9, 0, 1962], [m_X12_minute]), (38, .iinc 3 1, 3, [], []), (41, .goto (-12), 3, [29], []), (44, .aload_n 0, 1, [], []), (45, .invokevirtual 401, 3, [0, 0, 0, 9, 0, 2006], [m_X12_thinksNoMore])],
  [(48, .aload_n 0, 1, [], []), (49, .getfield 350, 3, [9, 27, 0, 1448], []), (52, .iload_n 2, 1, [], []), (53, .isub, 1, [], []), (54, .ireturn, 1, [1], [])]]
theorem k_X12_changesIn : CdOk m_X12_changesIn c_X12_changesIn := ⟨by decide +kernel, allM_of ⟨o_X12_isIn, ⟨o_X12_goes, ⟨o_X12_thinks, ⟨o_X12_minute, ⟨o_X12_thinksNoMore, trivial⟩⟩⟩⟩⟩⟩
def c_X11_needMeasure : Cd := [
  [(0, .iload_n 0, 1, [], []), (1, .ifCond .lt 10, 3, [11], []), (4, .iload_n 0, 1, [], []), (5, .sipush 999, 3, [], []), (8, .if_icmp .le 11, 3, [19], []), (11, .new 86, 3, [1, 88, 757, 766], [])],
  [(19, .return_, 1, [], [])]]
theorem k_X11_needMeasure : CdOk m_X11_needMeasure c_X11_needMeasure := ⟨by decide +kernel, allM_of trivial⟩
def c_X11_wouldStop : Cd := [
  [(0, .aload_n 0, 1, [], []), (1, .iload_n 1, 1, [], []), (2, .invokevirtual 162, 3, [0, 1, 0, 8, 1, 1189], [m_X11_needMember]), (5, .iload_n 2, 1, [], []), (6, .invokestatic 268, 3, [1, 1, 0, 0, 1, 1314], [m_X11_needMeasure]), (9, .aload_n 0, 1, [], []), (10, .getfield 24, 3, [8, 1, 3, 367], []), (13, .invokevirtual 271, 3, [0, 0, 1, 6, 0, 1317], [m_X8_isActive])],
  [(16, .ifCond .ne 5, 3, [21], []), (19, .iconst 0, 1, [], []), (20, .ireturn, 1, [6], []), (21, .aload_n 0, 1, [], []), (22, .getfield 32, 3, [8, 2, 3, 368], []), (25, .aload_n 0, 1, [], []), (26, .getfield 24, 3, [8, 1, 3, 367], []), (29, .invokevirtual 253, 3, [0, 1, 0, 6, 0, 548], [m_X8_copyFrom])],
  [(32, .aload_n 0, 1, [], []), (33, .getfield 32, 3, [8, 2, 3, 368], []), (36, .getfield 274, 3, [6, 6, 3, 236], []), (39, .iload_n 1, 1, [], []), (40, .iload_n 2, 1, [], []), (41, .iastore, 1, [], []), (42, .aload_n 0, 1, [], []), (43, .getfield 32, 3, [8, 2, 3, 368], []), (46, .invokevirtual 277, 3, [0, 0, 1, 6, 0, 1318], [m_X8_passMinute])],
  [(49, .pop, 1, [], []), (50, .aload_n 0, 1, [], []), (51, .getfield 32, 3, [8, 2, 3, 368], []), (54, .getfield 280, 3, [6, 9, 0, 242], []), (57, .iconst 3, 1, [], []), (58, .if_icmp .ne 7, 3, [65], []), (61, .iconst 1, 1, [], []), (62, .goto 4, 3, [66], [])],
  [(65, .iconst 0, 1, [], []), (66, .ireturn, 1, [6], [])]]
theorem k_X11_wouldStop : CdOk m_X11_wouldStop c_X11_wouldStop := ⟨by decide +kernel, allM_of ⟨o_X11_needMember, ⟨o_X11_needMeasure, ⟨o_X8_isActive, ⟨o_X8_copyFrom, ⟨o_X8_passMinute, trivial⟩⟩⟩⟩⟩⟩
def c_L_wouldStop : Cd := [
  [(0, .aload_n 3, 1, [], []), (1, .iconst 0, 1, [], []), (2, .aload_n 0, 1, [], []), (3, .iload_n 1, 1, [], []), (4, .iload_n 2, 1, [], []), (5, .invokevirtual 93, 3, [0, 2, 1, 8, 2, 1310, 0, 0, 26, 4, 22, 4], [m_X11_wouldStop]), (8, .ifCond .eq 7, 3, [15], []), (11, .lconst 1, 1, [], []), (12, .goto 4, 3, [16], []), (15, .lconst 0, 1, [], [])],
  [(16, .lastore, 1, [], []), (17, .goto 11, 3, [28], []), (22, .iconst 1, 1, [], []), (23, .ireturn, 1, [1], []), (26, .iconst 2, 1, [], []), (27, .ireturn, 1, [1], []), (28, .iconst 0, 1, [], []), (29, .ireturn, 1, [1], [])]]
theorem k_L_wouldStop : CdOk m_L_wouldStop c_L_wouldStop := ⟨by decide +kernel, allM_of ⟨o_X11_wouldStop, trivial⟩⟩
def c_X12_wouldStop : Cd := [
  [(0, .aload_n 0, 1, [], []), (1, .aload_n 0, 1, [], []), (2, .iload_n 1, 1, [], []), (3, .invokevirtual 278, 3, [0, 1, 1, 9, 0, 1779], [m_X12_isMember]), (6, .iload_n 2, 1, [], []), (7, .i2l, 1, [], []), (8, .lconst 0, 1, [], []), (9, .ldc2_w 407, 3, [999, 2030], []), (12, .invokestatic 87, 3, [1, 3, 1, 0, 0, 1565], [m_X12_isIn]), (15, .invokevirtual 283, 3, [0, 2, 1, 9, 0, 1784], [m_X12_goesBoth])],
  [(18, .ifCond .ne 5, 3, [23], []), (21, .iconst 0, 1, [], []), (22, .ireturn, 1, [6], []), (23, .aload_n 0, 1, [], []), (24, .invokevirtual 395, 3, [0, 0, 0, 9, 0, 1954], [m_X12_thinks]), (27, .aload_n 0, 1, [], []), (28, .invokevirtual 372, 3, [0, 0, 1, 9, 0, 1974], [m_X12_isGoing]), (31, .istore_n 3, 1, [], [])],
  [(32, .aload_n 0, 1, [], []), (33, .iload_n 1, 1, [], []), (34, .iconst 4, 1, [], []), (35, .iload_n 2, 1, [], []), (36, .invokevirtual 196, 3, [0, 3, 0, 9, 0, 1697], [m_X12_lays]), (39, .aload_n 0, 1, [], []), (40, .invokevirtual 390, 3, [0, 0, 0, 9, 0, 1962], [m_X12_minute]), (43, .iload_n 3, 1, [], []), (44, .ifCond .eq 18, 3, [62], []), (47, .aload_n 0, 1, [], [])],
  [(48, .getfield 20, 3, [9, 13, 3, 1434], []), (51, .bipush 12, 2, [], []), (53, .iaload, 1, [], []), (54, .iconst 3, 1, [], []), (55, .if_icmp .ne 7, 3, [62], []), (58, .iconst 1, 1, [], []), (59, .goto 4, 3, [63], []), (62, .iconst 0, 1, [], []), (63, .istore 4, 2, [], [])],
  [(65, .aload_n 0, 1, [], []), (66, .invokevirtual 401, 3, [0, 0, 0, 9, 0, 2006], [m_X12_thinksNoMore]), (69, .iload 4, 2, [], []), (71, .ireturn, 1, [6], [])]]
theorem k_X12_wouldStop : CdOk m_X12_wouldStop c_X12_wouldStop := ⟨by decide +kernel, allM_of ⟨o_X12_isMember, ⟨o_X12_isIn, ⟨o_X12_goesBoth, ⟨o_X12_thinks, ⟨o_X12_isGoing, ⟨o_X12_lays, ⟨o_X12_minute, ⟨o_X12_thinksNoMore, trivial⟩⟩⟩⟩⟩⟩⟩⟩⟩
def c_X11_events : Cd := [
  [(0, .aload_n 0, 1, [], []), (1, .getfield 24, 3, [8, 1, 3, 367], []), (4, .getfield 283, 3, [6, 15, 3, 250], []), (7, .getfield 287, 3, [1, 1, 0, 208], []), (10, .ireturn, 1, [1], [])]]
theorem k_X11_events : CdOk m_X11_events c_X11_events := ⟨by decide +kernel, allM_of trivial⟩
def c_X12_keptEvents : Cd := [
  [(0, .aload_n 0, 1, [], []), (1, .getfield 20, 3, [9, 13, 3, 1434], []), (4, .bipush 19, 2, [], []), (6, .iaload, 1, [], []), (7, .bipush 30, 2, [], []), (9, .if_icmp .ge 13, 3, [22], []), (12, .aload_n 0, 1, [], []), (13, .getfield 20, 3, [9, 13, 3, 1434], [])],
  [(16, .bipush 19, 2, [], []), (18, .iaload, 1, [], []), (19, .goto 5, 3, [24], []), (22, .bipush 30, 2, [], []), (24, .ireturn, 1, [1], [])]]
theorem k_X12_keptEvents : CdOk m_X12_keptEvents c_X12_keptEvents := ⟨by decide +kernel, allM_of trivial⟩
def c_X12_events : Cd := [
  [(0, .aload_n 0, 1, [], []), (1, .iconst 0, 1, [], []), (2, .putfield 69, 3, [9, 0, 0, 1421], []), (5, .aload_n 0, 1, [], []), (6, .invokevirtual 320, 3, [0, 0, 1, 9, 0, 1871], [m_X12_keptEvents]), (9, .ireturn, 1, [1], [])]]
theorem k_X12_events : CdOk m_X12_events c_X12_events := ⟨by decide +kernel, allM_of ⟨o_X12_keptEvents, trivial⟩⟩
def c_X3_cellOf : Cd := [
  [(0, .aload_n 0, 1, [], []), (1, .getfield 19, 3, [1, 2, 0, 209], []), (4, .iload_n 1, 1, [], []), (5, .isub, 1, [], []), (6, .bipush 30, 2, [], []), (8, .invokestatic 32, 3, [13, 1330], []), (11, .istore_n 3, 1, [], []), (12, .aload_n 0, 1, [], []), (13, .getfield 11, 3, [1, 0, 3, 205], [])],
  [(16, .iload_n 3, 1, [], []), (17, .iconst 4, 1, [], []), (18, .imul, 1, [], []), (19, .iload_n 2, 1, [], []), (20, .iadd, 1, [], []), (21, .iaload, 1, [], []), (22, .ireturn, 1, [1], [])]]
theorem k_X3_cellOf : CdOk m_X3_cellOf c_X3_cellOf := ⟨by decide +kernel, allM_of trivial⟩
def c_X11_event : Cd := [
  [(0, .iload_n 1, 1, [], []), (1, .ifCond .lt 17, 3, [18], []), (4, .iload_n 1, 1, [], []), (5, .aload_n 0, 1, [], []), (6, .getfield 24, 3, [8, 1, 3, 367], []), (9, .getfield 283, 3, [6, 15, 3, 250], []), (12, .getfield 287, 3, [1, 1, 0, 208], []), (15, .if_icmp .lt 11, 3, [26], [])],
  [(18, .new 178, 3, [2, 180, 1121, 1130], []), (26, .iload_n 2, 1, [], []), (27, .ifCond .lt 8, 3, [35], []), (30, .iload_n 2, 1, [], []), (31, .iconst 4, 1, [], [])],
  [(32, .if_icmp .lt 11, 3, [43], []), (35, .new 86, 3, [1, 88, 757, 766], []), (43, .aload_n 0, 1, [], []), (44, .getfield 24, 3, [8, 1, 3, 367], []), (47, .getfield 283, 3, [6, 15, 3, 250], [])],
  [(50, .iload_n 1, 1, [], []), (51, .iload_n 2, 1, [], []), (52, .invokevirtual 290, 3, [0, 2, 1, 1, 0, 1326], [m_X3_cellOf]), (55, .ireturn, 1, [1], [])]]
theorem k_X11_event : CdOk m_X11_event c_X11_event := ⟨by decide +kernel, allM_of ⟨o_X3_cellOf, trivial⟩⟩
def c_L_event : Cd := [
  [(0, .aload_n 3, 1, [], []), (1, .iconst 0, 1, [], []), (2, .aload_n 0, 1, [], []), (3, .iload_n 1, 1, [], []), (4, .iload_n 2, 1, [], []), (5, .invokevirtual 96, 3, [0, 2, 1, 8, 1, 1322, 0, 0, 19, 4, 15, 4], [m_X11_event]), (8, .i2l, 1, [], []), (9, .lastore, 1, [], []), (10, .goto 11, 3, [21], []), (15, .iconst 1, 1, [], [])],
  [(16, .ireturn, 1, [1], []), (19, .iconst 2, 1, [], []), (20, .ireturn, 1, [1], []), (21, .iconst 0, 1, [], []), (22, .ireturn, 1, [1], [])]]
theorem k_L_event : CdOk m_L_event c_L_event := ⟨by decide +kernel, allM_of ⟨o_X11_event, trivial⟩⟩
def c_X12_event : Cd := [
  [(0, .aload_n 0, 1, [], []), (1, .iload_n 1, 1, [], []), (2, .i2l, 1, [], []), (3, .lconst 0, 1, [], []), (4, .aload_n 0, 1, [], []), (5, .invokevirtual 320, 3, [0, 0, 1, 9, 0, 1871], [m_X12_keptEvents]), (8, .iconst 1, 1, [], []), (9, .isub, 1, [], []), (10, .i2l, 1, [], []), (11, .invokestatic 87, 3, [1, 3, 1, 0, 0, 1565], [m_X12_isIn]), (14, .iload_n 2, 1, [], []), (15, .i2l, 1, [], [])],
  [(16, .lconst 0, 1, [], []), (17, .ldc2_w 323, 3, [3, 1879], []), (20, .invokestatic 87, 3, [1, 3, 1, 0, 0, 1565], [m_X12_isIn]), (23, .invokevirtual 283, 3, [0, 2, 1, 9, 0, 1784], [m_X12_goesBoth]), (26, .ifCond .eq 33, 3, [59], []), (29, .aload_n 0, 1, [], []), (30, .getfield 20, 3, [9, 13, 3, 1434], [])],
  [(33, .sipush 133, 3, [], []), (36, .iconst 4, 1, [], []), (37, .aload_n 0, 1, [], []), (38, .getfield 20, 3, [9, 13, 3, 1434], []), (41, .bipush 19, 2, [], []), (43, .iaload, 1, [], []), (44, .iconst 1, 1, [], []), (45, .isub, 1, [], []), (46, .iload_n 1, 1, [], []), (47, .isub, 1, [], [])],
  [(48, .bipush 30, 2, [], []), (50, .irem, 1, [], []), (51, .imul, 1, [], []), (52, .iadd, 1, [], []), (53, .iload_n 2, 1, [], []), (54, .iadd, 1, [], []), (55, .iaload, 1, [], []), (56, .goto 4, 3, [60], []), (59, .iconst 0, 1, [], []), (60, .ireturn, 1, [1], [])]]
theorem k_X12_event : CdOk m_X12_event c_X12_event := ⟨by decide +kernel, allM_of ⟨o_X12_keptEvents, ⟨o_X12_isIn, ⟨o_X12_isIn, ⟨o_X12_goesBoth, trivial⟩⟩⟩⟩⟩
def c_X11_pass : Cd := [
  [(0, .aload_n 0, 1, [], []), (1, .getfield 24, 3, [8, 1, 3, 367], []), (4, .iload_n 1, 1, [], []), (5, .invokevirtual 293, 3, [0, 1, 1, 6, 0, 1338], [m_X8_canPass]), (8, .ifCond .ne 11, 3, [19], []), (11, .new 86, 3, [1, 88, 757, 766], [])],
  [(19, .aload_n 0, 1, [], []), (20, .getfield 48, 3, [8, 6, 3, 372], []), (23, .aload_n 0, 1, [], []), (24, .getfield 24, 3, [8, 1, 3, 367], []), (27, .invokevirtual 112, 3, [0, 1, 0, 2, 0, 1029], [m_X4_keep]), (30, .aload_n 0, 1, [], []), (31, .getfield 24, 3, [8, 1, 3, 367], [])],
  [(34, .iload_n 1, 1, [], []), (35, .invokevirtual 296, 3, [0, 1, 1, 6, 0, 1339], [m_X8_passMinutes]), (38, .ireturn, 1, [1], [])]]
theorem k_X11_pass : CdOk m_X11_pass c_X11_pass := ⟨by decide +kernel, allM_of ⟨o_X8_canPass, ⟨o_X4_keep, ⟨o_X8_passMinutes, trivial⟩⟩⟩⟩
def c_L_pass : Cd := [
  [(0, .aload_n 2, 1, [], []), (1, .iconst 0, 1, [], []), (2, .aload_n 0, 1, [], []), (3, .iload_n 1, 1, [], []), (4, .invokevirtual 99, 3, [0, 1, 1, 8, 1, 1334, 0, 0, 13, 3, 0, 0], [m_X11_pass]), (7, .i2l, 1, [], []), (8, .lastore, 1, [], []), (9, .goto 6, 3, [15], []), (13, .iconst 1, 1, [], []), (14, .ireturn, 1, [1], []), (15, .iconst 0, 1, [], [])],
  [(16, .ireturn, 1, [1], [])]]
theorem k_L_pass : CdOk m_L_pass c_L_pass := ⟨by decide +kernel, allM_of ⟨o_X11_pass, trivial⟩⟩
def c_X12_kept : Cd := [
  [(0, .aload_n 0, 1, [], []), (1, .invokevirtual 409, 3, [0, 0, 0, 9, 0, 2047], [m_X12_keeps]), (4, .iload_n 1, 1, [], []), (5, .ireturn, 1, [1], [])]]
theorem k_X12_kept : CdOk m_X12_kept c_X12_kept := ⟨by decide +kernel, allM_of ⟨o_X12_keeps, trivial⟩⟩
def c_X12_pass : Cd := [
  [(0, .aload_n 0, 1, [], []), (1, .aload_n 0, 1, [], []), (2, .iload_n 1, 1, [], []), (3, .invokevirtual 412, 3, [0, 1, 1, 9, 0, 2035], [m_X12_mayPass]), (6, .invokevirtual 79, 3, [0, 1, 1, 9, 0, 1550], [m_X12_goes]), (9, .ifCond .ne 5, 3, [14], []), (12, .iconst 0, 1, [], []), (13, .ireturn, 1, [1], []), (14, .aload_n 0, 1, [], []), (15, .invokevirtual 256, 3, [0, 0, 0, 9, 0, 1610], [m_X12_laysAside])],
  [(18, .aload_n 0, 1, [], []), (19, .aload_n 0, 1, [], []), (20, .iload_n 1, 1, [], []), (21, .invokevirtual 415, 3, [0, 1, 1, 9, 0, 2039], [m_X12_passes]), (24, .invokevirtual 418, 3, [0, 1, 1, 9, 0, 2043], [m_X12_kept]), (27, .ireturn, 1, [1], [])]]
theorem k_X12_pass : CdOk m_X12_pass c_X12_pass := ⟨by decide +kernel, allM_of ⟨o_X12_mayPass, ⟨o_X12_goes, ⟨o_X12_laysAside, ⟨o_X12_passes, ⟨o_X12_kept, trivial⟩⟩⟩⟩⟩⟩
def c_X11_start : Cd := [
  [(0, .aload_n 0, 1, [], []), (1, .iload_n 1, 1, [], []), (2, .invokevirtual 139, 3, [0, 1, 0, 8, 1, 1117], [m_X11_needVersion]), (5, .aload_n 0, 1, [], []), (6, .getfield 24, 3, [8, 1, 3, 367], []), (9, .invokevirtual 299, 3, [0, 0, 1, 6, 0, 1347], [m_X8_canStart]), (12, .ifCond .ne 11, 3, [23], []), (15, .new 79, 3, [0, 81, 682, 723], [])],
  [(23, .aload_n 0, 1, [], []), (24, .getfield 48, 3, [8, 6, 3, 372], []), (27, .aload_n 0, 1, [], []), (28, .getfield 24, 3, [8, 1, 3, 367], []), (31, .invokevirtual 112, 3, [0, 1, 0, 2, 0, 1029], [m_X4_keep])],
  [(34, .aload_n 0, 1, [], []), (35, .getfield 24, 3, [8, 1, 3, 367], []), (38, .iload_n 1, 1, [], []), (39, .invokevirtual 302, 3, [0, 1, 1, 6, 0, 1348], [m_X8_startPlan]), (42, .ireturn, 1, [1], [])]]
theorem k_X11_start : CdOk m_X11_start c_X11_start := ⟨by decide +kernel, allM_of ⟨o_X11_needVersion, ⟨o_X8_canStart, ⟨o_X4_keep, ⟨o_X8_startPlan, trivial⟩⟩⟩⟩⟩
def c_L_start : Cd := [
  [(0, .aload_n 2, 1, [], []), (1, .iconst 0, 1, [], []), (2, .aload_n 0, 1, [], []), (3, .iload_n 1, 1, [], []), (4, .invokevirtual 102, 3, [0, 1, 1, 8, 2, 1343, 16, 3, 0, 0, 13, 3], [m_X11_start]), (7, .i2l, 1, [], []), (8, .lastore, 1, [], []), (9, .goto 9, 3, [18], []), (13, .iconst 1, 1, [], []), (14, .ireturn, 1, [1], [])],
  [(16, .iconst 2, 1, [], []), (17, .ireturn, 1, [1], []), (18, .iconst 0, 1, [], []), (19, .ireturn, 1, [1], [])]]
theorem k_L_start : CdOk m_L_start c_L_start := ⟨by decide +kernel, allM_of ⟨o_X11_start, trivial⟩⟩
def c_X12_start : Cd := [
  [(0, .aload_n 0, 1, [], []), (1, .aload_n 0, 1, [], []), (2, .iload_n 1, 1, [], []), (3, .invokevirtual 267, 3, [0, 1, 1, 9, 0, 1746], [m_X12_isVersion]), (6, .aload_n 0, 1, [], []), (7, .invokevirtual 420, 3, [0, 0, 1, 9, 0, 2055], [m_X12_mayStart]), (10, .invokevirtual 283, 3, [0, 2, 1, 9, 0, 1784], [m_X12_goesBoth]), (13, .ifCond .ne 5, 3, [18], [])],
  [(16, .iconst 0, 1, [], []), (17, .ireturn, 1, [1], []), (18, .aload_n 0, 1, [], []), (19, .invokevirtual 256, 3, [0, 0, 0, 9, 0, 1610], [m_X12_laysAside]), (22, .aload_n 0, 1, [], []), (23, .aload_n 0, 1, [], []), (24, .iload_n 1, 1, [], []), (25, .invokevirtual 423, 3, [0, 1, 1, 9, 0, 2059], [m_X12_starts]), (28, .invokevirtual 418, 3, [0, 1, 1, 9, 0, 2043], [m_X12_kept]), (31, .ireturn, 1, [1], [])]]
theorem k_X12_start : CdOk m_X12_start c_X12_start := ⟨by decide +kernel, allM_of ⟨o_X12_isVersion, ⟨o_X12_mayStart, ⟨o_X12_goesBoth, ⟨o_X12_laysAside, ⟨o_X12_starts, ⟨o_X12_kept, trivial⟩⟩⟩⟩⟩⟩⟩
def c_X11_stop : Cd := [
  [(0, .aload_n 0, 1, [], []), (1, .getfield 24, 3, [8, 1, 3, 367], []), (4, .invokevirtual 271, 3, [0, 0, 1, 6, 0, 1317], [m_X8_isActive]), (7, .ifCond .ne 11, 3, [18], []), (10, .new 79, 3, [0, 81, 682, 723], [])],
  [(18, .aload_n 0, 1, [], []), (19, .getfield 48, 3, [8, 6, 3, 372], []), (22, .aload_n 0, 1, [], []), (23, .getfield 24, 3, [8, 1, 3, 367], []), (26, .invokevirtual 112, 3, [0, 1, 0, 2, 0, 1029], [m_X4_keep]), (29, .aload_n 0, 1, [], []), (30, .getfield 24, 3, [8, 1, 3, 367], [])],
  [(33, .invokevirtual 305, 3, [0, 0, 1, 6, 0, 1356], [m_X8_stopPlan]), (36, .ireturn, 1, [1], [])]]
theorem k_X11_stop : CdOk m_X11_stop c_X11_stop := ⟨by decide +kernel, allM_of ⟨o_X8_isActive, ⟨o_X4_keep, ⟨o_X8_stopPlan, trivial⟩⟩⟩⟩
def c_L_stop : Cd := [
  [(0, .aload_n 1, 1, [], []), (1, .iconst 0, 1, [], []), (2, .aload_n 0, 1, [], []), (3, .invokevirtual 105, 3, [0, 0, 1, 8, 1, 1352, 12, 2, 0, 0, 0, 0], [m_X11_stop]), (6, .i2l, 1, [], []), (7, .lastore, 1, [], []), (8, .goto 6, 3, [14], []), (12, .iconst 1, 1, [], []), (13, .ireturn, 1, [1], []), (14, .iconst 0, 1, [], []), (15, .ireturn, 1, [1], [])]]
theorem k_L_stop : CdOk m_L_stop c_L_stop := ⟨by decide +kernel, allM_of ⟨o_X11_stop, trivial⟩⟩
def c_X12_stop : Cd := [
  [(0, .aload_n 0, 1, [], []), (1, .aload_n 0, 1, [], []), (2, .invokevirtual 372, 3, [0, 0, 1, 9, 0, 1974], [m_X12_isGoing]), (5, .invokevirtual 79, 3, [0, 1, 1, 9, 0, 1550], [m_X12_goes]), (8, .ifCond .ne 5, 3, [13], []), (11, .iconst 0, 1, [], []), (12, .ireturn, 1, [1], []), (13, .aload_n 0, 1, [], []), (14, .invokevirtual 256, 3, [0, 0, 0, 9, 0, 1610], [m_X12_laysAside])],
  [(17, .aload_n 0, 1, [], []), (18, .invokevirtual 375, 3, [0, 0, 0, 9, 0, 1978], [m_X12_stops]), (21, .aload_n 0, 1, [], []), (22, .aload_n 0, 1, [], []), (23, .getfield 20, 3, [9, 13, 3, 1434], []), (26, .bipush 15, 2, [], []), (28, .iaload, 1, [], []), (29, .invokevirtual 418, 3, [0, 1, 1, 9, 0, 2043], [m_X12_kept])],
  [(32, .ireturn, 1, [1], [])]]
theorem k_X12_stop : CdOk m_X12_stop c_X12_stop := ⟨by decide +kernel, allM_of ⟨o_X12_isGoing, ⟨o_X12_goes, ⟨o_X12_laysAside, ⟨o_X12_stops, ⟨o_X12_kept, trivial⟩⟩⟩⟩⟩⟩
def c_X11_go : Cd := [
  [(0, .aload_n 0, 1, [], []), (1, .getfield 24, 3, [8, 1, 3, 367], []), (4, .getfield 280, 3, [6, 9, 0, 242], []), (7, .iconst 3, 1, [], []), (8, .if_icmp .eq 11, 3, [19], []), (11, .new 79, 3, [0, 81, 682, 723], [])],
  [(19, .aload_n 0, 1, [], []), (20, .getfield 48, 3, [8, 6, 3, 372], []), (23, .aload_n 0, 1, [], []), (24, .getfield 24, 3, [8, 1, 3, 367], []), (27, .invokevirtual 112, 3, [0, 1, 0, 2, 0, 1029], [m_X4_keep]), (30, .aload_n 0, 1, [], []), (31, .getfield 24, 3, [8, 1, 3, 367], [])],
  [(34, .invokevirtual 308, 3, [0, 0, 1, 6, 0, 1364], [m_X8_resumePlan]), (37, .ireturn, 1, [1], [])]]
theorem k_X11_go : CdOk m_X11_go c_X11_go := ⟨by decide +kernel, allM_of ⟨o_X4_keep, ⟨o_X8_resumePlan, trivial⟩⟩⟩
def c_L_go : Cd := [
  [(0, .aload_n 1, 1, [], []), (1, .iconst 0, 1, [], []), (2, .aload_n 0, 1, [], []), (3, .invokevirtual 108, 3, [0, 0, 1, 8, 1, 1360, 12, 2, 0, 0, 0, 0], [m_X11_go]), (6, .i2l, 1, [], []), (7, .lastore, 1, [], []), (8, .goto 6, 3, [14], []), (12, .iconst 1, 1, [], []), (13, .ireturn, 1, [1], []), (14, .iconst 0, 1, [], []), (15, .ireturn, 1, [1], [])]]
theorem k_L_go : CdOk m_L_go c_L_go := ⟨by decide +kernel, allM_of ⟨o_X11_go, trivial⟩⟩
def c_X12_go : Cd := [
  [(0, .aload_n 0, 1, [], []), (1, .aload_n 0, 1, [], []), (2, .getfield 20, 3, [9, 13, 3, 1434], []), (5, .bipush 12, 2, [], []), (7, .iaload, 1, [], []), (8, .iconst 3, 1, [], []), (9, .if_icmp .ne 7, 3, [16], []), (12, .iconst 1, 1, [], []), (13, .goto 4, 3, [17], [])],
  [(16, .iconst 0, 1, [], []), (17, .invokevirtual 79, 3, [0, 1, 1, 9, 0, 1550], [m_X12_goes]), (20, .ifCond .ne 5, 3, [25], []), (23, .iconst 0, 1, [], []), (24, .ireturn, 1, [1], []), (25, .aload_n 0, 1, [], []), (26, .invokevirtual 256, 3, [0, 0, 0, 9, 0, 1610], [m_X12_laysAside]), (29, .aload_n 0, 1, [], []), (30, .aload_n 0, 1, [], []), (31, .invokevirtual 426, 3, [0, 0, 1, 9, 0, 2071], [m_X12_goesOn])],
  [(34, .invokevirtual 418, 3, [0, 1, 1, 9, 0, 2043], [m_X12_kept]), (37, .ireturn, 1, [1], [])]]
theorem k_X12_go : CdOk m_X12_go c_X12_go := ⟨by decide +kernel, allM_of ⟨o_X12_goes, ⟨o_X12_laysAside, ⟨o_X12_goesOn, ⟨o_X12_kept, trivial⟩⟩⟩⟩⟩
def c_X11_hold : Cd := [
  [(0, .aload_n 0, 1, [], []), (1, .iload_n 1, 1, [], []), (2, .invokevirtual 162, 3, [0, 1, 0, 8, 1, 1189], [m_X11_needMember]), (5, .aload_n 0, 1, [], []), (6, .getfield 24, 3, [8, 1, 3, 367], []), (9, .getfield 262, 3, [6, 8, 0, 240], []), (12, .iload_n 1, 1, [], []), (13, .invokestatic 145, 3, [1, 2, 1, 0, 0, 475], [m_X11_isIn])],
  [(16, .iload_n 2, 1, [], []), (17, .if_icmp .ne 11, 3, [28], []), (20, .new 79, 3, [0, 81, 682, 723], []), (28, .aload_n 0, 1, [], []), (29, .getfield 48, 3, [8, 6, 3, 372], [])],
  [(32, .aload_n 0, 1, [], []), (33, .getfield 24, 3, [8, 1, 3, 367], []), (36, .invokevirtual 112, 3, [0, 1, 0, 2, 0, 1029], [m_X4_keep]), (39, .aload_n 0, 1, [], []), (40, .getfield 24, 3, [8, 1, 3, 367], []), (43, .iload_n 1, 1, [], []), (44, .iload_n 2, 1, [], []), (45, .invokevirtual 311, 3, [0, 2, 1, 6, 0, 1372], [m_X8_setHeld])],
  [(48, .ireturn, 1, [1], [])]]
theorem k_X11_hold : CdOk m_X11_hold c_X11_hold := ⟨by decide +kernel, allM_of ⟨o_X11_needMember, ⟨o_X11_isIn, ⟨o_X4_keep, ⟨o_X8_setHeld, trivial⟩⟩⟩⟩⟩
def c_L_hold : Cd := [
  [(0, .aload_n 3, 1, [], []), (1, .iconst 0, 1, [], []), (2, .aload_n 0, 1, [], []), (3, .iload_n 1, 1, [], []), (4, .iload_n 2, 1, [], []), (5, .invokevirtual 111, 3, [0, 2, 1, 8, 2, 1368, 19, 4, 0, 0, 15, 4], [m_X11_hold]), (8, .i2l, 1, [], []), (9, .lastore, 1, [], []), (10, .goto 11, 3, [21], []), (15, .iconst 1, 1, [], [])],
  [(16, .ireturn, 1, [1], []), (19, .iconst 2, 1, [], []), (20, .ireturn, 1, [1], []), (21, .iconst 0, 1, [], []), (22, .ireturn, 1, [1], [])]]
theorem k_L_hold : CdOk m_L_hold c_L_hold := ⟨by decide +kernel, allM_of ⟨o_X11_hold, trivial⟩⟩
def c_X12_hold : Cd := [
  [(0, .aload_n 0, 1, [], []), (1, .iload_n 1, 1, [], []), (2, .invokevirtual 278, 3, [0, 1, 1, 9, 0, 1779], [m_X12_isMember]), (5, .istore_n 3, 1, [], []), (6, .aload_n 0, 1, [], []), (7, .iload_n 3, 1, [], []), (8, .iload_n 3, 1, [], []), (9, .ifCond .eq 20, 3, [29], []), (12, .aload_n 0, 1, [], []), (13, .iload_n 1, 1, [], []), (14, .iconst 5, 1, [], []), (15, .invokevirtual 151, 3, [0, 2, 1, 9, 0, 1689], [m_X12_of])],
  [(18, .iload_n 2, 1, [], []), (19, .invokestatic 72, 3, [1, 1, 1, 0, 0, 1554], [m_X12_truth]), (22, .if_icmp .eq 7, 3, [29], []), (25, .iconst 1, 1, [], []), (26, .goto 4, 3, [30], []), (29, .iconst 0, 1, [], []), (30, .invokevirtual 283, 3, [0, 2, 1, 9, 0, 1784], [m_X12_goesBoth])],
  [(33, .ifCond .ne 5, 3, [38], []), (36, .iconst 0, 1, [], []), (37, .ireturn, 1, [1], []), (38, .aload_n 0, 1, [], []), (39, .invokevirtual 256, 3, [0, 0, 0, 9, 0, 1610], [m_X12_laysAside]), (42, .aload_n 0, 1, [], []), (43, .aload_n 0, 1, [], []), (44, .iload_n 1, 1, [], []), (45, .iload_n 2, 1, [], []), (46, .invokevirtual 429, 3, [0, 2, 1, 9, 0, 2079], [m_X12_holds])],
  [(49, .invokevirtual 418, 3, [0, 1, 1, 9, 0, 2043], [m_X12_kept]), (52, .ireturn, 1, [1], [])]]
theorem k_X12_hold : CdOk m_X12_hold c_X12_hold := ⟨by decide +kernel, allM_of ⟨o_X12_isMember, ⟨o_X12_of, ⟨o_X12_truth, ⟨o_X12_goesBoth, ⟨o_X12_laysAside, ⟨o_X12_holds, ⟨o_X12_kept, trivial⟩⟩⟩⟩⟩⟩⟩⟩
def c_X11_report : Cd := [
  [(0, .aload_n 0, 1, [], []), (1, .iload_n 1, 1, [], []), (2, .invokevirtual 162, 3, [0, 1, 0, 8, 1, 1189], [m_X11_needMember]), (5, .iload_n 2, 1, [], []), (6, .invokestatic 268, 3, [1, 1, 0, 0, 1, 1314], [m_X11_needMeasure]), (9, .aload_n 0, 1, [], []), (10, .getfield 24, 3, [8, 1, 3, 367], []), (13, .iload_n 1, 1, [], []), (14, .invokevirtual 315, 3, [0, 1, 1, 6, 0, 641], [m_X8_isUp])],
  [(17, .ifCond .ne 11, 3, [28], []), (20, .new 79, 3, [0, 81, 682, 723], []), (28, .aload_n 0, 1, [], []), (29, .getfield 48, 3, [8, 6, 3, 372], [])],
  [(32, .aload_n 0, 1, [], []), (33, .getfield 24, 3, [8, 1, 3, 367], []), (36, .invokevirtual 112, 3, [0, 1, 0, 2, 0, 1029], [m_X4_keep]), (39, .aload_n 0, 1, [], []), (40, .getfield 24, 3, [8, 1, 3, 367], []), (43, .iload_n 1, 1, [], []), (44, .iload_n 2, 1, [], []), (45, .invokevirtual 318, 3, [0, 2, 1, 6, 0, 1380], [m_X8_setMeasure])],
  [(48, .ireturn, 1, [1], [])]]
theorem k_X11_report : CdOk m_X11_report c_X11_report := ⟨by decide +kernel, allM_of ⟨o_X11_needMember, ⟨o_X11_needMeasure, ⟨o_X8_isUp, ⟨o_X4_keep, ⟨o_X8_setMeasure, trivial⟩⟩⟩⟩⟩⟩
def c_L_report : Cd := [
  [(0, .aload_n 3, 1, [], []), (1, .iconst 0, 1, [], []), (2, .aload_n 0, 1, [], []), (3, .iload_n 1, 1, [], []), (4, .iload_n 2, 1, [], []), (5, .invokevirtual 115, 3, [0, 2, 1, 8, 3, 1376, 23, 4, 19, 4, 15, 4], [m_X11_report]), (8, .i2l, 1, [], []), (9, .lastore, 1, [], []), (10, .goto 15, 3, [25], []), (15, .iconst 1, 1, [], [])],
  [(16, .ireturn, 1, [1], []), (19, .iconst 2, 1, [], []), (20, .ireturn, 1, [1], []), (23, .iconst 3, 1, [], []), (24, .ireturn, 1, [1], []), (25, .iconst 0, 1, [], []), (26, .ireturn, 1, [1], [])]]
theorem k_L_report : CdOk m_L_report c_L_report := ⟨by decide +kernel, allM_of ⟨o_X11_report, trivial⟩⟩
def c_X12_report : Cd := [
  [(0, .aload_n 0, 1, [], []), (1, .iload_n 1, 1, [], []), (2, .invokevirtual 278, 3, [0, 1, 1, 9, 0, 1779], [m_X12_isMember]), (5, .istore_n 3, 1, [], []), (6, .aload_n 0, 1, [], []), (7, .iload_n 3, 1, [], []), (8, .iload_n 2, 1, [], []), (9, .i2l, 1, [], []), (10, .lconst 0, 1, [], []), (11, .ldc2_w 407, 3, [999, 2030], []), (14, .invokestatic 87, 3, [1, 3, 1, 0, 0, 1565], [m_X12_isIn])],
  [(17, .invokevirtual 283, 3, [0, 2, 1, 9, 0, 1784], [m_X12_goesBoth]), (20, .ifCond .ne 5, 3, [25], []), (23, .iconst 0, 1, [], []), (24, .ireturn, 1, [1], []), (25, .aload_n 0, 1, [], []), (26, .aload_n 0, 1, [], []), (27, .iload_n 1, 1, [], []), (28, .invokevirtual 155, 3, [0, 1, 1, 9, 0, 1804], [m_X12_isDown]), (31, .ifCond .eq 7, 3, [38], [])],
  [(34, .iconst 3, 1, [], []), (35, .goto 4, 3, [39], []), (38, .iconst 0, 1, [], []), (39, .putfield 69, 3, [9, 0, 0, 1421], []), (42, .aload_n 0, 1, [], []), (43, .getfield 69, 3, [9, 0, 0, 1421], []), (46, .ifCond .le 5, 3, [51], [])],
  [(49, .iconst 0, 1, [], []), (50, .ireturn, 1, [1], []), (51, .aload_n 0, 1, [], []), (52, .invokevirtual 256, 3, [0, 0, 0, 9, 0, 1610], [m_X12_laysAside]), (55, .aload_n 0, 1, [], []), (56, .aload_n 0, 1, [], []), (57, .iload_n 1, 1, [], []), (58, .iload_n 2, 1, [], []), (59, .invokevirtual 433, 3, [0, 2, 1, 9, 0, 2087], [m_X12_reports]), (62, .invokevirtual 418, 3, [0, 1, 1, 9, 0, 2043], [m_X12_kept])],
  [(65, .ireturn, 1, [1], [])]]
theorem k_X12_report : CdOk m_X12_report c_X12_report := ⟨by decide +kernel, allM_of ⟨o_X12_isMember, ⟨o_X12_isIn, ⟨o_X12_goesBoth, ⟨o_X12_isDown, ⟨o_X12_laysAside, ⟨o_X12_reports, ⟨o_X12_kept, trivial⟩⟩⟩⟩⟩⟩⟩⟩
def c_X11_change : Cd := [
  [(0, .aload_n 0, 1, [], []), (1, .iload_n 1, 1, [], []), (2, .invokevirtual 162, 3, [0, 1, 0, 8, 1, 1189], [m_X11_needMember]), (5, .aload_n 0, 1, [], []), (6, .iload_n 2, 1, [], []), (7, .invokevirtual 139, 3, [0, 1, 0, 8, 1, 1117], [m_X11_needVersion]), (10, .aload_n 0, 1, [], []), (11, .getfield 24, 3, [8, 1, 3, 367], []), (14, .iload_n 1, 1, [], []), (15, .iload_n 2, 1, [], [])],
  [(16, .invokevirtual 196, 3, [0, 2, 1, 6, 0, 476], [m_X8_whyNotBegin]), (19, .ifCond .eq 11, 3, [30], []), (22, .new 79, 3, [0, 81, 682, 723], []), (30, .aload_n 0, 1, [], []), (31, .getfield 48, 3, [8, 6, 3, 372], [])],
  [(34, .aload_n 0, 1, [], []), (35, .getfield 24, 3, [8, 1, 3, 367], []), (38, .invokevirtual 112, 3, [0, 1, 0, 2, 0, 1029], [m_X4_keep]), (41, .aload_n 0, 1, [], []), (42, .getfield 24, 3, [8, 1, 3, 367], []), (45, .iload_n 1, 1, [], []), (46, .iload_n 2, 1, [], []), (47, .invokevirtual 321, 3, [0, 2, 1, 6, 0, 1388], [m_X8_beginChange])],
  [(50, .ireturn, 1, [1], [])]]
theorem k_X11_change : CdOk m_X11_change c_X11_change := ⟨by decide +kernel, allM_of ⟨o_X11_needMember, ⟨o_X11_needVersion, ⟨o_X8_whyNotBegin, ⟨o_X4_keep, ⟨o_X8_beginChange, trivial⟩⟩⟩⟩⟩⟩
def c_L_change : Cd := [
  [(0, .aload_n 3, 1, [], []), (1, .iconst 0, 1, [], []), (2, .aload_n 0, 1, [], []), (3, .iload_n 1, 1, [], []), (4, .iload_n 2, 1, [], []), (5, .invokevirtual 118, 3, [0, 2, 1, 8, 3, 1384, 19, 4, 0, 0, 15, 4], [m_X11_change]), (8, .i2l, 1, [], []), (9, .lastore, 1, [], []), (10, .goto 11, 3, [21], []), (15, .iconst 1, 1, [], [])],
  [(16, .ireturn, 1, [1], []), (19, .iconst 2, 1, [], []), (20, .ireturn, 1, [1], []), (21, .iconst 0, 1, [], []), (22, .ireturn, 1, [1], [])]]
theorem k_L_change : CdOk m_L_change c_L_change := ⟨by decide +kernel, allM_of ⟨o_X11_change, trivial⟩⟩
def c_X12_change : Cd := [
  [(0, .aload_n 0, 1, [], []), (1, .iload_n 1, 1, [], []), (2, .iload_n 2, 1, [], []), (3, .invokevirtual 314, 3, [0, 2, 1, 9, 0, 1836], [m_X12_areThere]), (6, .istore_n 3, 1, [], []), (7, .aload_n 0, 1, [], []), (8, .iload_n 3, 1, [], []), (9, .iload_n 3, 1, [], []), (10, .ifCond .eq 16, 3, [26], []), (13, .aload_n 0, 1, [], []), (14, .iload_n 1, 1, [], []), (15, .iload_n 2, 1, [], [])],
  [(16, .invokevirtual 317, 3, [0, 2, 1, 9, 0, 1840], [m_X12_why]), (19, .ifCond .ne 7, 3, [26], []), (22, .iconst 1, 1, [], []), (23, .goto 4, 3, [27], []), (26, .iconst 0, 1, [], []), (27, .invokevirtual 283, 3, [0, 2, 1, 9, 0, 1784], [m_X12_goesBoth]), (30, .ifCond .ne 5, 3, [35], [])],
  [(33, .iconst 0, 1, [], []), (34, .ireturn, 1, [1], []), (35, .aload_n 0, 1, [], []), (36, .invokevirtual 256, 3, [0, 0, 0, 9, 0, 1610], [m_X12_laysAside]), (39, .aload_n 0, 1, [], []), (40, .aload_n 0, 1, [], []), (41, .iload_n 1, 1, [], []), (42, .iload_n 2, 1, [], []), (43, .invokevirtual 436, 3, [0, 2, 1, 9, 0, 2095], [m_X12_changes]), (46, .invokevirtual 418, 3, [0, 1, 1, 9, 0, 2043], [m_X12_kept])],
  [(49, .ireturn, 1, [1], [])]]
theorem k_X12_change : CdOk m_X12_change c_X12_change := ⟨by decide +kernel, allM_of ⟨o_X12_areThere, ⟨o_X12_why, ⟨o_X12_goesBoth, ⟨o_X12_laysAside, ⟨o_X12_changes, ⟨o_X12_kept, trivial⟩⟩⟩⟩⟩⟩⟩
def c_X11_commit : Cd := [
  [(0, .iload_n 1, 1, [], []), (1, .invokestatic 149, 3, [1, 1, 0, 0, 1, 1144], [m_X11_needFormat]), (4, .aload_n 0, 1, [], []), (5, .getfield 24, 3, [8, 1, 3, 367], []), (8, .iload_n 1, 1, [], []), (9, .invokevirtual 240, 3, [0, 1, 1, 6, 0, 1278], [m_X8_whyNotFormat]), (12, .ifCond .eq 11, 3, [23], []), (15, .new 79, 3, [0, 81, 682, 723], [])],
  [(23, .aload_n 0, 1, [], []), (24, .getfield 48, 3, [8, 6, 3, 372], []), (27, .aload_n 0, 1, [], []), (28, .getfield 24, 3, [8, 1, 3, 367], []), (31, .invokevirtual 112, 3, [0, 1, 0, 2, 0, 1029], [m_X4_keep])],
  [(34, .aload_n 0, 1, [], []), (35, .getfield 24, 3, [8, 1, 3, 367], []), (38, .iload_n 1, 1, [], []), (39, .invokevirtual 324, 3, [0, 1, 1, 6, 0, 1396], [m_X8_setFormat]), (42, .ireturn, 1, [1], [])]]
theorem k_X11_commit : CdOk m_X11_commit c_X11_commit := ⟨by decide +kernel, allM_of ⟨o_X11_needFormat, ⟨o_X8_whyNotFormat, ⟨o_X4_keep, ⟨o_X8_setFormat, trivial⟩⟩⟩⟩⟩
def c_L_commit : Cd := [
  [(0, .aload_n 2, 1, [], []), (1, .iconst 0, 1, [], []), (2, .aload_n 0, 1, [], []), (3, .iload_n 1, 1, [], []), (4, .invokevirtual 121, 3, [0, 1, 1, 8, 2, 1392, 16, 3, 13, 3, 0, 0], [m_X11_commit]), (7, .i2l, 1, [], []), (8, .lastore, 1, [], []), (9, .goto 9, 3, [18], []), (13, .iconst 1, 1, [], []), (14, .ireturn, 1, [1], [])],
  [(16, .iconst 2, 1, [], []), (17, .ireturn, 1, [1], []), (18, .iconst 0, 1, [], []), (19, .ireturn, 1, [1], [])]]
theorem k_L_commit : CdOk m_L_commit c_L_commit := ⟨by decide +kernel, allM_of ⟨o_X11_commit, trivial⟩⟩
def c_X12_commit : Cd := [
  [(0, .iload_n 1, 1, [], []), (1, .i2l, 1, [], []), (2, .lconst 1, 1, [], []), (3, .ldc2_w 270, 3, [9, 1754], []), (6, .invokestatic 87, 3, [1, 3, 1, 0, 0, 1565], [m_X12_isIn]), (9, .istore_n 2, 1, [], []), (10, .aload_n 0, 1, [], []), (11, .iload_n 2, 1, [], []), (12, .iload_n 2, 1, [], []), (13, .ifCond .eq 15, 3, [28], [])],
  [(16, .aload_n 0, 1, [], []), (17, .iload_n 1, 1, [], []), (18, .invokevirtual 387, 3, [0, 1, 1, 9, 0, 1933], [m_X12_whyCommit]), (21, .ifCond .ne 7, 3, [28], []), (24, .iconst 1, 1, [], []), (25, .goto 4, 3, [29], []), (28, .iconst 0, 1, [], []), (29, .invokevirtual 283, 3, [0, 2, 1, 9, 0, 1784], [m_X12_goesBoth])],
  [(32, .ifCond .ne 5, 3, [37], []), (35, .iconst 0, 1, [], []), (36, .ireturn, 1, [1], []), (37, .aload_n 0, 1, [], []), (38, .invokevirtual 256, 3, [0, 0, 0, 9, 0, 1610], [m_X12_laysAside]), (41, .aload_n 0, 1, [], []), (42, .aload_n 0, 1, [], []), (43, .iload_n 1, 1, [], []), (44, .invokevirtual 439, 3, [0, 1, 1, 9, 0, 2103], [m_X12_commits]), (47, .invokevirtual 418, 3, [0, 1, 1, 9, 0, 2043], [m_X12_kept])],
  [(50, .ireturn, 1, [1], [])]]
theorem k_X12_commit : CdOk m_X12_commit c_X12_commit := ⟨by decide +kernel, allM_of ⟨o_X12_isIn, ⟨o_X12_whyCommit, ⟨o_X12_goesBoth, ⟨o_X12_laysAside, ⟨o_X12_commits, ⟨o_X12_kept, trivial⟩⟩⟩⟩⟩⟩⟩
def c_X6_nameOf : Cd := [
  [(0, .iload_n 1, 1, [], []), (1, .ifCond .lt 20, 3, [21], []), (4, .iload_n 1, 1, [], []), (5, .aload_n 0, 1, [], []), (6, .getfield 9, 3, [4, 1, 0, 91], []), (9, .if_icmp .ge 12, 3, [21], []), (12, .aload_n 0, 1, [], []), (13, .getfield 15, 3, [4, 0, 3, 90], [])],
  [(16, .iload_n 1, 1, [], []), (17, .laload, 1, [], []), (18, .goto 4, 3, [22], []), (21, .lconst 0, 1, [], []), (22, .lreturn, 1, [], [])]]
theorem k_X6_nameOf : CdOk m_X6_nameOf c_X6_nameOf := ⟨by decide +kernel, allM_of trivial⟩
def c_X11_writeByte : Cd := [
  [(0, .aload_n 0, 1, [], []), (1, .getfield 72, 3, [8, 10, 0, 376], []), (4, .aload_n 0, 1, [], []), (5, .getfield 68, 3, [8, 9, 3, 375], []), (8, .arraylength, 1, [], []), (9, .if_icmp .ge 24, 3, [33], []), (12, .aload_n 0, 1, [], []), (13, .getfield 68, 3, [8, 9, 3, 375], [])],
  [(16, .aload_n 0, 1, [], []), (17, .getfield 72, 3, [8, 10, 0, 376], []), (20, .iload_n 1, 1, [], []), (21, .i2b, 1, [], []), (22, .bastore, 1, [], []), (23, .aload_n 0, 1, [], []), (24, .dup, 1, [], []), (25, .getfield 72, 3, [8, 10, 0, 376], []), (28, .iconst 1, 1, [], []), (29, .iadd, 1, [], []), (30, .putfield 72, 3, [8, 10, 0, 376], [])],
  [(33, .return_, 1, [], [])]]
theorem k_X11_writeByte : CdOk m_X11_writeByte c_X11_writeByte := ⟨by decide +kernel, allM_of trivial⟩
def c_X11_writeName : Cd := [
  [(0, .bipush 56, 2, [], []), (2, .istore_n 3, 1, [], []), (3, .iload_n 3, 1, [], []), (4, .ifCond .lt 30, 3, [34], []), (7, .lload_n 1, 1, [], []), (8, .iload_n 3, 1, [], []), (9, .lshr, 1, [], []), (10, .l2i, 1, [], []), (11, .sipush 255, 3, [], []), (14, .iand, 1, [], []), (15, .istore 4, 2, [], [])],
  [(17, .iload 4, 2, [], []), (19, .ifCond .eq 9, 3, [28], []), (22, .aload_n 0, 1, [], []), (23, .iload 4, 2, [], []), (25, .invokevirtual 335, 3, [0, 1, 0, 8, 0, 637], [m_X11_writeByte]), (28, .iinc 3 (-8), 3, [], []), (31, .goto (-28), 3, [3], [])],
  [(34, .return_, 1, [], [])]]
theorem k_X11_writeName : CdOk m_X11_writeName c_X11_writeName := ⟨by decide +kernel, allM_of ⟨o_X11_writeByte, trivial⟩⟩
def c_X11_writeReport : Cd := [
  [(0, .aload_n 0, 1, [], []), (1, .iconst 0, 1, [], []), (2, .putfield 72, 3, [8, 10, 0, 376], []), (5, .iconst 0, 1, [], []), (6, .istore_n 1, 1, [], []), (7, .iload_n 1, 1, [], []), (8, .aload_n 0, 1, [], []), (9, .getfield 24, 3, [8, 1, 3, 367], []), (12, .getfield 28, 3, [6, 0, 3, 222], []), (15, .getfield 100, 3, [3, 8, 3, 125], [])],
  [(18, .getfield 104, 3, [4, 1, 0, 93], []), (21, .if_icmp .ge 128, 3, [149], []), (24, .aload_n 0, 1, [], []), (25, .aload_n 0, 1, [], []), (26, .getfield 24, 3, [8, 1, 3, 367], []), (29, .getfield 28, 3, [6, 0, 3, 222], [])],
  [(32, .getfield 100, 3, [3, 8, 3, 125], []), (35, .iload_n 1, 1, [], []), (36, .invokevirtual 327, 3, [0, 1, 2, 4, 0, 629], [m_X6_nameOf]), (39, .invokevirtual 331, 3, [0, 1, 0, 8, 0, 633], [m_X11_writeName]), (42, .aload_n 0, 1, [], []), (43, .bipush 32, 2, [], []), (45, .invokevirtual 335, 3, [0, 1, 0, 8, 0, 637], [m_X11_writeByte])],
  [(48, .aload_n 0, 1, [], []), (49, .aload_n 0, 1, [], []), (50, .getfield 24, 3, [8, 1, 3, 367], []), (53, .getfield 28, 3, [6, 0, 3, 222], []), (56, .getfield 199, 3, [3, 0, 3, 110], []), (59, .aload_n 0, 1, [], []), (60, .getfield 24, 3, [8, 1, 3, 367], []), (63, .getfield 338, 3, [6, 3, 3, 231], [])],
  [(66, .iload_n 1, 1, [], []), (67, .iaload, 1, [], []), (68, .invokevirtual 327, 3, [0, 1, 2, 4, 0, 629], [m_X6_nameOf]), (71, .invokevirtual 331, 3, [0, 1, 0, 8, 0, 633], [m_X11_writeName]), (74, .aload_n 0, 1, [], []), (75, .getfield 24, 3, [8, 1, 3, 367], []), (78, .iload_n 1, 1, [], []), (79, .invokevirtual 315, 3, [0, 1, 1, 6, 0, 641], [m_X8_isUp])],
  [(82, .ifCond .ne 35, 3, [117], []), (85, .aload_n 0, 1, [], []), (86, .bipush 62, 2, [], []), (88, .invokevirtual 335, 3, [0, 1, 0, 8, 0, 637], [m_X11_writeByte]), (91, .aload_n 0, 1, [], []), (92, .aload_n 0, 1, [], []), (93, .getfield 24, 3, [8, 1, 3, 367], [])],
  [(96, .getfield 28, 3, [6, 0, 3, 222], []), (99, .getfield 199, 3, [3, 0, 3, 110], []), (102, .aload_n 0, 1, [], []), (103, .getfield 24, 3, [8, 1, 3, 367], []), (106, .getfield 341, 3, [6, 4, 3, 233], []), (109, .iload_n 1, 1, [], []), (110, .iaload, 1, [], []), (111, .invokevirtual 327, 3, [0, 1, 2, 4, 0, 629], [m_X6_nameOf])],
  [(114, .invokevirtual 331, 3, [0, 1, 0, 8, 0, 633], [m_X11_writeName]), (117, .aload_n 0, 1, [], []), (118, .getfield 24, 3, [8, 1, 3, 367], []), (121, .getfield 262, 3, [6, 8, 0, 240], []), (124, .iload_n 1, 1, [], []), (125, .invokestatic 145, 3, [1, 2, 1, 0, 0, 475], [m_X11_isIn])],
  [(128, .ifCond .eq 9, 3, [137], []), (131, .aload_n 0, 1, [], []), (132, .bipush 33, 2, [], []), (134, .invokevirtual 335, 3, [0, 1, 0, 8, 0, 637], [m_X11_writeByte]), (137, .aload_n 0, 1, [], []), (138, .bipush 10, 2, [], []), (140, .invokevirtual 335, 3, [0, 1, 0, 8, 0, 637], [m_X11_writeByte]), (143, .iinc 1 1, 3, [], [])],
  [(146, .goto (-139), 3, [7], []), (149, .aload_n 0, 1, [], []), (150, .getfield 72, 3, [8, 10, 0, 376], []), (153, .ireturn, 1, [1], [])]]
theorem k_X11_writeReport : CdOk m_X11_writeReport c_X11_writeReport := ⟨by decide +kernel, allM_of ⟨o_X6_nameOf, ⟨o_X11_writeName, ⟨o_X11_writeByte, ⟨o_X6_nameOf, ⟨o_X11_writeName, ⟨o_X8_isUp, ⟨o_X11_writeByte, ⟨o_X6_nameOf, ⟨o_X11_writeName, ⟨o_X11_isIn, ⟨o_X11_writeByte, ⟨o_X11_writeByte, trivial⟩⟩⟩⟩⟩⟩⟩⟩⟩⟩⟩⟩⟩
def c_X12_tell : Cd := [
  [(0, .aload_n 0, 1, [], []), (1, .getfield 63, 3, [9, 37, 3, 1458], []), (4, .aload_n 0, 1, [], []), (5, .getfield 493, 3, [9, 38, 0, 1459], []), (8, .iload_n 1, 1, [], []), (9, .iastore, 1, [], []), (10, .aload_n 0, 1, [], []), (11, .dup, 1, [], []), (12, .getfield 493, 3, [9, 38, 0, 1459], []), (15, .iconst 1, 1, [], [])],
  [(16, .iadd, 1, [], []), (17, .putfield 493, 3, [9, 38, 0, 1459], []), (20, .return_, 1, [], [])]]
theorem k_X12_tell : CdOk m_X12_tell c_X12_tell := ⟨by decide +kernel, allM_of trivial⟩
def c_X12_tellName : Cd := [
  [(0, .bipush 35, 2, [], []), (2, .istore_n 3, 1, [], []), (3, .iload_n 3, 1, [], []), (4, .ifCond .lt 32, 3, [36], []), (7, .lload_n 1, 1, [], []), (8, .iload_n 3, 1, [], []), (9, .lshr, 1, [], []), (10, .lconst 0, 1, [], []), (11, .lcmp, 1, [], []), (12, .ifCond .le 18, 3, [30], []), (15, .aload_n 0, 1, [], [])],
  [(16, .bipush 96, 2, [], []), (18, .lload_n 1, 1, [], []), (19, .iload_n 3, 1, [], []), (20, .lshr, 1, [], []), (21, .ldc2_w 496, 3, [31, 2153], []), (24, .land, 1, [], []), (25, .l2i, 1, [], []), (26, .iadd, 1, [], []), (27, .invokevirtual 498, 3, [0, 1, 0, 9, 0, 2154], [m_X12_tell]), (30, .iinc 3 (-5), 3, [], [])],
  [(33, .goto (-30), 3, [3], []), (36, .return_, 1, [], [])]]
theorem k_X12_tellName : CdOk m_X12_tellName c_X12_tellName := ⟨by decide +kernel, allM_of ⟨o_X12_tell, trivial⟩⟩
def c_X12_writeReport : Cd := [
  [(0, .aload_n 0, 1, [], []), (1, .iconst 0, 1, [], []), (2, .putfield 69, 3, [9, 0, 0, 1421], []), (5, .aload_n 0, 1, [], []), (6, .iconst 0, 1, [], []), (7, .putfield 493, 3, [9, 38, 0, 1459], []), (10, .aload_n 0, 1, [], []), (11, .iconst 1, 1, [], []), (12, .putfield 501, 3, [9, 39, 1, 1460], []), (15, .iconst 0, 1, [], [])],
  [(16, .istore_n 1, 1, [], []), (17, .iload_n 1, 1, [], []), (18, .aload_n 0, 1, [], []), (19, .getfield 20, 3, [9, 13, 3, 1434], []), (22, .iconst 2, 1, [], []), (23, .iaload, 1, [], []), (24, .if_icmp .ge 106, 3, [130], []), (27, .aload_n 0, 1, [], []), (28, .aload_n 0, 1, [], []), (29, .getfield 35, 3, [9, 18, 3, 1439], [])],
  [(32, .bipush 13, 2, [], []), (34, .iload_n 1, 1, [], []), (35, .iadd, 1, [], []), (36, .laload, 1, [], []), (37, .invokevirtual 504, 3, [0, 1, 0, 9, 0, 2149], [m_X12_tellName]), (40, .aload_n 0, 1, [], []), (41, .bipush 32, 2, [], []), (43, .invokevirtual 498, 3, [0, 1, 0, 9, 0, 2154], [m_X12_tell]), (46, .aload_n 0, 1, [], []), (47, .aload_n 0, 1, [], [])],
  [(48, .getfield 35, 3, [9, 18, 3, 1439], []), (51, .iconst 0, 1, [], []), (52, .aload_n 0, 1, [], []), (53, .iload_n 1, 1, [], []), (54, .iconst 1, 1, [], []), (55, .invokevirtual 151, 3, [0, 2, 1, 9, 0, 1689], [m_X12_of]), (58, .iadd, 1, [], []), (59, .laload, 1, [], []), (60, .invokevirtual 504, 3, [0, 1, 0, 9, 0, 2149], [m_X12_tellName]), (63, .aload_n 0, 1, [], [])],
  [(64, .iload_n 1, 1, [], []), (65, .invokevirtual 155, 3, [0, 1, 1, 9, 0, 1804], [m_X12_isDown]), (68, .ifCond .eq 9, 3, [77], []), (71, .aload_n 0, 1, [], []), (72, .bipush 62, 2, [], []), (74, .invokevirtual 498, 3, [0, 1, 0, 9, 0, 2154], [m_X12_tell]), (77, .aload_n 0, 1, [], []), (78, .iload_n 1, 1, [], []), (79, .invokevirtual 155, 3, [0, 1, 1, 9, 0, 1804], [m_X12_isDown])],
  [(82, .ifCond .eq 20, 3, [102], []), (85, .aload_n 0, 1, [], []), (86, .aload_n 0, 1, [], []), (87, .getfield 35, 3, [9, 18, 3, 1439], []), (90, .iconst 0, 1, [], []), (91, .aload_n 0, 1, [], []), (92, .iload_n 1, 1, [], []), (93, .iconst 2, 1, [], []), (94, .invokevirtual 151, 3, [0, 2, 1, 9, 0, 1689], [m_X12_of])],
  [(97, .iadd, 1, [], []), (98, .laload, 1, [], []), (99, .invokevirtual 504, 3, [0, 1, 0, 9, 0, 2149], [m_X12_tellName]), (102, .aload_n 0, 1, [], []), (103, .iload_n 1, 1, [], []), (104, .iconst 5, 1, [], []), (105, .invokevirtual 151, 3, [0, 2, 1, 9, 0, 1689], [m_X12_of]), (108, .iconst 1, 1, [], []), (109, .if_icmp .ne 9, 3, [118], [])],
  [(112, .aload_n 0, 1, [], []), (113, .bipush 33, 2, [], []), (115, .invokevirtual 498, 3, [0, 1, 0, 9, 0, 2154], [m_X12_tell]), (118, .aload_n 0, 1, [], []), (119, .bipush 10, 2, [], []), (121, .invokevirtual 498, 3, [0, 1, 0, 9, 0, 2154], [m_X12_tell]), (124, .iinc 1 1, 3, [], []), (127, .goto (-110), 3, [17], [])],
  [(130, .aload_n 0, 1, [], []), (131, .getfield 493, 3, [9, 38, 0, 1459], []), (134, .ireturn, 1, [1], [])]]
theorem k_X12_writeReport : CdOk m_X12_writeReport c_X12_writeReport := ⟨by decide +kernel, allM_of ⟨o_X12_tellName, ⟨o_X12_tell, ⟨o_X12_of, ⟨o_X12_tellName, ⟨o_X12_isDown, ⟨o_X12_tell, ⟨o_X12_isDown, ⟨o_X12_of, ⟨o_X12_tellName, ⟨o_X12_of, ⟨o_X12_tell, ⟨o_X12_tell, trivial⟩⟩⟩⟩⟩⟩⟩⟩⟩⟩⟩⟩⟩
def c_X11_reportByte : Cd := [
  [(0, .iload_n 1, 1, [], []), (1, .ifCond .lt 11, 3, [12], []), (4, .iload_n 1, 1, [], []), (5, .aload_n 0, 1, [], []), (6, .getfield 72, 3, [8, 10, 0, 376], []), (9, .if_icmp .lt 11, 3, [20], []), (12, .new 178, 3, [2, 180, 1121, 1130], [])],
  [(20, .aload_n 0, 1, [], []), (21, .getfield 68, 3, [8, 9, 3, 375], []), (24, .iload_n 1, 1, [], []), (25, .baload, 1, [], []), (26, .ireturn, 1, [1], [])]]
theorem k_X11_reportByte : CdOk m_X11_reportByte c_X11_reportByte := ⟨by decide +kernel, allM_of trivial⟩
def c_L_reportByte : Cd := [
  [(0, .aload_n 2, 1, [], []), (1, .iconst 0, 1, [], []), (2, .aload_n 0, 1, [], []), (3, .iload_n 1, 1, [], []), (4, .invokevirtual 124, 3, [0, 1, 1, 8, 1, 1400, 0, 0, 0, 0, 13, 3], [m_X11_reportByte]), (7, .i2l, 1, [], []), (8, .lastore, 1, [], []), (9, .goto 6, 3, [15], []), (13, .iconst 1, 1, [], []), (14, .ireturn, 1, [1], []), (15, .iconst 0, 1, [], [])],
  [(16, .ireturn, 1, [1], [])]]
theorem k_L_reportByte : CdOk m_L_reportByte c_L_reportByte := ⟨by decide +kernel, allM_of ⟨o_X11_reportByte, trivial⟩⟩
def c_X12_reportByte : Cd := [
  [(0, .aload_n 0, 1, [], []), (1, .aload_n 0, 1, [], []), (2, .getfield 501, 3, [9, 39, 1, 1460], []), (5, .ifCond .eq 23, 3, [28], []), (8, .iload_n 1, 1, [], []), (9, .i2l, 1, [], []), (10, .lconst 0, 1, [], []), (11, .aload_n 0, 1, [], []), (12, .getfield 493, 3, [9, 38, 0, 1459], []), (15, .iconst 1, 1, [], [])],
  [(16, .isub, 1, [], []), (17, .i2l, 1, [], []), (18, .invokestatic 87, 3, [1, 3, 1, 0, 0, 1565], [m_X12_isIn]), (21, .ifCond .eq 7, 3, [28], []), (24, .iconst 1, 1, [], []), (25, .goto 4, 3, [29], []), (28, .iconst 0, 1, [], []), (29, .invokevirtual 79, 3, [0, 1, 1, 9, 0, 1550], [m_X12_goes])],
  [(32, .ifCond .eq 12, 3, [44], []), (35, .aload_n 0, 1, [], []), (36, .getfield 63, 3, [9, 37, 3, 1458], []), (39, .iload_n 1, 1, [], []), (40, .iaload, 1, [], []), (41, .goto 4, 3, [45], []), (44, .iconst 0, 1, [], []), (45, .ireturn, 1, [1], [])]]
theorem k_X12_reportByte : CdOk m_X12_reportByte c_X12_reportByte := ⟨by decide +kernel, allM_of ⟨o_X12_isIn, ⟨o_X12_goes, trivial⟩⟩⟩
def c_X4_takeBack : Cd := [
  [(0, .aload_n 0, 1, [], []), (1, .getfield 11, 3, [2, 0, 3, 293], []), (4, .aload_n 0, 1, [], []), (5, .getfield 21, 3, [2, 2, 0, 296], []), (8, .aaload, 1, [4], []), (9, .astore_n 2, 1, [], []), (10, .aload_n 2, 1, [], []), (11, .ifnull 40, 3, [51], []), (14, .aload_n 0, 1, [], []), (15, .getfield 17, 3, [2, 1, 0, 294], [])],
  [(18, .ifCond .le 33, 3, [51], []), (21, .aload_n 1, 1, [], []), (22, .aload_n 2, 1, [], []), (23, .invokevirtual 27, 3, [0, 1, 0, 6, 0, 650], [m_X8_copyFrom]), (26, .aload_n 0, 1, [], []), (27, .aload_n 0, 1, [], []), (28, .getfield 21, 3, [2, 2, 0, 296], []), (31, .iconst 1, 1, [], [])],
  [(32, .isub, 1, [], []), (33, .bipush 6, 2, [], []), (35, .invokestatic 37, 3, [13, 651], []), (38, .putfield 21, 3, [2, 2, 0, 296], []), (41, .aload_n 0, 1, [], []), (42, .dup, 1, [], []), (43, .getfield 17, 3, [2, 1, 0, 294], []), (46, .iconst 1, 1, [], []), (47, .isub, 1, [], [])],
  [(48, .putfield 17, 3, [2, 1, 0, 294], []), (51, .return_, 1, [], [])]]
theorem k_X4_takeBack : CdOk m_X4_takeBack c_X4_takeBack := ⟨by decide +kernel, allM_of ⟨o_X8_copyFrom, trivial⟩⟩
def c_X11_undo : Cd := [
  [(0, .aload_n 0, 1, [], []), (1, .getfield 48, 3, [8, 6, 3, 372], []), (4, .getfield 344, 3, [2, 1, 0, 295], []), (7, .ifCond .ne 5, 3, [12], []), (10, .iconst (-1), 1, [], []), (11, .ireturn, 1, [1], []), (12, .aload_n 0, 1, [], []), (13, .getfield 48, 3, [8, 6, 3, 372], [])],
  [(16, .aload_n 0, 1, [], []), (17, .getfield 24, 3, [8, 1, 3, 367], []), (20, .invokevirtual 345, 3, [0, 1, 0, 2, 0, 646], [m_X4_takeBack]), (23, .aload_n 0, 1, [], []), (24, .getfield 48, 3, [8, 6, 3, 372], []), (27, .getfield 344, 3, [2, 1, 0, 295], []), (30, .ireturn, 1, [1], [])]]
theorem k_X11_undo : CdOk m_X11_undo c_X11_undo := ⟨by decide +kernel, allM_of ⟨o_X4_takeBack, trivial⟩⟩
def c_X12_undo : Cd := [
  [(0, .aload_n 0, 1, [], []), (1, .iconst 0, 1, [], []), (2, .putfield 69, 3, [9, 0, 0, 1421], []), (5, .aload_n 0, 1, [], []), (6, .getfield 140, 3, [9, 21, 0, 1442], []), (9, .ifCond .ne 5, 3, [14], []), (12, .iconst (-1), 1, [], []), (13, .ireturn, 1, [1], []), (14, .aload_n 0, 1, [], []), (15, .dup, 1, [], [])],
  [(16, .getfield 140, 3, [9, 21, 0, 1442], []), (19, .iconst 1, 1, [], []), (20, .isub, 1, [], []), (21, .putfield 140, 3, [9, 21, 0, 1442], []), (24, .iconst 0, 1, [], []), (25, .istore_n 1, 1, [], []), (26, .iload_n 1, 1, [], []), (27, .sipush 253, 3, [], []), (30, .if_icmp .ge 30, 3, [60], [])],
  [(33, .aload_n 0, 1, [], []), (34, .getfield 20, 3, [9, 13, 3, 1434], []), (37, .iload_n 1, 1, [], []), (38, .aload_n 0, 1, [], []), (39, .getfield 26, 3, [9, 15, 3, 1436], []), (42, .sipush 253, 3, [], []), (45, .aload_n 0, 1, [], []), (46, .getfield 140, 3, [9, 21, 0, 1442], [])],
  [(49, .imul, 1, [], []), (50, .iload_n 1, 1, [], []), (51, .iadd, 1, [], []), (52, .iaload, 1, [], []), (53, .iastore, 1, [], []), (54, .iinc 1 1, 3, [], []), (57, .goto (-31), 3, [26], []), (60, .aload_n 0, 1, [], []), (61, .getfield 140, 3, [9, 21, 0, 1442], [])],
  [(64, .ireturn, 1, [1], [])]]
theorem k_X12_undo : CdOk m_X12_undo c_X12_undo := ⟨by decide +kernel, allM_of trivial⟩
def c_X11_save : Cd := [
  [(0, .aload_n 0, 1, [], []), (1, .getfield 38, 3, [8, 4, 3, 370], []), (4, .aload_n 0, 1, [], []), (5, .getfield 24, 3, [8, 1, 3, 367], []), (8, .invokevirtual 93, 3, [0, 1, 0, 6, 0, 658], [m_X8_replaceBy]), (11, .aload_n 0, 1, [], []), (12, .iconst 1, 1, [], []), (13, .putfield 41, 3, [8, 5, 1, 371], [])],
  [(16, .aload_n 0, 1, [], []), (17, .getfield 24, 3, [8, 1, 3, 367], []), (20, .getfield 132, 3, [6, 1, 0, 225], []), (23, .ireturn, 1, [1], [])]]
theorem k_X11_save : CdOk m_X11_save c_X11_save := ⟨by decide +kernel, allM_of ⟨o_X8_replaceBy, trivial⟩⟩
def c_X12_save : Cd := [
  [(0, .aload_n 0, 1, [], []), (1, .iconst 0, 1, [], []), (2, .putfield 69, 3, [9, 0, 0, 1421], []), (5, .iconst 0, 1, [], []), (6, .istore_n 1, 1, [], []), (7, .iload_n 1, 1, [], []), (8, .sipush 253, 3, [], []), (11, .if_icmp .ge 21, 3, [32], []), (14, .aload_n 0, 1, [], []), (15, .getfield 23, 3, [9, 14, 3, 1435], [])],
  [(18, .iload_n 1, 1, [], []), (19, .aload_n 0, 1, [], []), (20, .getfield 20, 3, [9, 13, 3, 1434], []), (23, .iload_n 1, 1, [], []), (24, .iaload, 1, [], []), (25, .iastore, 1, [], []), (26, .iinc 1 1, 3, [], []), (29, .goto (-22), 3, [7], [])],
  [(32, .iconst 0, 1, [], []), (33, .istore_n 1, 1, [], []), (34, .iload_n 1, 1, [], []), (35, .bipush 25, 2, [], []), (37, .if_icmp .ge 21, 3, [58], []), (40, .aload_n 0, 1, [], []), (41, .getfield 39, 3, [9, 19, 3, 1440], []), (44, .iload_n 1, 1, [], []), (45, .aload_n 0, 1, [], []), (46, .getfield 35, 3, [9, 18, 3, 1439], [])],
  [(49, .iload_n 1, 1, [], []), (50, .laload, 1, [], []), (51, .lastore, 1, [], []), (52, .iinc 1 1, 3, [], []), (55, .goto (-21), 3, [34], []), (58, .aload_n 0, 1, [], []), (59, .iconst 1, 1, [], []), (60, .putfield 143, 3, [9, 22, 1, 1443], []), (63, .aload_n 0, 1, [], [])],
  [(64, .getfield 20, 3, [9, 13, 3, 1434], []), (67, .bipush 11, 2, [], []), (69, .iaload, 1, [], []), (70, .ireturn, 1, [1], [])]]
theorem k_X12_save : CdOk m_X12_save c_X12_save := ⟨by decide +kernel, allM_of trivial⟩
def c_X11_restore : Cd := [
  [(0, .aload_n 0, 1, [], []), (1, .getfield 41, 3, [8, 5, 1, 371], []), (4, .ifCond .ne 11, 3, [15], []), (7, .new 79, 3, [0, 81, 682, 723], []), (15, .aload_n 0, 1, [], [])],
  [(16, .getfield 24, 3, [8, 1, 3, 367], []), (19, .aload_n 0, 1, [], []), (20, .getfield 38, 3, [8, 4, 3, 370], []), (23, .invokevirtual 93, 3, [0, 1, 0, 6, 0, 658], [m_X8_replaceBy]), (26, .aload_n 0, 1, [], []), (27, .getfield 48, 3, [8, 6, 3, 372], []), (30, .invokevirtual 97, 3, [0, 0, 0, 2, 0, 988], [m_X4_forget])],
  [(33, .aload_n 0, 1, [], []), (34, .getfield 24, 3, [8, 1, 3, 367], []), (37, .getfield 132, 3, [6, 1, 0, 225], []), (40, .ireturn, 1, [1], [])]]
theorem k_X11_restore : CdOk m_X11_restore c_X11_restore := ⟨by decide +kernel, allM_of ⟨o_X8_replaceBy, ⟨o_X4_forget, trivial⟩⟩⟩
def c_L_restore : Cd := [
  [(0, .aload_n 1, 1, [], []), (1, .iconst 0, 1, [], []), (2, .aload_n 0, 1, [], []), (3, .invokevirtual 127, 3, [0, 0, 1, 8, 1, 1407, 12, 2, 0, 0, 0, 0], [m_X11_restore]), (6, .i2l, 1, [], []), (7, .lastore, 1, [], []), (8, .goto 6, 3, [14], []), (12, .iconst 1, 1, [], []), (13, .ireturn, 1, [1], []), (14, .iconst 0, 1, [], []), (15, .ireturn, 1, [1], [])]]
theorem k_L_restore : CdOk m_L_restore c_L_restore := ⟨by decide +kernel, allM_of ⟨o_X11_restore, trivial⟩⟩
def c_X12_restore : Cd := [
  [(0, .aload_n 0, 1, [], []), (1, .aload_n 0, 1, [], []), (2, .getfield 143, 3, [9, 22, 1, 1443], []), (5, .invokevirtual 79, 3, [0, 1, 1, 9, 0, 1550], [m_X12_goes]), (8, .ifCond .ne 5, 3, [13], []), (11, .iconst 0, 1, [], []), (12, .ireturn, 1, [1], []), (13, .iconst 0, 1, [], []), (14, .istore_n 1, 1, [], []), (15, .iload_n 1, 1, [], [])],
  [(16, .sipush 253, 3, [], []), (19, .if_icmp .ge 21, 3, [40], []), (22, .aload_n 0, 1, [], []), (23, .getfield 20, 3, [9, 13, 3, 1434], []), (26, .iload_n 1, 1, [], []), (27, .aload_n 0, 1, [], []), (28, .getfield 23, 3, [9, 14, 3, 1435], []), (31, .iload_n 1, 1, [], [])],
  [(32, .iaload, 1, [], []), (33, .iastore, 1, [], []), (34, .iinc 1 1, 3, [], []), (37, .goto (-22), 3, [15], []), (40, .iconst 0, 1, [], []), (41, .istore_n 1, 1, [], []), (42, .iload_n 1, 1, [], []), (43, .bipush 25, 2, [], []), (45, .if_icmp .ge 21, 3, [66], [])],
  [(48, .aload_n 0, 1, [], []), (49, .getfield 35, 3, [9, 18, 3, 1439], []), (52, .iload_n 1, 1, [], []), (53, .aload_n 0, 1, [], []), (54, .getfield 39, 3, [9, 19, 3, 1440], []), (57, .iload_n 1, 1, [], []), (58, .laload, 1, [], []), (59, .lastore, 1, [], []), (60, .iinc 1 1, 3, [], []), (63, .goto (-21), 3, [42], [])],
  [(66, .aload_n 0, 1, [], []), (67, .iconst 0, 1, [], []), (68, .putfield 140, 3, [9, 21, 0, 1442], []), (71, .aload_n 0, 1, [], []), (72, .getfield 20, 3, [9, 13, 3, 1434], []), (75, .bipush 11, 2, [], []), (77, .iaload, 1, [], []), (78, .ireturn, 1, [1], [])]]
theorem k_X12_restore : CdOk m_X12_restore c_X12_restore := ⟨by decide +kernel, allM_of ⟨o_X12_goes, trivial⟩⟩
