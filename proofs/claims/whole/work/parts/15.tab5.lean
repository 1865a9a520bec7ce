/-! ===== tables of the methods' code, 5 ===== -/
def m_L_down : MI := (yL_down, cL_down, 4, some .int, 7, 110, 1, [(0, 9, 12, 35)], 2)
def m_X12_isPlace : MI := (yX12_isPlace, cX12_isPlace, 2, some .boolean, 1, 25, 0, [], 0)
def m_X12_down : MI := (yX12_down, cX12_down, 2, some .int, 3, 66, 0, [], 0)
def m_X5_everyMember : MI := (yX5_everyMember, cX5_everyMember, 1, some .int, 0, 0, 0, [], 0)
def m_X11_skewNow : MI := (yX11_skewNow, cX11_skewNow, 2, some .int, 2, 83, 0, [], 0)
def m_X12_extreme : MI := (yX12_extreme, cX12_extreme, 5, some .int, 3, 64, 0, [], 0)
def m_X12_skewNow : MI := (yX12_skewNow, cX12_skewNow, 1, some .int, 4, 88, 0, [], 0)
def m_X11_reason : MI := (yX11_reason, cX11_reason, 3, some .int, 7, 110, 2, [], 0)
def m_L_reason : MI := (yL_reason, cL_reason, 5, some .int, 8, 132, 2, [(0, 10, 13, 35)], 2)
def m_X12_areThere : MI := (yX12_areThere, cX12_areThere, 3, some .boolean, 2, 46, 0, [], 0)
def m_X12_reason : MI := (yX12_reason, cX12_reason, 3, some .int, 5, 110, 0, [], 0)
def m_X11_open : MI := (yX11_open, cX11_open, 4, some .int, 7, 110, 1, [], 0)
def m_L_open : MI := (yL_open, cL_open, 4, some .int, 8, 133, 1, [(0, 9, 12, 35)], 2)
def m_X12_open : MI := (yX12_open, cX12_open, 4, some .int, 5, 110, 0, [], 0)
def m_X11_against : MI := (yX11_against, cX11_against, 3, some .int, 7, 110, 2, [], 0)
def m_L_against : MI := (yL_against, cL_against, 5, some .int, 8, 132, 2, [(0, 10, 13, 35)], 2)
def m_X12_against : MI := (yX12_against, cX12_against, 3, some .int, 4, 88, 0, [], 0)
def m_X8_mixedPairs : MI := (yX8_mixedPairs, cX8_mixedPairs, 4, some .int, 1, 23, 0, [], 0)
def m_X11_mixed : MI := (yX11_mixed, cX11_mixed, 1, some .int, 2, 46, 0, [], 0)
def m_X12_mixed : MI := (yX12_mixed, cX12_mixed, 4, some .int, 2, 44, 0, [], 0)
def m_X8_numberOfPlan : MI := (yX8_numberOfPlan, cX8_numberOfPlan, 2, some .int, 1, 20, 0, [], 0)
def m_X11_plan : MI := (yX11_plan, cX11_plan, 2, some .int, 6, 89, 1, [], 0)
def m_L_plan : MI := (yL_plan, cL_plan, 4, some .int, 7, 110, 1, [(0, 9, 12, 19)], 2)
def m_X12_plan : MI := (yX12_plan, cX12_plan, 3, some .int, 2, 41, 0, [], 0)
def m_X11_lagging : MI := (yX11_lagging, cX11_lagging, 1, some .int, 2, 44, 0, [], 0)
def m_X12_lags : MI := (yX12_lags, cX12_lags, 3, some .int, 3, 65, 0, [], 0)
def m_X12_lagging : MI := (yX12_lagging, cX12_lagging, 1, some .int, 4, 87, 0, [], 0)
def m_X11_blocked : MI := (yX11_blocked, cX11_blocked, 4, some .int, 3, 84, 0, [], 0)
def m_X12_blocked : MI := (yX12_blocked, cX12_blocked, 4, some .int, 5, 110, 0, [], 0)
def m_X11_inWave : MI := (yX11_inWave, cX11_inWave, 2, some .int, 6, 89, 1, [], 0)
def m_L_inWave : MI := (yL_inWave, cL_inWave, 4, some .int, 7, 110, 1, [(0, 9, 12, 35)], 2)
def m_X12_inWave : MI := (yX12_inWave, cX12_inWave, 4, some .int, 2, 44, 0, [], 0)
def m_X11_share : MI := (yX11_share, cX11_share, 4, some .float, 7, 110, 1, [], 0)
def m_L_share : MI := (yL_share, cL_share, 4, some .int, 8, 133, 1, [(0, 9, 12, 35)], 2)
def m_X12_share : MI := (yX12_share, cX12_share, 5, some .float, 3, 65, 0, [], 0)
def m_X11_meanMeasure : MI := (yX11_meanMeasure, cX11_meanMeasure, 2, some .double, 2, 44, 0, [], 0)
def m_X12_meanMeasure : MI := (yX12_meanMeasure, cX12_meanMeasure, 1, some .double, 4, 86, 0, [], 0)
def m_X11_whyNotCommit : MI := (yX11_whyNotCommit, cX11_whyNotCommit, 2, some .int, 7, 109, 1, [], 0)
def m_L_whyNotCommit : MI := (yL_whyNotCommit, cL_whyNotCommit, 4, some .int, 8, 130, 1, [(0, 9, 12, 19)], 2)
def m_X12_whyNotCommit : MI := (yX12_whyNotCommit, cX12_whyNotCommit, 2, some .int, 5, 108, 0, [], 0)
def m_X11_highestFormat : MI := (yX11_highestFormat, cX11_highestFormat, 2, some .int, 3, 68, 0, [], 0)
def m_X12_highestFormat : MI := (yX12_highestFormat, cX12_highestFormat, 3, some .int, 4, 87, 0, [], 0)
def m_X8_lowestWayBack : MI := (yX8_lowestWayBack, cX8_lowestWayBack, 2, some .int, 2, 83, 0, [], 0)
def m_X11_wayBack : MI := (yX11_wayBack, cX11_wayBack, 1, some .int, 3, 104, 0, [], 0)
def m_X12_wayBack : MI := (yX12_wayBack, cX12_wayBack, 2, some .int, 4, 88, 0, [], 0)
def m_X11_needAhead : MI := (yX11_needAhead, cX11_needAhead, 1, none, 6, 89, 1, [], 1)
def m_X8_isStuck : MI := (yX8_isStuck, cX8_isStuck, 2, some .boolean, 0, 0, 0, [], 0)
def m_X8_minutesToDone : MI := (yX8_minutesToDone, cX8_minutesToDone, 4, some .int, 5, 151, 0, [], 0)
def m_X11_minutesToEnd : MI := (yX11_minutesToEnd, cX11_minutesToEnd, 2, some .int, 7, 174, 1, [], 0)
def m_L_minutesToEnd : MI := (yL_minutesToEnd, cL_minutesToEnd, 4, some .int, 8, 195, 1, [(0, 9, 12, 19)], 2)
def m_X12_thinks : MI := (yX12_thinks, cX12_thinks, 2, none, 0, 0, 0, [], 0)
def m_X12_toEnd : MI := (yX12_toEnd, cX12_toEnd, 3, some .int, 7, 151, 0, [], 0)
def m_X12_thinksNoMore : MI := (yX12_thinksNoMore, cX12_thinksNoMore, 2, none, 0, 0, 0, [], 0)
def m_X12_minutesToEnd : MI := (yX12_minutesToEnd, cX12_minutesToEnd, 3, some .int, 8, 173, 0, [], 0)
def m_X11_minutesWhenFreed : MI := (yX11_minutesWhenFreed, cX11_minutesWhenFreed, 2, some .int, 6, 174, 0, [], 0)
def m_X11_minutesIfFree : MI := (yX11_minutesIfFree, cX11_minutesIfFree, 2, some .int, 7, 195, 1, [], 0)
def m_L_minutesIfFree : MI := (yL_minutesIfFree, cL_minutesIfFree, 4, some .int, 8, 216, 1, [(0, 9, 12, 35)], 2)
def m_X12_ifFree : MI := (yX12_ifFree, cX12_ifFree, 3, some .int, 8, 173, 0, [], 0)
def m_X12_minutesIfFree : MI := (yX12_minutesIfFree, cX12_minutesIfFree, 2, some .int, 9, 195, 0, [], 0)
def m_X11_bestToFree : MI := (yX11_bestToFree, cX11_bestToFree, 5, some .int, 7, 195, 0, [], 0)
def m_X12_bestToFree : MI := (yX12_bestToFree, cX12_bestToFree, 5, some .int, 9, 195, 0, [], 0)
def m_X8_changesWithin : MI := (yX8_changesWithin, cX8_changesWithin, 5, some .int, 5, 151, 0, [], 0)
theorem o_L_down : MOK m_L_down := MOKh (tbG_at (p := 1218) (by decide +kernel)) (tbG_at (p := 0) (by decide +kernel)) (by decide +kernel) rfl (by decide) (tbG_at (p := 1217) (by decide +kernel))
theorem o_X12_isPlace : MOK m_X12_isPlace := MOKi (tbG_at (p := 1815) (by decide +kernel)) (tbG_at (p := 10) (by decide +kernel)) (by decide +kernel) rfl rfl (tbG_at (p := 1814) (by decide +kernel)) (tbG_atS (p := 76) (by decide +kernel))
theorem o_X12_down : MOK m_X12_down := MOKi (tbG_at (p := 1811) (by decide +kernel)) (tbG_at (p := 10) (by decide +kernel)) (by decide +kernel) rfl rfl (tbG_at (p := 1809) (by decide +kernel)) (tbG_at (p := 1810) (by decide +kernel))
theorem o_X5_everyMember : MOK m_X5_everyMember := MOKi (tbG_at (p := 415) (by decide +kernel)) (tbG_at (p := 4) (by decide +kernel)) (by decide +kernel) rfl rfl (tbG_at (p := 413) (by decide +kernel)) (tbG_at (p := 414) (by decide +kernel))
theorem o_X11_skewNow : MOK m_X11_skewNow := MOKi (tbG_at (p := 411) (by decide +kernel)) (tbG_at (p := 1) (by decide +kernel)) (by decide +kernel) rfl rfl (tbG_at (p := 409) (by decide +kernel)) (tbG_at (p := 410) (by decide +kernel))
theorem o_X12_extreme : MOK m_X12_extreme := MOKi (tbG_at (p := 1827) (by decide +kernel)) (tbG_at (p := 10) (by decide +kernel)) (by decide +kernel) rfl rfl (tbG_at (p := 1826) (by decide +kernel)) (tbG_atS (p := 78) (by decide +kernel))
theorem o_X12_skewNow : MOK m_X12_skewNow := MOKi (tbG_at (p := 1823) (by decide +kernel)) (tbG_at (p := 10) (by decide +kernel)) (by decide +kernel) rfl rfl (tbG_at (p := 1821) (by decide +kernel)) (tbG_at (p := 1822) (by decide +kernel))
theorem o_X11_reason : MOK m_X11_reason := MOKi (tbG_at (p := 1229) (by decide +kernel)) (tbG_at (p := 1) (by decide +kernel)) (by decide +kernel) rfl rfl (tbG_at (p := 1227) (by decide +kernel)) (tbG_at (p := 1228) (by decide +kernel))
theorem o_L_reason : MOK m_L_reason := MOKh (tbG_at (p := 1225) (by decide +kernel)) (tbG_at (p := 0) (by decide +kernel)) (by decide +kernel) rfl (by decide) (tbG_at (p := 1224) (by decide +kernel))
theorem o_X12_areThere : MOK m_X12_areThere := MOKi (tbG_at (p := 1839) (by decide +kernel)) (tbG_at (p := 10) (by decide +kernel)) (by decide +kernel) rfl rfl (tbG_at (p := 1838) (by decide +kernel)) (tbG_atS (p := 80) (by decide +kernel))
theorem o_X12_reason : MOK m_X12_reason := MOKi (tbG_at (p := 1835) (by decide +kernel)) (tbG_at (p := 10) (by decide +kernel)) (by decide +kernel) rfl rfl (tbG_at (p := 1833) (by decide +kernel)) (tbG_at (p := 1834) (by decide +kernel))
theorem o_X11_open : MOK m_X11_open := MOKi (tbG_at (p := 1236) (by decide +kernel)) (tbG_at (p := 1) (by decide +kernel)) (by decide +kernel) rfl rfl (tbG_at (p := 1234) (by decide +kernel)) (tbG_at (p := 1235) (by decide +kernel))
theorem o_L_open : MOK m_L_open := MOKh (tbG_at (p := 1232) (by decide +kernel)) (tbG_at (p := 0) (by decide +kernel)) (by decide +kernel) rfl (by decide) (tbG_at (p := 1231) (by decide +kernel))
theorem o_X12_open : MOK m_X12_open := MOKi (tbG_at (p := 1858) (by decide +kernel)) (tbG_at (p := 10) (by decide +kernel)) (by decide +kernel) rfl rfl (tbG_at (p := 1856) (by decide +kernel)) (tbG_at (p := 1857) (by decide +kernel))
theorem o_X11_against : MOK m_X11_against := MOKi (tbG_at (p := 1243) (by decide +kernel)) (tbG_at (p := 1) (by decide +kernel)) (by decide +kernel) rfl rfl (tbG_at (p := 1241) (by decide +kernel)) (tbG_at (p := 1242) (by decide +kernel))
theorem o_L_against : MOK m_L_against := MOKh (tbG_at (p := 1239) (by decide +kernel)) (tbG_at (p := 0) (by decide +kernel)) (by decide +kernel) rfl (by decide) (tbG_at (p := 1238) (by decide +kernel))
theorem o_X12_against : MOK m_X12_against := MOKi (tbG_at (p := 1862) (by decide +kernel)) (tbG_at (p := 10) (by decide +kernel)) (by decide +kernel) rfl rfl (tbG_at (p := 1860) (by decide +kernel)) (tbG_at (p := 1861) (by decide +kernel))
theorem o_X8_mixedPairs : MOK m_X8_mixedPairs := MOKi (tbG_at (p := 440) (by decide +kernel)) (tbG_at (p := 3) (by decide +kernel)) (by decide +kernel) rfl rfl (tbG_at (p := 438) (by decide +kernel)) (tbG_at (p := 439) (by decide +kernel))
theorem o_X11_mixed : MOK m_X11_mixed := MOKi (tbG_at (p := 436) (by decide +kernel)) (tbG_at (p := 1) (by decide +kernel)) (by decide +kernel) rfl rfl (tbG_at (p := 434) (by decide +kernel)) (tbG_at (p := 435) (by decide +kernel))
theorem o_X12_mixed : MOK m_X12_mixed := MOKi (tbG_at (p := 1866) (by decide +kernel)) (tbG_at (p := 10) (by decide +kernel)) (by decide +kernel) rfl rfl (tbG_at (p := 1864) (by decide +kernel)) (tbG_at (p := 1865) (by decide +kernel))
theorem o_X8_numberOfPlan : MOK m_X8_numberOfPlan := MOKi (tbG_at (p := 1255) (by decide +kernel)) (tbG_at (p := 3) (by decide +kernel)) (by decide +kernel) rfl rfl (tbG_at (p := 1253) (by decide +kernel)) (tbG_at (p := 1254) (by decide +kernel))
theorem o_X11_plan : MOK m_X11_plan := MOKi (tbG_at (p := 1251) (by decide +kernel)) (tbG_at (p := 1) (by decide +kernel)) (by decide +kernel) rfl rfl (tbG_at (p := 1249) (by decide +kernel)) (tbG_at (p := 1250) (by decide +kernel))
theorem o_L_plan : MOK m_L_plan := MOKh (tbG_at (p := 1247) (by decide +kernel)) (tbG_at (p := 0) (by decide +kernel)) (by decide +kernel) rfl (by decide) (tbG_at (p := 1246) (by decide +kernel))
theorem o_X12_plan : MOK m_X12_plan := MOKi (tbG_at (p := 1883) (by decide +kernel)) (tbG_at (p := 10) (by decide +kernel)) (by decide +kernel) rfl rfl (tbG_at (p := 1881) (by decide +kernel)) (tbG_at (p := 1882) (by decide +kernel))
theorem o_X11_lagging : MOK m_X11_lagging := MOKi (tbG_at (p := 458) (by decide +kernel)) (tbG_at (p := 1) (by decide +kernel)) (by decide +kernel) rfl rfl (tbG_at (p := 456) (by decide +kernel)) (tbG_at (p := 457) (by decide +kernel))
theorem o_X12_lags : MOK m_X12_lags := MOKi (tbG_at (p := 1896) (by decide +kernel)) (tbG_at (p := 10) (by decide +kernel)) (by decide +kernel) rfl rfl (tbG_at (p := 1895) (by decide +kernel)) (tbG_atS (p := 86) (by decide +kernel))
theorem o_X12_lagging : MOK m_X12_lagging := MOKi (tbG_at (p := 1892) (by decide +kernel)) (tbG_at (p := 10) (by decide +kernel)) (by decide +kernel) rfl rfl (tbG_at (p := 1890) (by decide +kernel)) (tbG_at (p := 1891) (by decide +kernel))
theorem o_X11_blocked : MOK m_X11_blocked := MOKi (tbG_at (p := 474) (by decide +kernel)) (tbG_at (p := 1) (by decide +kernel)) (by decide +kernel) rfl rfl (tbG_at (p := 472) (by decide +kernel)) (tbG_at (p := 473) (by decide +kernel))
theorem o_X12_blocked : MOK m_X12_blocked := MOKi (tbG_at (p := 1908) (by decide +kernel)) (tbG_at (p := 10) (by decide +kernel)) (by decide +kernel) rfl rfl (tbG_at (p := 1906) (by decide +kernel)) (tbG_at (p := 1907) (by decide +kernel))
theorem o_X11_inWave : MOK m_X11_inWave := MOKi (tbG_at (p := 1262) (by decide +kernel)) (tbG_at (p := 1) (by decide +kernel)) (by decide +kernel) rfl rfl (tbG_at (p := 1260) (by decide +kernel)) (tbG_at (p := 1261) (by decide +kernel))
theorem o_L_inWave : MOK m_L_inWave := MOKh (tbG_at (p := 1258) (by decide +kernel)) (tbG_at (p := 0) (by decide +kernel)) (by decide +kernel) rfl (by decide) (tbG_at (p := 1257) (by decide +kernel))
theorem o_X12_inWave : MOK m_X12_inWave := MOKi (tbG_at (p := 1912) (by decide +kernel)) (tbG_at (p := 10) (by decide +kernel)) (by decide +kernel) rfl rfl (tbG_at (p := 1910) (by decide +kernel)) (tbG_at (p := 1911) (by decide +kernel))
theorem o_X11_share : MOK m_X11_share := MOKi (tbG_at (p := 1269) (by decide +kernel)) (tbG_at (p := 1) (by decide +kernel)) (by decide +kernel) rfl rfl (tbG_at (p := 1267) (by decide +kernel)) (tbG_at (p := 1268) (by decide +kernel))
theorem o_L_share : MOK m_L_share := MOKh (tbG_at (p := 1265) (by decide +kernel)) (tbG_at (p := 0) (by decide +kernel)) (by decide +kernel) rfl (by decide) (tbG_at (p := 1264) (by decide +kernel))
theorem o_X12_share : MOK m_X12_share := MOKi (tbG_at (p := 1916) (by decide +kernel)) (tbG_at (p := 10) (by decide +kernel)) (by decide +kernel) rfl rfl (tbG_at (p := 1914) (by decide +kernel)) (tbG_at (p := 1915) (by decide +kernel))
theorem o_X11_meanMeasure : MOK m_X11_meanMeasure := MOKi (tbG_at (p := 502) (by decide +kernel)) (tbG_at (p := 1) (by decide +kernel)) (by decide +kernel) rfl rfl (tbG_at (p := 500) (by decide +kernel)) (tbG_at (p := 501) (by decide +kernel))
theorem o_X12_meanMeasure : MOK m_X12_meanMeasure := MOKi (tbG_at (p := 1924) (by decide +kernel)) (tbG_at (p := 10) (by decide +kernel)) (by decide +kernel) rfl rfl (tbG_at (p := 1922) (by decide +kernel)) (tbG_at (p := 1923) (by decide +kernel))
theorem o_X11_whyNotCommit : MOK m_X11_whyNotCommit := MOKi (tbG_at (p := 1277) (by decide +kernel)) (tbG_at (p := 1) (by decide +kernel)) (by decide +kernel) rfl rfl (tbG_at (p := 1275) (by decide +kernel)) (tbG_at (p := 1276) (by decide +kernel))
theorem o_L_whyNotCommit : MOK m_L_whyNotCommit := MOKh (tbG_at (p := 1273) (by decide +kernel)) (tbG_at (p := 0) (by decide +kernel)) (by decide +kernel) rfl (by decide) (tbG_at (p := 1272) (by decide +kernel))
theorem o_X12_whyNotCommit : MOK m_X12_whyNotCommit := MOKi (tbG_at (p := 1932) (by decide +kernel)) (tbG_at (p := 10) (by decide +kernel)) (by decide +kernel) rfl rfl (tbG_at (p := 1930) (by decide +kernel)) (tbG_at (p := 1931) (by decide +kernel))
theorem o_X11_highestFormat : MOK m_X11_highestFormat := MOKi (tbG_at (p := 520) (by decide +kernel)) (tbG_at (p := 1) (by decide +kernel)) (by decide +kernel) rfl rfl (tbG_at (p := 518) (by decide +kernel)) (tbG_at (p := 519) (by decide +kernel))
theorem o_X12_highestFormat : MOK m_X12_highestFormat := MOKi (tbG_at (p := 1944) (by decide +kernel)) (tbG_at (p := 10) (by decide +kernel)) (by decide +kernel) rfl rfl (tbG_at (p := 1942) (by decide +kernel)) (tbG_at (p := 1943) (by decide +kernel))
theorem o_X8_lowestWayBack : MOK m_X8_lowestWayBack := MOKi (tbG_at (p := 537) (by decide +kernel)) (tbG_at (p := 3) (by decide +kernel)) (by decide +kernel) rfl rfl (tbG_at (p := 535) (by decide +kernel)) (tbG_at (p := 536) (by decide +kernel))
theorem o_X11_wayBack : MOK m_X11_wayBack := MOKi (tbG_at (p := 533) (by decide +kernel)) (tbG_at (p := 1) (by decide +kernel)) (by decide +kernel) rfl rfl (tbG_at (p := 531) (by decide +kernel)) (tbG_at (p := 532) (by decide +kernel))
theorem o_X12_wayBack : MOK m_X12_wayBack := MOKi (tbG_at (p := 1948) (by decide +kernel)) (tbG_at (p := 10) (by decide +kernel)) (by decide +kernel) rfl rfl (tbG_at (p := 1946) (by decide +kernel)) (tbG_at (p := 1947) (by decide +kernel))
theorem o_X11_needAhead : MOK m_X11_needAhead := MOKs (tbG_at (p := 1288) (by decide +kernel)) (tbG_at (p := 1) (by decide +kernel)) (by decide +kernel) rfl rfl (tbG_at (p := 1287) (by decide +kernel))
theorem o_X8_isStuck : MOK m_X8_isStuck := MOKi (tbG_at (p := 620) (by decide +kernel)) (tbG_at (p := 3) (by decide +kernel)) (by decide +kernel) rfl rfl (tbG_at (p := 619) (by decide +kernel)) (tbG_atS (p := 8) (by decide +kernel))
theorem o_X8_minutesToDone : MOK m_X8_minutesToDone := MOKi (tbG_at (p := 567) (by decide +kernel)) (tbG_at (p := 3) (by decide +kernel)) (by decide +kernel) rfl rfl (tbG_at (p := 565) (by decide +kernel)) (tbG_at (p := 566) (by decide +kernel))
theorem o_X11_minutesToEnd : MOK m_X11_minutesToEnd := MOKi (tbG_at (p := 1285) (by decide +kernel)) (tbG_at (p := 1) (by decide +kernel)) (by decide +kernel) rfl rfl (tbG_at (p := 1283) (by decide +kernel)) (tbG_at (p := 1284) (by decide +kernel))
theorem o_L_minutesToEnd : MOK m_L_minutesToEnd := MOKh (tbG_at (p := 1281) (by decide +kernel)) (tbG_at (p := 0) (by decide +kernel)) (by decide +kernel) rfl (by decide) (tbG_at (p := 1280) (by decide +kernel))
theorem o_X12_thinks : MOK m_X12_thinks := MOKi (tbG_at (p := 1957) (by decide +kernel)) (tbG_at (p := 10) (by decide +kernel)) (by decide +kernel) rfl rfl (tbG_at (p := 1956) (by decide +kernel)) (tbG_atS (p := 93) (by decide +kernel))
theorem o_X12_toEnd : MOK m_X12_toEnd := MOKi (tbG_at (p := 1961) (by decide +kernel)) (tbG_at (p := 10) (by decide +kernel)) (by decide +kernel) rfl rfl (tbG_at (p := 1960) (by decide +kernel)) (tbG_atS (p := 94) (by decide +kernel))
theorem o_X12_thinksNoMore : MOK m_X12_thinksNoMore := MOKi (tbG_at (p := 2009) (by decide +kernel)) (tbG_at (p := 10) (by decide +kernel)) (by decide +kernel) rfl rfl (tbG_at (p := 2008) (by decide +kernel)) (tbG_atS (p := 106) (by decide +kernel))
theorem o_X12_minutesToEnd : MOK m_X12_minutesToEnd := MOKi (tbG_at (p := 1952) (by decide +kernel)) (tbG_at (p := 10) (by decide +kernel)) (by decide +kernel) rfl rfl (tbG_at (p := 1950) (by decide +kernel)) (tbG_at (p := 1951) (by decide +kernel))
theorem o_X11_minutesWhenFreed : MOK m_X11_minutesWhenFreed := MOKi (tbG_at (p := 547) (by decide +kernel)) (tbG_at (p := 1) (by decide +kernel)) (by decide +kernel) rfl rfl (tbG_at (p := 546) (by decide +kernel)) (tbG_atS (p := 1) (by decide +kernel))
theorem o_X11_minutesIfFree : MOK m_X11_minutesIfFree := MOKi (tbG_at (p := 1295) (by decide +kernel)) (tbG_at (p := 1) (by decide +kernel)) (by decide +kernel) rfl rfl (tbG_at (p := 1293) (by decide +kernel)) (tbG_at (p := 1294) (by decide +kernel))
theorem o_L_minutesIfFree : MOK m_L_minutesIfFree := MOKh (tbG_at (p := 1291) (by decide +kernel)) (tbG_at (p := 0) (by decide +kernel)) (by decide +kernel) rfl (by decide) (tbG_at (p := 1290) (by decide +kernel))
theorem o_X12_ifFree : MOK m_X12_ifFree := MOKi (tbG_at (p := 2017) (by decide +kernel)) (tbG_at (p := 10) (by decide +kernel)) (by decide +kernel) rfl rfl (tbG_at (p := 2016) (by decide +kernel)) (tbG_atS (p := 107) (by decide +kernel))
theorem o_X12_minutesIfFree : MOK m_X12_minutesIfFree := MOKi (tbG_at (p := 2013) (by decide +kernel)) (tbG_at (p := 10) (by decide +kernel)) (by decide +kernel) rfl rfl (tbG_at (p := 2011) (by decide +kernel)) (tbG_at (p := 2012) (by decide +kernel))
theorem o_X11_bestToFree : MOK m_X11_bestToFree := MOKi (tbG_at (p := 543) (by decide +kernel)) (tbG_at (p := 1) (by decide +kernel)) (by decide +kernel) rfl rfl (tbG_at (p := 541) (by decide +kernel)) (tbG_at (p := 542) (by decide +kernel))
theorem o_X12_bestToFree : MOK m_X12_bestToFree := MOKi (tbG_at (p := 2021) (by decide +kernel)) (tbG_at (p := 10) (by decide +kernel)) (by decide +kernel) rfl rfl (tbG_at (p := 2019) (by decide +kernel)) (tbG_at (p := 2020) (by decide +kernel))
theorem o_X8_changesWithin : MOK m_X8_changesWithin := MOKi (tbG_at (p := 1306) (by decide +kernel)) (tbG_at (p := 3) (by decide +kernel)) (by decide +kernel) rfl rfl (tbG_at (p := 1304) (by decide +kernel)) (tbG_at (p := 1305) (by decide +kernel))
def c_L_down : Cd := [
  [(0, .aload_n 2, 1, [], []), (1, .iconst 0, 1, [], []), (2, .aload_n 0, 1, [], []), (3, .iload_n 1, 1, [], []), (4, .invokevirtual 59, 3, [0, 1, 1, 8, 1, 1219, 0, 0, 0, 0, 13, 3], [m_X11_down]), (7, .i2l, 1, [], []), (8, .lastore, 1, [], []), (9, .goto 6, 3, [15], []), (13, .iconst 1, 1, [], []), (14, .ireturn, 1, [1], []), (15, .iconst 0, 1, [], [])],
  [(16, .ireturn, 1, [1], [])]]
theorem k_L_down : CdOk m_L_down c_L_down := ⟨by decide +kernel, allM_of ⟨o_X11_down, trivial⟩⟩
def c_X12_isPlace : Cd := [
  [(0, .iload_n 1, 1, [], []), (1, .i2l, 1, [], []), (2, .lconst 0, 1, [], []), (3, .aload_n 0, 1, [], []), (4, .getfield 20, 3, [9, 13, 3, 1434], []), (7, .iconst 1, 1, [], []), (8, .iaload, 1, [], []), (9, .iconst 1, 1, [], []), (10, .isub, 1, [], []), (11, .i2l, 1, [], []), (12, .invokestatic 87, 3, [1, 3, 1, 0, 0, 1565], [m_X12_isIn]), (15, .ireturn, 1, [6], [])]]
theorem k_X12_isPlace : CdOk m_X12_isPlace c_X12_isPlace := ⟨by decide +kernel, allM_of ⟨o_X12_isIn, trivial⟩⟩
def c_X12_down : Cd := [
  [(0, .aload_n 0, 1, [], []), (1, .aload_n 0, 1, [], []), (2, .iload_n 1, 1, [], []), (3, .invokevirtual 293, 3, [0, 1, 1, 9, 0, 1812], [m_X12_isPlace]), (6, .invokevirtual 79, 3, [0, 1, 1, 9, 0, 1550], [m_X12_goes]), (9, .ifCond .eq 11, 3, [20], []), (12, .aload_n 0, 1, [], []), (13, .iload_n 1, 1, [], []), (14, .invokevirtual 296, 3, [0, 1, 1, 9, 0, 1816], [m_X12_downIn])],
  [(17, .goto 4, 3, [21], []), (20, .iconst 0, 1, [], []), (21, .ireturn, 1, [1], [])]]
theorem k_X12_down : CdOk m_X12_down c_X12_down := ⟨by decide +kernel, allM_of ⟨o_X12_isPlace, ⟨o_X12_goes, ⟨o_X12_downIn, trivial⟩⟩⟩⟩
def c_X5_everyMember : Cd := [
  [(0, .iconst 1, 1, [], []), (1, .aload_n 0, 1, [], []), (2, .getfield 42, 3, [3, 8, 3, 124], []), (5, .getfield 54, 3, [4, 1, 0, 92], []), (8, .ishl, 1, [], []), (9, .iconst 1, 1, [], []), (10, .isub, 1, [], []), (11, .ireturn, 1, [1], [])]]
theorem k_X5_everyMember : CdOk m_X5_everyMember c_X5_everyMember := ⟨by decide +kernel, allM_of trivial⟩
def c_X11_skewNow : Cd := [
  [(0, .aload_n 0, 1, [], []), (1, .getfield 24, 3, [8, 1, 3, 367], []), (4, .getfield 28, 3, [6, 0, 3, 222], []), (7, .invokevirtual 187, 3, [0, 0, 1, 3, 0, 412], [m_X5_everyMember]), (10, .istore_n 1, 1, [], []), (11, .iload_n 1, 1, [], []), (12, .ifCond .ne 7, 3, [19], []), (15, .iconst 0, 1, [], [])],
  [(16, .goto 20, 3, [36], []), (19, .aload_n 0, 1, [], []), (20, .getfield 24, 3, [8, 1, 3, 367], []), (23, .iload_n 1, 1, [], []), (24, .invokevirtual 190, 3, [0, 1, 1, 6, 0, 416], [m_X8_highestComing]), (27, .aload_n 0, 1, [], []), (28, .getfield 24, 3, [8, 1, 3, 367], []), (31, .iload_n 1, 1, [], [])],
  [(32, .invokevirtual 193, 3, [0, 1, 1, 6, 0, 426], [m_X8_lowestComing]), (35, .isub, 1, [], []), (36, .ireturn, 1, [1], [])]]
theorem k_X11_skewNow : CdOk m_X11_skewNow c_X11_skewNow := ⟨by decide +kernel, allM_of ⟨o_X5_everyMember, ⟨o_X8_highestComing, ⟨o_X8_lowestComing, trivial⟩⟩⟩⟩
def c_X12_extreme : Cd := [
  [(0, .iconst (-1), 1, [], []), (1, .istore_n 2, 1, [], []), (2, .iconst 0, 1, [], []), (3, .istore_n 3, 1, [], []), (4, .iload_n 3, 1, [], []), (5, .aload_n 0, 1, [], []), (6, .getfield 20, 3, [9, 13, 3, 1434], []), (9, .iconst 2, 1, [], []), (10, .iaload, 1, [], []), (11, .if_icmp .ge 47, 3, [58], []), (14, .aload_n 0, 1, [], []), (15, .iload_n 3, 1, [], [])],
  [(16, .invokevirtual 299, 3, [0, 1, 1, 9, 0, 1828], [m_X12_coming]), (19, .istore 4, 2, [], []), (21, .iload_n 2, 1, [], []), (22, .iconst (-1), 1, [], []), (23, .if_icmp .eq 22, 3, [45], []), (26, .iload_n 1, 1, [], []), (27, .ifCond .eq 12, 3, [39], []), (30, .iload 4, 2, [], [])],
  [(32, .iload_n 2, 1, [], []), (33, .if_icmp .ge 17, 3, [50], []), (36, .goto 9, 3, [45], []), (39, .iload 4, 2, [], []), (41, .iload_n 2, 1, [], []), (42, .if_icmp .le 8, 3, [50], []), (45, .iload 4, 2, [], []), (47, .goto 4, 3, [51], [])],
  [(50, .iload_n 2, 1, [], []), (51, .istore_n 2, 1, [], []), (52, .iinc 3 1, 3, [], []), (55, .goto (-51), 3, [4], []), (58, .iload_n 2, 1, [], []), (59, .ireturn, 1, [1], [])]]
theorem k_X12_extreme : CdOk m_X12_extreme c_X12_extreme := ⟨by decide +kernel, allM_of ⟨o_X12_coming, trivial⟩⟩
def c_X12_skewNow : Cd := [
  [(0, .aload_n 0, 1, [], []), (1, .iconst 0, 1, [], []), (2, .putfield 69, 3, [9, 0, 0, 1421], []), (5, .aload_n 0, 1, [], []), (6, .iconst 0, 1, [], []), (7, .invokevirtual 302, 3, [0, 1, 1, 9, 0, 1824], [m_X12_extreme]), (10, .aload_n 0, 1, [], []), (11, .iconst 1, 1, [], []), (12, .invokevirtual 302, 3, [0, 1, 1, 9, 0, 1824], [m_X12_extreme]), (15, .isub, 1, [], [])],
  [(16, .ireturn, 1, [1], [])]]
theorem k_X12_skewNow : CdOk m_X12_skewNow c_X12_skewNow := ⟨by decide +kernel, allM_of ⟨o_X12_extreme, ⟨o_X12_extreme, trivial⟩⟩⟩
def c_X11_reason : Cd := [
  [(0, .aload_n 0, 1, [], []), (1, .iload_n 1, 1, [], []), (2, .invokevirtual 162, 3, [0, 1, 0, 8, 1, 1189], [m_X11_needMember]), (5, .aload_n 0, 1, [], []), (6, .iload_n 2, 1, [], []), (7, .invokevirtual 139, 3, [0, 1, 0, 8, 1, 1117], [m_X11_needVersion]), (10, .aload_n 0, 1, [], []), (11, .getfield 24, 3, [8, 1, 3, 367], []), (14, .iload_n 1, 1, [], []), (15, .iload_n 2, 1, [], [])],
  [(16, .invokevirtual 196, 3, [0, 2, 1, 6, 0, 476], [m_X8_whyNotBegin]), (19, .ireturn, 1, [1], [])]]
theorem k_X11_reason : CdOk m_X11_reason c_X11_reason := ⟨by decide +kernel, allM_of ⟨o_X11_needMember, ⟨o_X11_needVersion, ⟨o_X8_whyNotBegin, trivial⟩⟩⟩⟩
def c_L_reason : Cd := [
  [(0, .aload_n 3, 1, [], []), (1, .iconst 0, 1, [], []), (2, .aload_n 0, 1, [], []), (3, .iload_n 1, 1, [], []), (4, .iload_n 2, 1, [], []), (5, .invokevirtual 62, 3, [0, 2, 1, 8, 2, 1226, 0, 0, 0, 0, 15, 4], [m_X11_reason]), (8, .i2l, 1, [], []), (9, .lastore, 1, [], []), (10, .goto 7, 3, [17], []), (15, .iconst 1, 1, [], [])],
  [(16, .ireturn, 1, [1], []), (17, .iconst 0, 1, [], []), (18, .ireturn, 1, [1], [])]]
theorem k_L_reason : CdOk m_L_reason c_L_reason := ⟨by decide +kernel, allM_of ⟨o_X11_reason, trivial⟩⟩
def c_X12_areThere : Cd := [
  [(0, .aload_n 0, 1, [], []), (1, .iload_n 1, 1, [], []), (2, .invokevirtual 278, 3, [0, 1, 1, 9, 0, 1779], [m_X12_isMember]), (5, .ifCond .eq 15, 3, [20], []), (8, .aload_n 0, 1, [], []), (9, .iload_n 2, 1, [], []), (10, .invokevirtual 267, 3, [0, 1, 1, 9, 0, 1746], [m_X12_isVersion]), (13, .ifCond .eq 7, 3, [20], [])],
  [(16, .iconst 1, 1, [], []), (17, .goto 4, 3, [21], []), (20, .iconst 0, 1, [], []), (21, .ireturn, 1, [6], [])]]
theorem k_X12_areThere : CdOk m_X12_areThere c_X12_areThere := ⟨by decide +kernel, allM_of ⟨o_X12_isMember, ⟨o_X12_isVersion, trivial⟩⟩⟩
def c_X12_reason : Cd := [
  [(0, .aload_n 0, 1, [], []), (1, .aload_n 0, 1, [], []), (2, .iload_n 1, 1, [], []), (3, .iload_n 2, 1, [], []), (4, .invokevirtual 314, 3, [0, 2, 1, 9, 0, 1836], [m_X12_areThere]), (7, .invokevirtual 79, 3, [0, 1, 1, 9, 0, 1550], [m_X12_goes]), (10, .ifCond .eq 12, 3, [22], []), (13, .aload_n 0, 1, [], []), (14, .iload_n 1, 1, [], []), (15, .iload_n 2, 1, [], [])],
  [(16, .invokevirtual 317, 3, [0, 2, 1, 9, 0, 1840], [m_X12_why]), (19, .goto 4, 3, [23], []), (22, .iconst 0, 1, [], []), (23, .ireturn, 1, [1], [])]]
theorem k_X12_reason : CdOk m_X12_reason c_X12_reason := ⟨by decide +kernel, allM_of ⟨o_X12_areThere, ⟨o_X12_goes, ⟨o_X12_why, trivial⟩⟩⟩⟩
def c_X11_open : Cd := [
  [(0, .aload_n 0, 1, [], []), (1, .iload_n 1, 1, [], []), (2, .invokevirtual 162, 3, [0, 1, 0, 8, 1, 1189], [m_X11_needMember]), (5, .iconst 0, 1, [], []), (6, .istore_n 2, 1, [], []), (7, .iconst 0, 1, [], []), (8, .istore_n 3, 1, [], []), (9, .iload_n 3, 1, [], []), (10, .aload_n 0, 1, [], []), (11, .getfield 24, 3, [8, 1, 3, 367], []), (14, .getfield 28, 3, [6, 0, 3, 222], [])],
  [(17, .getfield 199, 3, [3, 0, 3, 110], []), (20, .getfield 104, 3, [4, 1, 0, 93], []), (23, .if_icmp .ge 27, 3, [50], []), (26, .aload_n 0, 1, [], []), (27, .getfield 24, 3, [8, 1, 3, 367], []), (30, .iload_n 1, 1, [], []), (31, .iload_n 3, 1, [], [])],
  [(32, .invokevirtual 196, 3, [0, 2, 1, 6, 0, 476], [m_X8_whyNotBegin]), (35, .ifCond .ne 9, 3, [44], []), (38, .iload_n 2, 1, [], []), (39, .iconst 1, 1, [], []), (40, .iload_n 3, 1, [], []), (41, .ishl, 1, [], []), (42, .ior, 1, [], []), (43, .istore_n 2, 1, [], []), (44, .iinc 3 1, 3, [], []), (47, .goto (-38), 3, [9], [])],
  [(50, .iload_n 2, 1, [], []), (51, .ireturn, 1, [1], [])]]
theorem k_X11_open : CdOk m_X11_open c_X11_open := ⟨by decide +kernel, allM_of ⟨o_X11_needMember, ⟨o_X8_whyNotBegin, trivial⟩⟩⟩
def c_L_open : Cd := [
  [(0, .aload_n 2, 1, [], []), (1, .iconst 0, 1, [], []), (2, .aload_n 0, 1, [], []), (3, .iload_n 1, 1, [], []), (4, .invokevirtual 65, 3, [0, 1, 1, 8, 1, 1233, 0, 0, 0, 0, 13, 3], [m_X11_open]), (7, .i2l, 1, [], []), (8, .lastore, 1, [], []), (9, .goto 6, 3, [15], []), (13, .iconst 1, 1, [], []), (14, .ireturn, 1, [1], []), (15, .iconst 0, 1, [], [])],
  [(16, .ireturn, 1, [1], [])]]
theorem k_L_open : CdOk m_L_open c_L_open := ⟨by decide +kernel, allM_of ⟨o_X11_open, trivial⟩⟩
def c_X12_open : Cd := [
  [(0, .aload_n 0, 1, [], []), (1, .aload_n 0, 1, [], []), (2, .iload_n 1, 1, [], []), (3, .invokevirtual 278, 3, [0, 1, 1, 9, 0, 1779], [m_X12_isMember]), (6, .invokevirtual 79, 3, [0, 1, 1, 9, 0, 1550], [m_X12_goes]), (9, .ifCond .ne 5, 3, [14], []), (12, .iconst 0, 1, [], []), (13, .ireturn, 1, [1], []), (14, .iconst 0, 1, [], []), (15, .istore_n 2, 1, [], [])],
  [(16, .iconst 0, 1, [], []), (17, .istore_n 3, 1, [], []), (18, .iload_n 3, 1, [], []), (19, .aload_n 0, 1, [], []), (20, .getfield 20, 3, [9, 13, 3, 1434], []), (23, .iconst 0, 1, [], []), (24, .iaload, 1, [], []), (25, .if_icmp .ge 31, 3, [56], []), (28, .iload_n 2, 1, [], []), (29, .aload_n 0, 1, [], []), (30, .iload_n 1, 1, [], []), (31, .iload_n 3, 1, [], [])],
  [(32, .invokevirtual 317, 3, [0, 2, 1, 9, 0, 1840], [m_X12_why]), (35, .ifCond .ne 7, 3, [42], []), (38, .iconst 1, 1, [], []), (39, .goto 4, 3, [43], []), (42, .iconst 0, 1, [], []), (43, .invokestatic 72, 3, [1, 1, 1, 0, 0, 1554], [m_X12_truth]), (46, .iload_n 3, 1, [], []), (47, .ishl, 1, [], [])],
  [(48, .ior, 1, [], []), (49, .istore_n 2, 1, [], []), (50, .iinc 3 1, 3, [], []), (53, .goto (-35), 3, [18], []), (56, .iload_n 2, 1, [], []), (57, .ireturn, 1, [1], [])]]
theorem k_X12_open : CdOk m_X12_open c_X12_open := ⟨by decide +kernel, allM_of ⟨o_X12_isMember, ⟨o_X12_goes, ⟨o_X12_why, ⟨o_X12_truth, trivial⟩⟩⟩⟩⟩
def c_X11_against : Cd := [
  [(0, .aload_n 0, 1, [], []), (1, .iload_n 1, 1, [], []), (2, .invokevirtual 162, 3, [0, 1, 0, 8, 1, 1189], [m_X11_needMember]), (5, .aload_n 0, 1, [], []), (6, .iload_n 2, 1, [], []), (7, .invokevirtual 139, 3, [0, 1, 0, 8, 1, 1117], [m_X11_needVersion]), (10, .aload_n 0, 1, [], []), (11, .getfield 24, 3, [8, 1, 3, 367], []), (14, .iload_n 1, 1, [], []), (15, .iload_n 2, 1, [], [])],
  [(16, .invokevirtual 202, 3, [0, 2, 1, 6, 0, 1244], [m_X8_opponents]), (19, .ireturn, 1, [1], [])]]
theorem k_X11_against : CdOk m_X11_against c_X11_against := ⟨by decide +kernel, allM_of ⟨o_X11_needMember, ⟨o_X11_needVersion, ⟨o_X8_opponents, trivial⟩⟩⟩⟩
def c_L_against : Cd := [
  [(0, .aload_n 3, 1, [], []), (1, .iconst 0, 1, [], []), (2, .aload_n 0, 1, [], []), (3, .iload_n 1, 1, [], []), (4, .iload_n 2, 1, [], []), (5, .invokevirtual 68, 3, [0, 2, 1, 8, 2, 1240, 0, 0, 0, 0, 15, 4], [m_X11_against]), (8, .i2l, 1, [], []), (9, .lastore, 1, [], []), (10, .goto 7, 3, [17], []), (15, .iconst 1, 1, [], [])],
  [(16, .ireturn, 1, [1], []), (17, .iconst 0, 1, [], []), (18, .ireturn, 1, [1], [])]]
theorem k_L_against : CdOk m_L_against c_L_against := ⟨by decide +kernel, allM_of ⟨o_X11_against, trivial⟩⟩
def c_X12_against : Cd := [
  [(0, .aload_n 0, 1, [], []), (1, .aload_n 0, 1, [], []), (2, .iload_n 1, 1, [], []), (3, .iload_n 2, 1, [], []), (4, .invokevirtual 314, 3, [0, 2, 1, 9, 0, 1836], [m_X12_areThere]), (7, .invokevirtual 79, 3, [0, 1, 1, 9, 0, 1550], [m_X12_goes]), (10, .ifCond .eq 12, 3, [22], []), (13, .aload_n 0, 1, [], []), (14, .iload_n 1, 1, [], []), (15, .iload_n 2, 1, [], [])],
  [(16, .invokevirtual 311, 3, [0, 2, 1, 9, 0, 1851], [m_X12_silent]), (19, .goto 4, 3, [23], []), (22, .iconst 0, 1, [], []), (23, .ireturn, 1, [1], [])]]
theorem k_X12_against : CdOk m_X12_against c_X12_against := ⟨by decide +kernel, allM_of ⟨o_X12_areThere, ⟨o_X12_goes, ⟨o_X12_silent, trivial⟩⟩⟩⟩
def c_X8_mixedPairs : Cd := [
  [(0, .iconst 0, 1, [], []), (1, .istore_n 1, 1, [], []), (2, .iconst 0, 1, [], []), (3, .istore_n 2, 1, [], []), (4, .iload_n 2, 1, [], []), (5, .aload_n 0, 1, [], []), (6, .getfield 31, 3, [6, 0, 3, 223], []), (9, .getfield 89, 3, [3, 8, 3, 127], []), (12, .getfield 93, 3, [4, 1, 0, 95], []), (15, .if_icmp .ge 54, 3, [69], [])],
  [(18, .aload_n 0, 1, [], []), (19, .iload_n 2, 1, [], []), (20, .invokevirtual 135, 3, [0, 1, 1, 6, 0, 441], [m_X8_isUp]), (23, .ifCond .eq 40, 3, [63], []), (26, .aload_n 0, 1, [], []), (27, .getfield 31, 3, [6, 0, 3, 223], []), (30, .getfield 162, 3, [3, 10, 3, 135], [])],
  [(33, .iload_n 2, 1, [], []), (34, .iaload, 1, [], []), (35, .aload_n 0, 1, [], []), (36, .getfield 45, 3, [6, 7, 0, 237], []), (39, .iconst (-1), 1, [], []), (40, .ixor, 1, [], []), (41, .iand, 1, [], []), (42, .aload_n 0, 1, [], []), (43, .aload_n 0, 1, [], []), (44, .getfield 9, 3, [6, 3, 3, 229], []), (47, .iload_n 2, 1, [], [])],
  [(48, .iaload, 1, [], []), (49, .invokevirtual 165, 3, [0, 1, 1, 6, 0, 445], [m_X8_upWith]), (52, .iconst (-1), 1, [], []), (53, .ixor, 1, [], []), (54, .iand, 1, [], []), (55, .istore_n 3, 1, [], []), (56, .iload_n 1, 1, [], []), (57, .iload_n 3, 1, [], []), (58, .invokestatic 151, 3, [1, 1, 1, 0, 0, 449], [m_J6_bitCount_0f7a4]), (61, .iadd, 1, [], []), (62, .istore_n 1, 1, [], []), (63, .iinc 2 1, 3, [], [])],
  [(66, .goto (-62), 3, [4], []), (69, .iload_n 1, 1, [], []), (70, .iconst 2, 1, [], []), (71, .idiv, 1, [], []), (72, .ireturn, 1, [1], [])]]
theorem k_X8_mixedPairs : CdOk m_X8_mixedPairs c_X8_mixedPairs := ⟨by decide +kernel, allM_of ⟨o_X8_isUp, ⟨o_X8_upWith, ⟨o_J6_bitCount_0f7a4, trivial⟩⟩⟩⟩
def c_X11_mixed : Cd := [
  [(0, .aload_n 0, 1, [], []), (1, .getfield 24, 3, [8, 1, 3, 367], []), (4, .invokevirtual 205, 3, [0, 0, 1, 6, 0, 437], [m_X8_mixedPairs]), (7, .ireturn, 1, [1], [])]]
theorem k_X11_mixed : CdOk m_X11_mixed c_X11_mixed := ⟨by decide +kernel, allM_of ⟨o_X8_mixedPairs, trivial⟩⟩
def c_X12_mixed : Cd := [
  [(0, .aload_n 0, 1, [], []), (1, .iconst 0, 1, [], []), (2, .putfield 69, 3, [9, 0, 0, 1421], []), (5, .iconst 0, 1, [], []), (6, .istore_n 1, 1, [], []), (7, .iconst 0, 1, [], []), (8, .istore_n 2, 1, [], []), (9, .iload_n 2, 1, [], []), (10, .aload_n 0, 1, [], []), (11, .getfield 20, 3, [9, 13, 3, 1434], []), (14, .iconst 2, 1, [], []), (15, .iaload, 1, [], [])],
  [(16, .if_icmp .ge 73, 3, [89], []), (19, .iconst 0, 1, [], []), (20, .istore_n 3, 1, [], []), (21, .iload_n 3, 1, [], []), (22, .iload_n 2, 1, [], []), (23, .if_icmp .ge 60, 3, [83], []), (26, .iload_n 1, 1, [], []), (27, .aload_n 0, 1, [], []), (28, .iload_n 2, 1, [], []), (29, .iload_n 3, 1, [], []), (30, .invokevirtual 287, 3, [0, 2, 1, 9, 0, 1792], [m_X12_arePartners])],
  [(33, .ifCond .eq 38, 3, [71], []), (36, .aload_n 0, 1, [], []), (37, .iload_n 2, 1, [], []), (38, .invokevirtual 155, 3, [0, 1, 1, 9, 0, 1804], [m_X12_isDown]), (41, .ifCond .ne 30, 3, [71], []), (44, .aload_n 0, 1, [], []), (45, .iload_n 3, 1, [], []), (46, .invokevirtual 155, 3, [0, 1, 1, 9, 0, 1804], [m_X12_isDown])],
  [(49, .ifCond .ne 22, 3, [71], []), (52, .aload_n 0, 1, [], []), (53, .iload_n 2, 1, [], []), (54, .iconst 1, 1, [], []), (55, .invokevirtual 151, 3, [0, 2, 1, 9, 0, 1689], [m_X12_of]), (58, .aload_n 0, 1, [], []), (59, .iload_n 3, 1, [], []), (60, .iconst 1, 1, [], []), (61, .invokevirtual 151, 3, [0, 2, 1, 9, 0, 1689], [m_X12_of])],
  [(64, .if_icmp .eq 7, 3, [71], []), (67, .iconst 1, 1, [], []), (68, .goto 4, 3, [72], []), (71, .iconst 0, 1, [], []), (72, .invokestatic 72, 3, [1, 1, 1, 0, 0, 1554], [m_X12_truth]), (75, .iadd, 1, [], []), (76, .istore_n 1, 1, [], []), (77, .iinc 3 1, 3, [], [])],
  [(80, .goto (-59), 3, [21], []), (83, .iinc 2 1, 3, [], []), (86, .goto (-77), 3, [9], []), (89, .iload_n 1, 1, [], []), (90, .ireturn, 1, [1], [])]]
theorem k_X12_mixed : CdOk m_X12_mixed c_X12_mixed := ⟨by decide +kernel, allM_of ⟨o_X12_arePartners, ⟨o_X12_isDown, ⟨o_X12_isDown, ⟨o_X12_of, ⟨o_X12_of, ⟨o_X12_truth, trivial⟩⟩⟩⟩⟩⟩⟩
def c_X8_numberOfPlan : Cd := [
  [(0, .iload_n 1, 1, [], []), (1, .ifCond .ne 8, 3, [9], []), (4, .aload_n 0, 1, [], []), (5, .getfield 51, 3, [6, 9, 0, 241], []), (8, .ireturn, 1, [1], []), (9, .aload_n 0, 1, [], []), (10, .invokevirtual 185, 3, [0, 0, 1, 6, 0, 463], [m_X8_isUnderWay]), (13, .ifCond .ne 5, 3, [18], [])],
  [(16, .iconst (-1), 1, [], []), (17, .ireturn, 1, [1], []), (18, .iload_n 1, 1, [], []), (19, .tableswitch 49 1 4 #[29, 34, 39, 44], 29, [68, 1, 48, 53, 58, 63], [])],
  [],
  [(48, .aload_n 0, 1, [], []), (49, .getfield 54, 3, [6, 10, 0, 243], []), (52, .ireturn, 1, [1], []), (53, .aload_n 0, 1, [], []), (54, .getfield 57, 3, [6, 11, 0, 244], []), (57, .ireturn, 1, [1], []), (58, .aload_n 0, 1, [], []), (59, .getfield 64, 3, [6, 13, 0, 247], []), (62, .ireturn, 1, [1], []), (63, .aload_n 0, 1, [], [])],
  [(64, .getfield 67, 3, [6, 14, 0, 248], []), (67, .ireturn, 1, [1], []), (68, .iconst (-1), 1, [], []), (69, .ireturn, 1, [1], [])]]
theorem k_X8_numberOfPlan : CdOk m_X8_numberOfPlan c_X8_numberOfPlan := ⟨by decide +kernel, allM_of ⟨o_X8_isUnderWay, trivial⟩⟩
def c_X11_plan : Cd := [
  [(0, .iload_n 1, 1, [], []), (1, .ifCond .lt 8, 3, [9], []), (4, .iload_n 1, 1, [], []), (5, .iconst 4, 1, [], []), (6, .if_icmp .le 11, 3, [17], []), (9, .new 86, 3, [1, 88, 757, 766], [])],
  [(17, .aload_n 0, 1, [], []), (18, .getfield 24, 3, [8, 1, 3, 367], []), (21, .iload_n 1, 1, [], []), (22, .invokevirtual 208, 3, [0, 1, 1, 6, 0, 1252], [m_X8_numberOfPlan]), (25, .ireturn, 1, [1], [])]]
theorem k_X11_plan : CdOk m_X11_plan c_X11_plan := ⟨by decide +kernel, allM_of ⟨o_X8_numberOfPlan, trivial⟩⟩
def c_L_plan : Cd := [
  [(0, .aload_n 2, 1, [], []), (1, .iconst 0, 1, [], []), (2, .aload_n 0, 1, [], []), (3, .iload_n 1, 1, [], []), (4, .invokevirtual 71, 3, [0, 1, 1, 8, 1, 1248, 0, 0, 13, 3, 0, 0], [m_X11_plan]), (7, .i2l, 1, [], []), (8, .lastore, 1, [], []), (9, .goto 6, 3, [15], []), (13, .iconst 1, 1, [], []), (14, .ireturn, 1, [1], []), (15, .iconst 0, 1, [], [])],
  [(16, .ireturn, 1, [1], [])]]
theorem k_L_plan : CdOk m_L_plan c_L_plan := ⟨by decide +kernel, allM_of ⟨o_X11_plan, trivial⟩⟩
def c_X12_plan : Cd := [
  [(0, .aload_n 0, 1, [], []), (1, .iload_n 1, 1, [], []), (2, .i2l, 1, [], []), (3, .lconst 0, 1, [], []), (4, .ldc2_w 328, 3, [4, 1884], []), (7, .invokestatic 87, 3, [1, 3, 1, 0, 0, 1565], [m_X12_isIn]), (10, .invokevirtual 79, 3, [0, 1, 1, 9, 0, 1550], [m_X12_goes]), (13, .ifCond .ne 5, 3, [18], [])],
  [(16, .iconst 0, 1, [], []), (17, .ireturn, 1, [1], []), (18, .aload_n 0, 1, [], []), (19, .getfield 20, 3, [9, 13, 3, 1434], []), (22, .bipush 12, 2, [], []), (24, .iaload, 1, [], []), (25, .iconst 2, 1, [], []), (26, .if_icmp .eq 25, 3, [51], []), (29, .aload_n 0, 1, [], []), (30, .getfield 20, 3, [9, 13, 3, 1434], [])],
  [(33, .bipush 12, 2, [], []), (35, .iaload, 1, [], []), (36, .iconst 3, 1, [], []), (37, .if_icmp .ne 18, 3, [55], []), (40, .aload_n 0, 1, [], []), (41, .getfield 20, 3, [9, 13, 3, 1434], []), (44, .bipush 18, 2, [], []), (46, .iaload, 1, [], []), (47, .iconst 2, 1, [], [])],
  [(48, .if_icmp .ne 7, 3, [55], []), (51, .iconst 1, 1, [], []), (52, .goto 4, 3, [56], []), (55, .iconst 0, 1, [], []), (56, .istore_n 2, 1, [], []), (57, .iload_n 1, 1, [], []), (58, .ifCond .ne 11, 3, [69], []), (61, .aload_n 0, 1, [], []), (62, .getfield 20, 3, [9, 13, 3, 1434], [])],
  [(65, .bipush 12, 2, [], []), (67, .iaload, 1, [], []), (68, .ireturn, 1, [1], []), (69, .iload_n 1, 1, [], []), (70, .iconst 4, 1, [], []), (71, .if_icmp .ne 19, 3, [90], []), (74, .iload_n 2, 1, [], []), (75, .ifCond .eq 13, 3, [88], []), (78, .aload_n 0, 1, [], []), (79, .getfield 20, 3, [9, 13, 3, 1434], [])],
  [(82, .bipush 16, 2, [], []), (84, .iaload, 1, [], []), (85, .goto 4, 3, [89], []), (88, .iconst (-1), 1, [], []), (89, .ireturn, 1, [1], []), (90, .aload_n 0, 1, [], []), (91, .invokevirtual 330, 3, [0, 0, 1, 9, 0, 1885], [m_X12_hasPlan]), (94, .ifCond .eq 15, 3, [109], [])],
  [(97, .aload_n 0, 1, [], []), (98, .getfield 20, 3, [9, 13, 3, 1434], []), (101, .bipush 12, 2, [], []), (103, .iload_n 1, 1, [], []), (104, .iadd, 1, [], []), (105, .iaload, 1, [], []), (106, .goto 4, 3, [110], []), (109, .iconst (-1), 1, [], []), (110, .ireturn, 1, [1], [])]]
theorem k_X12_plan : CdOk m_X12_plan c_X12_plan := ⟨by decide +kernel, allM_of ⟨o_X12_isIn, ⟨o_X12_goes, ⟨o_X12_hasPlan, trivial⟩⟩⟩⟩
def c_X11_lagging : Cd := [
  [(0, .aload_n 0, 1, [], []), (1, .getfield 24, 3, [8, 1, 3, 367], []), (4, .invokevirtual 211, 3, [0, 0, 1, 6, 0, 459], [m_X8_laggards]), (7, .ireturn, 1, [1], [])]]
theorem k_X11_lagging : CdOk m_X11_lagging c_X11_lagging := ⟨by decide +kernel, allM_of ⟨o_X8_laggards, trivial⟩⟩
def c_X12_lags : Cd := [
  [(0, .iconst 0, 1, [], []), (1, .istore_n 1, 1, [], []), (2, .iconst 0, 1, [], []), (3, .istore_n 2, 1, [], []), (4, .iload_n 2, 1, [], []), (5, .aload_n 0, 1, [], []), (6, .getfield 20, 3, [9, 13, 3, 1434], []), (9, .iconst 2, 1, [], []), (10, .iaload, 1, [], []), (11, .if_icmp .ge 52, 3, [63], []), (14, .aload_n 0, 1, [], []), (15, .invokevirtual 330, 3, [0, 0, 1, 9, 0, 1885], [m_X12_hasPlan])],
  [(18, .ifCond .eq 45, 3, [63], []), (21, .iload_n 1, 1, [], []), (22, .aload_n 0, 1, [], []), (23, .iload_n 2, 1, [], []), (24, .aload_n 0, 1, [], []), (25, .getfield 20, 3, [9, 13, 3, 1434], []), (28, .bipush 15, 2, [], []), (30, .iaload, 1, [], []), (31, .invokevirtual 333, 3, [0, 2, 1, 9, 0, 1897], [m_X12_isOfWave])],
  [(34, .ifCond .eq 15, 3, [49], []), (37, .aload_n 0, 1, [], []), (38, .iload_n 2, 1, [], []), (39, .invokevirtual 336, 3, [0, 1, 1, 9, 0, 1901], [m_X12_isReady]), (42, .ifCond .ne 7, 3, [49], []), (45, .iconst 1, 1, [], []), (46, .goto 4, 3, [50], [])],
  [(49, .iconst 0, 1, [], []), (50, .invokestatic 72, 3, [1, 1, 1, 0, 0, 1554], [m_X12_truth]), (53, .iload_n 2, 1, [], []), (54, .ishl, 1, [], []), (55, .ior, 1, [], []), (56, .istore_n 1, 1, [], []), (57, .iinc 2 1, 3, [], []), (60, .goto (-56), 3, [4], []), (63, .iload_n 1, 1, [], [])],
  [(64, .ireturn, 1, [1], [])]]
theorem k_X12_lags : CdOk m_X12_lags c_X12_lags := ⟨by decide +kernel, allM_of ⟨o_X12_hasPlan, ⟨o_X12_isOfWave, ⟨o_X12_isReady, ⟨o_X12_truth, trivial⟩⟩⟩⟩⟩
def c_X12_lagging : Cd := [
  [(0, .aload_n 0, 1, [], []), (1, .iconst 0, 1, [], []), (2, .putfield 69, 3, [9, 0, 0, 1421], []), (5, .aload_n 0, 1, [], []), (6, .invokevirtual 339, 3, [0, 0, 1, 9, 0, 1893], [m_X12_lags]), (9, .ireturn, 1, [1], [])]]
theorem k_X12_lagging : CdOk m_X12_lagging c_X12_lagging := ⟨by decide +kernel, allM_of ⟨o_X12_lags, trivial⟩⟩
def c_X11_blocked : Cd := [
  [(0, .iconst 0, 1, [], []), (1, .istore_n 1, 1, [], []), (2, .aload_n 0, 1, [], []), (3, .getfield 24, 3, [8, 1, 3, 367], []), (6, .invokevirtual 211, 3, [0, 0, 1, 6, 0, 459], [m_X8_laggards]), (9, .aload_n 0, 1, [], []), (10, .getfield 24, 3, [8, 1, 3, 367], []), (13, .getfield 184, 3, [6, 7, 0, 238], [])],
  [(16, .iconst (-1), 1, [], []), (17, .ixor, 1, [], []), (18, .iand, 1, [], []), (19, .istore_n 2, 1, [], []), (20, .iconst 0, 1, [], []), (21, .istore_n 3, 1, [], []), (22, .iload_n 3, 1, [], []), (23, .aload_n 0, 1, [], []), (24, .getfield 24, 3, [8, 1, 3, 367], []), (27, .getfield 28, 3, [6, 0, 3, 222], []), (30, .getfield 100, 3, [3, 8, 3, 125], [])],
  [(33, .getfield 104, 3, [4, 1, 0, 93], []), (36, .if_icmp .ge 41, 3, [77], []), (39, .iload_n 2, 1, [], []), (40, .iload_n 3, 1, [], []), (41, .invokestatic 145, 3, [1, 2, 1, 0, 0, 475], [m_X11_isIn]), (44, .ifCond .eq 27, 3, [71], []), (47, .aload_n 0, 1, [], [])],
  [(48, .getfield 24, 3, [8, 1, 3, 367], []), (51, .iload_n 3, 1, [], []), (52, .aload_n 0, 1, [], []), (53, .getfield 24, 3, [8, 1, 3, 367], []), (56, .getfield 214, 3, [6, 11, 0, 245], []), (59, .invokevirtual 196, 3, [0, 2, 1, 6, 0, 476], [m_X8_whyNotBegin]), (62, .ifCond .eq 9, 3, [71], [])],
  [(65, .iload_n 1, 1, [], []), (66, .iconst 1, 1, [], []), (67, .iload_n 3, 1, [], []), (68, .ishl, 1, [], []), (69, .ior, 1, [], []), (70, .istore_n 1, 1, [], []), (71, .iinc 3 1, 3, [], []), (74, .goto (-52), 3, [22], []), (77, .iload_n 1, 1, [], []), (78, .ireturn, 1, [1], [])]]
theorem k_X11_blocked : CdOk m_X11_blocked c_X11_blocked := ⟨by decide +kernel, allM_of ⟨o_X8_laggards, ⟨o_X11_isIn, ⟨o_X8_whyNotBegin, trivial⟩⟩⟩⟩
def c_X12_blocked : Cd := [
  [(0, .aload_n 0, 1, [], []), (1, .iconst 0, 1, [], []), (2, .putfield 69, 3, [9, 0, 0, 1421], []), (5, .iconst 0, 1, [], []), (6, .istore_n 1, 1, [], []), (7, .aload_n 0, 1, [], []), (8, .invokevirtual 339, 3, [0, 0, 1, 9, 0, 1893], [m_X12_lags]), (11, .istore_n 2, 1, [], []), (12, .iconst 0, 1, [], []), (13, .istore_n 3, 1, [], []), (14, .iload_n 3, 1, [], []), (15, .aload_n 0, 1, [], [])],
  [(16, .getfield 20, 3, [9, 13, 3, 1434], []), (19, .iconst 2, 1, [], []), (20, .iaload, 1, [], []), (21, .if_icmp .ge 53, 3, [74], []), (24, .iload_n 1, 1, [], []), (25, .iload_n 2, 1, [], []), (26, .iload_n 3, 1, [], []), (27, .invokestatic 147, 3, [1, 2, 1, 0, 0, 1668], [m_X12_hasBit]), (30, .ifCond .eq 30, 3, [60], [])],
  [(33, .aload_n 0, 1, [], []), (34, .iload_n 3, 1, [], []), (35, .invokevirtual 155, 3, [0, 1, 1, 9, 0, 1804], [m_X12_isDown]), (38, .ifCond .ne 22, 3, [60], []), (41, .aload_n 0, 1, [], []), (42, .iload_n 3, 1, [], []), (43, .aload_n 0, 1, [], []), (44, .getfield 20, 3, [9, 13, 3, 1434], []), (47, .bipush 14, 2, [], [])],
  [(49, .iaload, 1, [], []), (50, .invokevirtual 317, 3, [0, 2, 1, 9, 0, 1840], [m_X12_why]), (53, .ifCond .eq 7, 3, [60], []), (56, .iconst 1, 1, [], []), (57, .goto 4, 3, [61], []), (60, .iconst 0, 1, [], []), (61, .invokestatic 72, 3, [1, 1, 1, 0, 0, 1554], [m_X12_truth])],
  [(64, .iload_n 3, 1, [], []), (65, .ishl, 1, [], []), (66, .ior, 1, [], []), (67, .istore_n 1, 1, [], []), (68, .iinc 3 1, 3, [], []), (71, .goto (-57), 3, [14], []), (74, .iload_n 1, 1, [], []), (75, .ireturn, 1, [1], [])]]
theorem k_X12_blocked : CdOk m_X12_blocked c_X12_blocked := ⟨by decide +kernel, allM_of ⟨o_X12_lags, ⟨o_X12_hasBit, ⟨o_X12_isDown, ⟨o_X12_why, ⟨o_X12_truth, trivial⟩⟩⟩⟩⟩⟩
def c_X11_inWave : Cd := [
  [(0, .iload_n 1, 1, [], []), (1, .ifCond .lt 17, 3, [18], []), (4, .iload_n 1, 1, [], []), (5, .aload_n 0, 1, [], []), (6, .getfield 24, 3, [8, 1, 3, 367], []), (9, .getfield 28, 3, [6, 0, 3, 222], []), (12, .getfield 217, 3, [3, 12, 0, 140], []), (15, .if_icmp .lt 11, 3, [26], [])],
  [(18, .new 178, 3, [2, 180, 1121, 1130], []), (26, .aload_n 0, 1, [], []), (27, .getfield 24, 3, [8, 1, 3, 367], []), (30, .getfield 28, 3, [6, 0, 3, 222], [])],
  [(33, .getfield 220, 3, [3, 7, 3, 122], []), (36, .iload_n 1, 1, [], []), (37, .iaload, 1, [], []), (38, .ireturn, 1, [1], [])]]
theorem k_X11_inWave : CdOk m_X11_inWave c_X11_inWave := ⟨by decide +kernel, allM_of trivial⟩
def c_L_inWave : Cd := [
  [(0, .aload_n 2, 1, [], []), (1, .iconst 0, 1, [], []), (2, .aload_n 0, 1, [], []), (3, .iload_n 1, 1, [], []), (4, .invokevirtual 74, 3, [0, 1, 1, 8, 1, 1259, 0, 0, 0, 0, 13, 3], [m_X11_inWave]), (7, .i2l, 1, [], []), (8, .lastore, 1, [], []), (9, .goto 6, 3, [15], []), (13, .iconst 1, 1, [], []), (14, .ireturn, 1, [1], []), (15, .iconst 0, 1, [], [])],
  [(16, .ireturn, 1, [1], [])]]
theorem k_L_inWave : CdOk m_L_inWave c_L_inWave := ⟨by decide +kernel, allM_of ⟨o_X11_inWave, trivial⟩⟩
def c_X12_inWave : Cd := [
  [(0, .aload_n 0, 1, [], []), (1, .iload_n 1, 1, [], []), (2, .i2l, 1, [], []), (3, .lconst 0, 1, [], []), (4, .aload_n 0, 1, [], []), (5, .getfield 20, 3, [9, 13, 3, 1434], []), (8, .iconst 3, 1, [], []), (9, .iaload, 1, [], []), (10, .iconst 1, 1, [], []), (11, .isub, 1, [], []), (12, .i2l, 1, [], []), (13, .invokestatic 87, 3, [1, 3, 1, 0, 0, 1565], [m_X12_isIn])],
  [(16, .invokevirtual 79, 3, [0, 1, 1, 9, 0, 1550], [m_X12_goes]), (19, .ifCond .ne 5, 3, [24], []), (22, .iconst 0, 1, [], []), (23, .ireturn, 1, [1], []), (24, .iconst 0, 1, [], []), (25, .istore_n 2, 1, [], []), (26, .iconst 0, 1, [], []), (27, .istore_n 3, 1, [], []), (28, .iload_n 3, 1, [], []), (29, .aload_n 0, 1, [], []), (30, .getfield 20, 3, [9, 13, 3, 1434], [])],
  [(33, .iconst 2, 1, [], []), (34, .iaload, 1, [], []), (35, .if_icmp .ge 23, 3, [58], []), (38, .iload_n 2, 1, [], []), (39, .aload_n 0, 1, [], []), (40, .iload_n 3, 1, [], []), (41, .iload_n 1, 1, [], []), (42, .invokevirtual 333, 3, [0, 2, 1, 9, 0, 1897], [m_X12_isOfWave]), (45, .invokestatic 72, 3, [1, 1, 1, 0, 0, 1554], [m_X12_truth])],
  [(48, .iload_n 3, 1, [], []), (49, .ishl, 1, [], []), (50, .ior, 1, [], []), (51, .istore_n 2, 1, [], []), (52, .iinc 3 1, 3, [], []), (55, .goto (-27), 3, [28], []), (58, .iload_n 2, 1, [], []), (59, .ireturn, 1, [1], [])]]
theorem k_X12_inWave : CdOk m_X12_inWave c_X12_inWave := ⟨by decide +kernel, allM_of ⟨o_X12_isIn, ⟨o_X12_goes, ⟨o_X12_isOfWave, ⟨o_X12_truth, trivial⟩⟩⟩⟩⟩
def c_X11_share : Cd := [
  [(0, .aload_n 0, 1, [], []), (1, .iload_n 1, 1, [], []), (2, .invokevirtual 139, 3, [0, 1, 0, 8, 1, 1117], [m_X11_needVersion]), (5, .aload_n 0, 1, [], []), (6, .getfield 24, 3, [8, 1, 3, 367], []), (9, .getfield 28, 3, [6, 0, 3, 222], []), (12, .invokevirtual 223, 3, [0, 0, 1, 3, 0, 1270], [m_X5_plannedMembers]), (15, .istore_n 2, 1, [], [])],
  [(16, .iload_n 2, 1, [], []), (17, .ifCond .ne 5, 3, [22], []), (20, .fconst 0, 1, [], []), (21, .freturn, 1, [], []), (22, .aload_n 0, 1, [], []), (23, .getfield 24, 3, [8, 1, 3, 367], []), (26, .iload_n 1, 1, [], []), (27, .invokevirtual 172, 3, [0, 1, 1, 6, 0, 1215], [m_X8_upWith]), (30, .iload_n 2, 1, [], []), (31, .iand, 1, [], [])],
  [(32, .istore_n 3, 1, [], []), (33, .iload_n 3, 1, [], []), (34, .invokestatic 226, 3, [1, 1, 1, 0, 0, 516], [m_J6_bitCount_0f7a4]), (37, .i2f, 1, [], []), (38, .iload_n 2, 1, [], []), (39, .invokestatic 226, 3, [1, 1, 1, 0, 0, 516], [m_J6_bitCount_0f7a4]), (42, .i2f, 1, [], []), (43, .fdiv, 1, [], []), (44, .freturn, 1, [], [])]]
theorem k_X11_share : CdOk m_X11_share c_X11_share := ⟨by decide +kernel, allM_of ⟨o_X11_needVersion, ⟨o_X5_plannedMembers, ⟨o_X8_upWith, ⟨o_J6_bitCount_0f7a4, ⟨o_J6_bitCount_0f7a4, trivial⟩⟩⟩⟩⟩⟩
def c_L_share : Cd := [
  [(0, .aload_n 2, 1, [], []), (1, .iconst 0, 1, [], []), (2, .aload_n 0, 1, [], []), (3, .iload_n 1, 1, [], []), (4, .invokevirtual 77, 3, [0, 1, 3, 8, 1, 1266, 0, 0, 0, 0, 13, 3], [m_X11_share]), (7, .f2d, 1, [], []), (8, .dastore, 1, [], []), (9, .goto 6, 3, [15], []), (13, .iconst 1, 1, [], []), (14, .ireturn, 1, [1], []), (15, .iconst 0, 1, [], [])],
  [(16, .ireturn, 1, [1], [])]]
theorem k_L_share : CdOk m_L_share c_L_share := ⟨by decide +kernel, allM_of ⟨o_X11_share, trivial⟩⟩
def c_X12_share : Cd := [
  [(0, .aload_n 0, 1, [], []), (1, .aload_n 0, 1, [], []), (2, .iload_n 1, 1, [], []), (3, .invokevirtual 267, 3, [0, 1, 1, 9, 0, 1746], [m_X12_isVersion]), (6, .invokevirtual 79, 3, [0, 1, 1, 9, 0, 1550], [m_X12_goes]), (9, .ifCond .ne 5, 3, [14], []), (12, .fconst 0, 1, [], []), (13, .freturn, 1, [], []), (14, .iconst 0, 1, [], []), (15, .istore_n 2, 1, [], [])],
  [(16, .iconst 0, 1, [], []), (17, .istore_n 3, 1, [], []), (18, .iconst 0, 1, [], []), (19, .istore 4, 2, [], []), (21, .iload 4, 2, [], []), (23, .aload_n 0, 1, [], []), (24, .getfield 20, 3, [9, 13, 3, 1434], []), (27, .iconst 2, 1, [], []), (28, .iaload, 1, [], []), (29, .if_icmp .ge 37, 3, [66], [])],
  [(32, .aload_n 0, 1, [], []), (33, .iload 4, 2, [], []), (35, .invokevirtual 325, 3, [0, 1, 1, 9, 0, 1917], [m_X12_isPlanned]), (38, .ifCond .ne 6, 3, [44], []), (41, .goto 19, 3, [60], []), (44, .iinc 2 1, 3, [], []), (47, .iload_n 3, 1, [], [])],
  [(48, .aload_n 0, 1, [], []), (49, .iload 4, 2, [], []), (51, .iload_n 1, 1, [], []), (52, .invokevirtual 290, 3, [0, 2, 1, 9, 0, 1800], [m_X12_isUpWith]), (55, .invokestatic 72, 3, [1, 1, 1, 0, 0, 1554], [m_X12_truth]), (58, .iadd, 1, [], []), (59, .istore_n 3, 1, [], []), (60, .iinc 4 1, 3, [], []), (63, .goto (-42), 3, [21], [])],
  [(66, .iload_n 2, 1, [], []), (67, .ifCond .ne 7, 3, [74], []), (70, .fconst 0, 1, [], []), (71, .goto 8, 3, [79], []), (74, .iload_n 3, 1, [], []), (75, .i2f, 1, [], []), (76, .iload_n 2, 1, [], []), (77, .i2f, 1, [], []), (78, .fdiv, 1, [], []), (79, .freturn, 1, [], [])]]
theorem k_X12_share : CdOk m_X12_share c_X12_share := ⟨by decide +kernel, allM_of ⟨o_X12_isVersion, ⟨o_X12_goes, ⟨o_X12_isPlanned, ⟨o_X12_isUpWith, ⟨o_X12_truth, trivial⟩⟩⟩⟩⟩⟩
def c_X11_meanMeasure : Cd := [
  [(0, .aload_n 0, 1, [], []), (1, .getfield 24, 3, [8, 1, 3, 367], []), (4, .invokevirtual 231, 3, [0, 0, 1, 6, 0, 503], [m_X8_isUnderWay]), (7, .ifCond .eq 13, 3, [20], []), (10, .aload_n 0, 1, [], []), (11, .getfield 24, 3, [8, 1, 3, 367], []), (14, .invokevirtual 234, 3, [0, 0, 1, 6, 0, 504], [m_X8_measuredSet])],
  [(17, .goto 4, 3, [21], []), (20, .iconst 0, 1, [], []), (21, .istore_n 1, 1, [], []), (22, .iload_n 1, 1, [], []), (23, .ifCond .ne 5, 3, [28], []), (26, .dconst 0, 1, [], []), (27, .dreturn, 1, [], []), (28, .aload_n 0, 1, [], []), (29, .getfield 24, 3, [8, 1, 3, 367], [])],
  [(32, .iload_n 1, 1, [], []), (33, .invokevirtual 237, 3, [0, 1, 1, 6, 0, 512], [m_X8_sumOfMeasures]), (36, .i2d, 1, [], []), (37, .iload_n 1, 1, [], []), (38, .invokestatic 226, 3, [1, 1, 1, 0, 0, 516], [m_J6_bitCount_0f7a4]), (41, .i2d, 1, [], []), (42, .ddiv, 1, [], []), (43, .dreturn, 1, [], [])]]
theorem k_X11_meanMeasure : CdOk m_X11_meanMeasure c_X11_meanMeasure := ⟨by decide +kernel, allM_of ⟨o_X8_isUnderWay, ⟨o_X8_measuredSet, ⟨o_X8_sumOfMeasures, ⟨o_J6_bitCount_0f7a4, trivial⟩⟩⟩⟩⟩
def c_X12_meanMeasure : Cd := [
  [(0, .aload_n 0, 1, [], []), (1, .iconst 0, 1, [], []), (2, .putfield 69, 3, [9, 0, 0, 1421], []), (5, .aload_n 0, 1, [], []), (6, .invokevirtual 348, 3, [0, 0, 0, 9, 0, 1925], [m_X12_measures]), (9, .aload_n 0, 1, [], []), (10, .getfield 342, 3, [9, 25, 0, 1446], []), (13, .ifCond .ne 7, 3, [20], [])],
  [(16, .dconst 0, 1, [], []), (17, .goto 14, 3, [31], []), (20, .aload_n 0, 1, [], []), (21, .getfield 345, 3, [9, 26, 0, 1447], []), (24, .i2d, 1, [], []), (25, .aload_n 0, 1, [], []), (26, .getfield 342, 3, [9, 25, 0, 1446], []), (29, .i2d, 1, [], []), (30, .ddiv, 1, [], []), (31, .dreturn, 1, [], [])]]
theorem k_X12_meanMeasure : CdOk m_X12_meanMeasure c_X12_meanMeasure := ⟨by decide +kernel, allM_of ⟨o_X12_measures, trivial⟩⟩
def c_X11_whyNotCommit : Cd := [
  [(0, .iload_n 1, 1, [], []), (1, .invokestatic 149, 3, [1, 1, 0, 0, 1, 1144], [m_X11_needFormat]), (4, .aload_n 0, 1, [], []), (5, .getfield 24, 3, [8, 1, 3, 367], []), (8, .iload_n 1, 1, [], []), (9, .invokevirtual 240, 3, [0, 1, 1, 6, 0, 1278], [m_X8_whyNotFormat]), (12, .ireturn, 1, [1], [])]]
theorem k_X11_whyNotCommit : CdOk m_X11_whyNotCommit c_X11_whyNotCommit := ⟨by decide +kernel, allM_of ⟨o_X11_needFormat, ⟨o_X8_whyNotFormat, trivial⟩⟩⟩
def c_L_whyNotCommit : Cd := [
  [(0, .aload_n 2, 1, [], []), (1, .iconst 0, 1, [], []), (2, .aload_n 0, 1, [], []), (3, .iload_n 1, 1, [], []), (4, .invokevirtual 81, 3, [0, 1, 1, 8, 1, 1274, 0, 0, 13, 3, 0, 0], [m_X11_whyNotCommit]), (7, .i2l, 1, [], []), (8, .lastore, 1, [], []), (9, .goto 6, 3, [15], []), (13, .iconst 1, 1, [], []), (14, .ireturn, 1, [1], []), (15, .iconst 0, 1, [], [])],
  [(16, .ireturn, 1, [1], [])]]
theorem k_L_whyNotCommit : CdOk m_L_whyNotCommit c_L_whyNotCommit := ⟨by decide +kernel, allM_of ⟨o_X11_whyNotCommit, trivial⟩⟩
def c_X12_whyNotCommit : Cd := [
  [(0, .aload_n 0, 1, [], []), (1, .iload_n 1, 1, [], []), (2, .i2l, 1, [], []), (3, .lconst 1, 1, [], []), (4, .ldc2_w 270, 3, [9, 1754], []), (7, .invokestatic 87, 3, [1, 3, 1, 0, 0, 1565], [m_X12_isIn]), (10, .invokevirtual 79, 3, [0, 1, 1, 9, 0, 1550], [m_X12_goes]), (13, .ifCond .eq 11, 3, [24], [])],
  [(16, .aload_n 0, 1, [], []), (17, .iload_n 1, 1, [], []), (18, .invokevirtual 387, 3, [0, 1, 1, 9, 0, 1933], [m_X12_whyCommit]), (21, .goto 4, 3, [25], []), (24, .iconst 0, 1, [], []), (25, .ireturn, 1, [1], [])]]
theorem k_X12_whyNotCommit : CdOk m_X12_whyNotCommit c_X12_whyNotCommit := ⟨by decide +kernel, allM_of ⟨o_X12_isIn, ⟨o_X12_goes, ⟨o_X12_whyCommit, trivial⟩⟩⟩⟩
def c_X11_highestFormat : Cd := [
  [(0, .aload_n 0, 1, [], []), (1, .getfield 24, 3, [8, 1, 3, 367], []), (4, .getfield 28, 3, [6, 0, 3, 222], []), (7, .getfield 100, 3, [3, 8, 3, 125], []), (10, .getfield 104, 3, [4, 1, 0, 93], []), (13, .ifCond .ne 5, 3, [18], [])],
  [(16, .iconst (-1), 1, [], []), (17, .ireturn, 1, [1], []), (18, .bipush 9, 2, [], []), (20, .istore_n 1, 1, [], []), (21, .iload_n 1, 1, [], []), (22, .iconst 1, 1, [], []), (23, .if_icmp .lt 22, 3, [45], []), (26, .aload_n 0, 1, [], []), (27, .getfield 24, 3, [8, 1, 3, 367], []), (30, .iload_n 1, 1, [], []), (31, .invokevirtual 243, 3, [0, 1, 1, 6, 0, 521], [m_X8_isReadByAll])],
  [(34, .ifCond .eq 5, 3, [39], []), (37, .iload_n 1, 1, [], []), (38, .ireturn, 1, [1], []), (39, .iinc 1 (-1), 3, [], []), (42, .goto (-21), 3, [21], []), (45, .iconst (-1), 1, [], []), (46, .ireturn, 1, [1], [])]]
theorem k_X11_highestFormat : CdOk m_X11_highestFormat c_X11_highestFormat := ⟨by decide +kernel, allM_of ⟨o_X8_isReadByAll, trivial⟩⟩
def c_X12_highestFormat : Cd := [
  [(0, .aload_n 0, 1, [], []), (1, .iconst 0, 1, [], []), (2, .putfield 69, 3, [9, 0, 0, 1421], []), (5, .iconst (-1), 1, [], []), (6, .istore_n 1, 1, [], []), (7, .iconst 1, 1, [], []), (8, .istore_n 2, 1, [], []), (9, .iload_n 2, 1, [], []), (10, .bipush 10, 2, [], []), (12, .if_icmp .ge 32, 3, [44], []), (15, .aload_n 0, 1, [], [])],
  [(16, .getfield 20, 3, [9, 13, 3, 1434], []), (19, .iconst 2, 1, [], []), (20, .iaload, 1, [], []), (21, .ifCond .le 23, 3, [44], []), (24, .aload_n 0, 1, [], []), (25, .iload_n 2, 1, [], []), (26, .invokevirtual 384, 3, [0, 1, 1, 9, 0, 1937], [m_X12_allRead]), (29, .ifCond .eq 7, 3, [36], [])],
  [(32, .iload_n 2, 1, [], []), (33, .goto 4, 3, [37], []), (36, .iload_n 1, 1, [], []), (37, .istore_n 1, 1, [], []), (38, .iinc 2 1, 3, [], []), (41, .goto (-32), 3, [9], []), (44, .iload_n 1, 1, [], []), (45, .ireturn, 1, [1], [])]]
theorem k_X12_highestFormat : CdOk m_X12_highestFormat c_X12_highestFormat := ⟨by decide +kernel, allM_of ⟨o_X12_allRead, trivial⟩⟩
def c_X8_lowestWayBack : Cd := [
  [(0, .aload_n 0, 1, [], []), (1, .getfield 31, 3, [6, 0, 3, 223], []), (4, .getfield 89, 3, [3, 8, 3, 127], []), (7, .getfield 93, 3, [4, 1, 0, 95], []), (10, .ifCond .ne 5, 3, [15], []), (13, .iconst (-1), 1, [], []), (14, .ireturn, 1, [1], []), (15, .aload_n 0, 1, [], [])],
  [(16, .aload_n 0, 1, [], []), (17, .getfield 31, 3, [6, 0, 3, 223], []), (20, .invokevirtual 178, 3, [0, 0, 1, 3, 0, 538], [m_X5_everyMember]), (23, .invokevirtual 182, 3, [0, 1, 1, 6, 0, 539], [m_X8_lowestComing]), (26, .istore_n 1, 1, [], []), (27, .iload_n 1, 1, [], []), (28, .ifCond .le 43, 3, [71], []), (31, .aload_n 0, 1, [], [])],
  [(32, .getfield 31, 3, [6, 0, 3, 223], []), (35, .iload_n 1, 1, [], []), (36, .iconst 1, 1, [], []), (37, .isub, 1, [], []), (38, .aload_n 0, 1, [], []), (39, .getfield 42, 3, [6, 2, 0, 226], []), (42, .invokevirtual 104, 3, [0, 2, 1, 3, 0, 480], [m_X5_isReader]), (45, .ifCond .eq 26, 3, [71], [])],
  [(48, .aload_n 0, 1, [], []), (49, .getfield 31, 3, [6, 0, 3, 223], []), (52, .iload_n 1, 1, [], []), (53, .invokevirtual 100, 3, [0, 1, 1, 3, 0, 495], [m_X5_talkersOf]), (56, .iload_n 1, 1, [], []), (57, .iconst 1, 1, [], []), (58, .isub, 1, [], []), (59, .invokestatic 119, 3, [2, 2, 1, 0, 0, 0], [m_X11_isIn]), (62, .ifCond .eq 9, 3, [71], [])],
  [(65, .iinc 1 (-1), 3, [], []), (68, .goto (-41), 3, [27], []), (71, .iload_n 1, 1, [], []), (72, .ireturn, 1, [1], [])]]
theorem k_X8_lowestWayBack : CdOk m_X8_lowestWayBack c_X8_lowestWayBack := ⟨by decide +kernel, allM_of ⟨o_X5_everyMember, ⟨o_X8_lowestComing, ⟨o_X5_isReader, ⟨o_X5_talkersOf, ⟨o_X11_isIn, trivial⟩⟩⟩⟩⟩⟩
def c_X11_wayBack : Cd := [
  [(0, .aload_n 0, 1, [], []), (1, .getfield 24, 3, [8, 1, 3, 367], []), (4, .invokevirtual 247, 3, [0, 0, 1, 6, 0, 534], [m_X8_lowestWayBack]), (7, .ireturn, 1, [1], [])]]
theorem k_X11_wayBack : CdOk m_X11_wayBack c_X11_wayBack := ⟨by decide +kernel, allM_of ⟨o_X8_lowestWayBack, trivial⟩⟩
def c_X12_wayBack : Cd := [
  [(0, .aload_n 0, 1, [], []), (1, .iconst 0, 1, [], []), (2, .putfield 69, 3, [9, 0, 0, 1421], []), (5, .aload_n 0, 1, [], []), (6, .iconst 1, 1, [], []), (7, .invokevirtual 302, 3, [0, 1, 1, 9, 0, 1824], [m_X12_extreme]), (10, .istore_n 1, 1, [], []), (11, .iload_n 1, 1, [], []), (12, .ifCond .le 36, 3, [48], []), (15, .aload_n 0, 1, [], [])],
  [(16, .iload_n 1, 1, [], []), (17, .iconst 1, 1, [], []), (18, .isub, 1, [], []), (19, .aload_n 0, 1, [], []), (20, .getfield 20, 3, [9, 13, 3, 1434], []), (23, .iconst 5, 1, [], []), (24, .iaload, 1, [], []), (25, .invokevirtual 181, 3, [0, 2, 1, 9, 0, 1685], [m_X12_reads]), (28, .ifCond .eq 20, 3, [48], []), (31, .aload_n 0, 1, [], [])],
  [(32, .iload_n 1, 1, [], []), (33, .iconst 1, 1, [], []), (34, .isub, 1, [], []), (35, .iload_n 1, 1, [], []), (36, .invokevirtual 178, 3, [0, 2, 1, 9, 0, 1664], [m_X12_talk]), (39, .ifCond .eq 9, 3, [48], []), (42, .iinc 1 (-1), 3, [], []), (45, .goto (-34), 3, [11], [])],
  [(48, .iload_n 1, 1, [], []), (49, .ireturn, 1, [1], [])]]
theorem k_X12_wayBack : CdOk m_X12_wayBack c_X12_wayBack := ⟨by decide +kernel, allM_of ⟨o_X12_extreme, ⟨o_X12_reads, ⟨o_X12_talk, trivial⟩⟩⟩⟩
def c_X11_needAhead : Cd := [
  [(0, .iload_n 0, 1, [], []), (1, .ifCond .lt 10, 3, [11], []), (4, .iload_n 0, 1, [], []), (5, .sipush 2000, 3, [], []), (8, .if_icmp .le 11, 3, [19], []), (11, .new 86, 3, [1, 88, 757, 766], [])],
  [(19, .return_, 1, [], [])]]
theorem k_X11_needAhead : CdOk m_X11_needAhead c_X11_needAhead := ⟨by decide +kernel, allM_of trivial⟩
def c_X8_isStuck : Cd := [
  [(0, .aload_n 0, 1, [], []), (1, .getfield 51, 3, [6, 9, 0, 241], []), (4, .iconst 1, 1, [], []), (5, .if_icmp .ne 18, 3, [23], []), (8, .iload_n 1, 1, [], []), (9, .ifCond .ne 14, 3, [23], []), (12, .aload_n 0, 1, [], []), (13, .getfield 45, 3, [6, 7, 0, 237], [])],
  [(16, .ifCond .ne 7, 3, [23], []), (19, .iconst 1, 1, [], []), (20, .goto 4, 3, [24], []), (23, .iconst 0, 1, [], []), (24, .ireturn, 1, [6], [])]]
theorem k_X8_isStuck : CdOk m_X8_isStuck c_X8_isStuck := ⟨by decide +kernel, allM_of trivial⟩
def c_X8_minutesToDone : Cd := [
  [(0, .iconst 0, 1, [], []), (1, .istore_n 2, 1, [], []), (2, .iconst 0, 1, [], []), (3, .istore_n 3, 1, [], []), (4, .iload_n 3, 1, [], []), (5, .iload_n 1, 1, [], []), (6, .if_icmp .gt 43, 3, [49], []), (9, .aload_n 0, 1, [], []), (10, .getfield 51, 3, [6, 9, 0, 241], []), (13, .iconst 4, 1, [], []), (14, .if_icmp .ne 5, 3, [19], [])],
  [(17, .iload_n 3, 1, [], []), (18, .ireturn, 1, [1], []), (19, .aload_n 0, 1, [], []), (20, .invokevirtual 192, 3, [0, 0, 1, 6, 0, 568], [m_X8_isActive]), (23, .ifCond .ne 5, 3, [28], []), (26, .iconst (-1), 1, [], []), (27, .ireturn, 1, [1], []), (28, .aload_n 0, 1, [], []), (29, .invokevirtual 210, 3, [0, 0, 1, 6, 0, 572], [m_X8_passMinute])],
  [(32, .istore_n 2, 1, [], []), (33, .aload_n 0, 1, [], []), (34, .iload_n 2, 1, [], []), (35, .invokevirtual 307, 3, [0, 1, 1, 6, 0, 617], [m_X8_isStuck]), (38, .ifCond .eq 5, 3, [43], []), (41, .iconst (-1), 1, [], []), (42, .ireturn, 1, [1], []), (43, .iinc 3 1, 3, [], []), (46, .goto (-42), 3, [4], [])],
  [(49, .iconst (-1), 1, [], []), (50, .ireturn, 1, [1], [])]]
theorem k_X8_minutesToDone : CdOk m_X8_minutesToDone c_X8_minutesToDone := ⟨by decide +kernel, allM_of ⟨o_X8_isActive, ⟨o_X8_passMinute, ⟨o_X8_isStuck, trivial⟩⟩⟩⟩
def c_X11_minutesToEnd : Cd := [
  [(0, .iload_n 1, 1, [], []), (1, .invokestatic 250, 3, [1, 1, 0, 0, 1, 1286], [m_X11_needAhead]), (4, .aload_n 0, 1, [], []), (5, .getfield 32, 3, [8, 2, 3, 368], []), (8, .aload_n 0, 1, [], []), (9, .getfield 24, 3, [8, 1, 3, 367], []), (12, .invokevirtual 253, 3, [0, 1, 0, 6, 0, 548], [m_X8_copyFrom]), (15, .aload_n 0, 1, [], [])],
  [(16, .getfield 32, 3, [8, 2, 3, 368], []), (19, .iload_n 1, 1, [], []), (20, .invokevirtual 256, 3, [0, 1, 1, 6, 0, 564], [m_X8_minutesToDone]), (23, .ireturn, 1, [1], [])]]
theorem k_X11_minutesToEnd : CdOk m_X11_minutesToEnd c_X11_minutesToEnd := ⟨by decide +kernel, allM_of ⟨o_X11_needAhead, ⟨o_X8_copyFrom, ⟨o_X8_minutesToDone, trivial⟩⟩⟩⟩
def c_L_minutesToEnd : Cd := [
  [(0, .aload_n 2, 1, [], []), (1, .iconst 0, 1, [], []), (2, .aload_n 0, 1, [], []), (3, .iload_n 1, 1, [], []), (4, .invokevirtual 84, 3, [0, 1, 1, 8, 1, 1282, 0, 0, 13, 3, 0, 0], [m_X11_minutesToEnd]), (7, .i2l, 1, [], []), (8, .lastore, 1, [], []), (9, .goto 6, 3, [15], []), (13, .iconst 1, 1, [], []), (14, .ireturn, 1, [1], []), (15, .iconst 0, 1, [], [])],
  [(16, .ireturn, 1, [1], [])]]
theorem k_L_minutesToEnd : CdOk m_L_minutesToEnd c_L_minutesToEnd := ⟨by decide +kernel, allM_of ⟨o_X11_minutesToEnd, trivial⟩⟩
def c_X12_thinks : Cd := [
  [(0, .iconst 0, 1, [], []), (1, .istore_n 1, 1, [], []), (2, .iload_n 1, 1, [], []), (3, .sipush 253, 3, [], []), (6, .if_icmp .ge 21, 3, [27], []), (9, .aload_n 0, 1, [], []), (10, .getfield 32, 3, [9, 17, 3, 1438], []), (13, .iload_n 1, 1, [], []), (14, .aload_n 0, 1, [], []), (15, .getfield 20, 3, [9, 13, 3, 1434], [])],
  [(18, .iload_n 1, 1, [], []), (19, .iaload, 1, [], []), (20, .iastore, 1, [], []), (21, .iinc 1 1, 3, [], []), (24, .goto (-22), 3, [2], []), (27, .return_, 1, [], [])]]
theorem k_X12_thinks : CdOk m_X12_thinks c_X12_thinks := ⟨by decide +kernel, allM_of trivial⟩
def c_X12_toEnd : Cd := [
  [(0, .iconst 0, 1, [], []), (1, .istore_n 2, 1, [], []), (2, .iload_n 2, 1, [], []), (3, .iload_n 1, 1, [], []), (4, .if_icmp .ge 24, 3, [28], []), (7, .aload_n 0, 1, [], []), (8, .getfield 20, 3, [9, 13, 3, 1434], []), (11, .bipush 12, 2, [], []), (13, .iaload, 1, [], []), (14, .iconst 4, 1, [], []), (15, .if_icmp .eq 13, 3, [28], [])],
  [(18, .aload_n 0, 1, [], []), (19, .invokevirtual 390, 3, [0, 0, 0, 9, 0, 1962], [m_X12_minute]), (22, .iinc 2 1, 3, [], []), (25, .goto (-23), 3, [2], []), (28, .aload_n 0, 1, [], []), (29, .getfield 20, 3, [9, 13, 3, 1434], [])],
  [(32, .bipush 12, 2, [], []), (34, .iaload, 1, [], []), (35, .iconst 4, 1, [], []), (36, .if_icmp .ne 7, 3, [43], []), (39, .iload_n 2, 1, [], []), (40, .goto 4, 3, [44], []), (43, .iconst (-1), 1, [], []), (44, .ireturn, 1, [1], [])]]
theorem k_X12_toEnd : CdOk m_X12_toEnd c_X12_toEnd := ⟨by decide +kernel, allM_of ⟨o_X12_minute, trivial⟩⟩
def c_X12_thinksNoMore : Cd := [
  [(0, .iconst 0, 1, [], []), (1, .istore_n 1, 1, [], []), (2, .iload_n 1, 1, [], []), (3, .sipush 253, 3, [], []), (6, .if_icmp .ge 21, 3, [27], []), (9, .aload_n 0, 1, [], []), (10, .getfield 20, 3, [9, 13, 3, 1434], []), (13, .iload_n 1, 1, [], []), (14, .aload_n 0, 1, [], []), (15, .getfield 32, 3, [9, 17, 3, 1438], [])],
  [(18, .iload_n 1, 1, [], []), (19, .iaload, 1, [], []), (20, .iastore, 1, [], []), (21, .iinc 1 1, 3, [], []), (24, .goto (-22), 3, [2], []), (27, .return_, 1, [], [])]]
theorem k_X12_thinksNoMore : CdOk m_X12_thinksNoMore c_X12_thinksNoMore := ⟨by decide +kernel, allM_of trivial⟩
def c_X12_minutesToEnd : Cd := [
  [(0, .aload_n 0, 1, [], []), (1, .iload_n 1, 1, [], []), (2, .i2l, 1, [], []), (3, .lconst 0, 1, [], []), (4, .ldc2_w 393, 3, [2000, 1953], []), (7, .invokestatic 87, 3, [1, 3, 1, 0, 0, 1565], [m_X12_isIn]), (10, .invokevirtual 79, 3, [0, 1, 1, 9, 0, 1550], [m_X12_goes]), (13, .ifCond .ne 5, 3, [18], [])],
  [(16, .iconst 0, 1, [], []), (17, .ireturn, 1, [1], []), (18, .aload_n 0, 1, [], []), (19, .invokevirtual 395, 3, [0, 0, 0, 9, 0, 1954], [m_X12_thinks]), (22, .aload_n 0, 1, [], []), (23, .iload_n 1, 1, [], []), (24, .invokevirtual 398, 3, [0, 1, 1, 9, 0, 1958], [m_X12_toEnd]), (27, .istore_n 2, 1, [], []), (28, .aload_n 0, 1, [], []), (29, .invokevirtual 401, 3, [0, 0, 0, 9, 0, 2006], [m_X12_thinksNoMore])],
  [(32, .iload_n 2, 1, [], []), (33, .ireturn, 1, [1], [])]]
theorem k_X12_minutesToEnd : CdOk m_X12_minutesToEnd c_X12_minutesToEnd := ⟨by decide +kernel, allM_of ⟨o_X12_isIn, ⟨o_X12_goes, ⟨o_X12_thinks, ⟨o_X12_toEnd, ⟨o_X12_thinksNoMore, trivial⟩⟩⟩⟩⟩⟩
def c_X11_minutesWhenFreed : Cd := [
  [(0, .aload_n 0, 1, [], []), (1, .getfield 32, 3, [8, 2, 3, 368], []), (4, .aload_n 0, 1, [], []), (5, .getfield 24, 3, [8, 1, 3, 367], []), (8, .invokevirtual 253, 3, [0, 1, 0, 6, 0, 548], [m_X8_copyFrom]), (11, .aload_n 0, 1, [], []), (12, .getfield 32, 3, [8, 2, 3, 368], []), (15, .dup, 1, [], [])],
  [(16, .getfield 262, 3, [6, 8, 0, 240], []), (19, .iconst 1, 1, [], []), (20, .iload_n 1, 1, [], []), (21, .ishl, 1, [], []), (22, .iconst (-1), 1, [], []), (23, .ixor, 1, [], []), (24, .iand, 1, [], []), (25, .putfield 262, 3, [6, 8, 0, 240], []), (28, .aload_n 0, 1, [], []), (29, .getfield 32, 3, [8, 2, 3, 368], [])],
  [(32, .sipush 2000, 3, [], []), (35, .invokevirtual 256, 3, [0, 1, 1, 6, 0, 564], [m_X8_minutesToDone]), (38, .ireturn, 1, [1], [])]]
theorem k_X11_minutesWhenFreed : CdOk m_X11_minutesWhenFreed c_X11_minutesWhenFreed := ⟨by decide +kernel, allM_of ⟨o_X8_copyFrom, ⟨o_X8_minutesToDone, trivial⟩⟩⟩
def c_X11_minutesIfFree : Cd := [
  [(0, .aload_n 0, 1, [], []), (1, .iload_n 1, 1, [], []), (2, .invokevirtual 162, 3, [0, 1, 0, 8, 1, 1189], [m_X11_needMember]), (5, .aload_n 0, 1, [], []), (6, .iload_n 1, 1, [], []), (7, .invokevirtual 259, 3, [0, 1, 1, 8, 0, 544], [m_X11_minutesWhenFreed]), (10, .ireturn, 1, [1], [])]]
theorem k_X11_minutesIfFree : CdOk m_X11_minutesIfFree c_X11_minutesIfFree := ⟨by decide +kernel, allM_of ⟨o_X11_needMember, ⟨o_X11_minutesWhenFreed, trivial⟩⟩⟩
def c_L_minutesIfFree : Cd := [
  [(0, .aload_n 2, 1, [], []), (1, .iconst 0, 1, [], []), (2, .aload_n 0, 1, [], []), (3, .iload_n 1, 1, [], []), (4, .invokevirtual 87, 3, [0, 1, 1, 8, 1, 1292, 0, 0, 0, 0, 13, 3], [m_X11_minutesIfFree]), (7, .i2l, 1, [], []), (8, .lastore, 1, [], []), (9, .goto 6, 3, [15], []), (13, .iconst 1, 1, [], []), (14, .ireturn, 1, [1], []), (15, .iconst 0, 1, [], [])],
  [(16, .ireturn, 1, [1], [])]]
theorem k_L_minutesIfFree : CdOk m_L_minutesIfFree c_L_minutesIfFree := ⟨by decide +kernel, allM_of ⟨o_X11_minutesIfFree, trivial⟩⟩
def c_X12_ifFree : Cd := [
  [(0, .aload_n 0, 1, [], []), (1, .invokevirtual 395, 3, [0, 0, 0, 9, 0, 1954], [m_X12_thinks]), (4, .aload_n 0, 1, [], []), (5, .iload_n 1, 1, [], []), (6, .iconst 5, 1, [], []), (7, .iconst 0, 1, [], []), (8, .invokevirtual 196, 3, [0, 3, 0, 9, 0, 1697], [m_X12_lays]), (11, .aload_n 0, 1, [], []), (12, .sipush 2000, 3, [], []), (15, .invokevirtual 398, 3, [0, 1, 1, 9, 0, 1958], [m_X12_toEnd])],
  [(18, .istore_n 2, 1, [], []), (19, .aload_n 0, 1, [], []), (20, .invokevirtual 401, 3, [0, 0, 0, 9, 0, 2006], [m_X12_thinksNoMore]), (23, .iload_n 2, 1, [], []), (24, .ireturn, 1, [1], [])]]
theorem k_X12_ifFree : CdOk m_X12_ifFree c_X12_ifFree := ⟨by decide +kernel, allM_of ⟨o_X12_thinks, ⟨o_X12_lays, ⟨o_X12_toEnd, ⟨o_X12_thinksNoMore, trivial⟩⟩⟩⟩⟩
def c_X12_minutesIfFree : Cd := [
  [(0, .aload_n 0, 1, [], []), (1, .aload_n 0, 1, [], []), (2, .iload_n 1, 1, [], []), (3, .invokevirtual 278, 3, [0, 1, 1, 9, 0, 1779], [m_X12_isMember]), (6, .invokevirtual 79, 3, [0, 1, 1, 9, 0, 1550], [m_X12_goes]), (9, .ifCond .eq 11, 3, [20], []), (12, .aload_n 0, 1, [], []), (13, .iload_n 1, 1, [], []), (14, .invokevirtual 404, 3, [0, 1, 1, 9, 0, 2014], [m_X12_ifFree])],
  [(17, .goto 4, 3, [21], []), (20, .iconst 0, 1, [], []), (21, .ireturn, 1, [1], [])]]
theorem k_X12_minutesIfFree : CdOk m_X12_minutesIfFree c_X12_minutesIfFree := ⟨by decide +kernel, allM_of ⟨o_X12_isMember, ⟨o_X12_goes, ⟨o_X12_ifFree, trivial⟩⟩⟩⟩
def c_X11_bestToFree : Cd := [
  [(0, .iconst (-1), 1, [], []), (1, .istore_n 1, 1, [], []), (2, .sipush 2001, 3, [], []), (5, .istore_n 2, 1, [], []), (6, .iconst 0, 1, [], []), (7, .istore_n 3, 1, [], []), (8, .iload_n 3, 1, [], []), (9, .aload_n 0, 1, [], []), (10, .getfield 24, 3, [8, 1, 3, 367], []), (13, .getfield 28, 3, [6, 0, 3, 222], [])],
  [(16, .getfield 100, 3, [3, 8, 3, 125], []), (19, .getfield 104, 3, [4, 1, 0, 93], []), (22, .if_icmp .ge 51, 3, [73], []), (25, .aload_n 0, 1, [], []), (26, .getfield 24, 3, [8, 1, 3, 367], []), (29, .getfield 262, 3, [6, 8, 0, 240], [])],
  [(32, .iload_n 3, 1, [], []), (33, .invokestatic 145, 3, [1, 2, 1, 0, 0, 475], [m_X11_isIn]), (36, .ifCond .eq 11, 3, [47], []), (39, .aload_n 0, 1, [], []), (40, .iload_n 3, 1, [], []), (41, .invokevirtual 259, 3, [0, 1, 1, 8, 0, 544], [m_X11_minutesWhenFreed]), (44, .goto 4, 3, [48], []), (47, .iconst (-1), 1, [], [])],
  [(48, .istore 4, 2, [], []), (50, .iload 4, 2, [], []), (52, .iconst (-1), 1, [], []), (53, .if_icmp .eq 14, 3, [67], []), (56, .iload 4, 2, [], []), (58, .iload_n 2, 1, [], []), (59, .if_icmp .ge 8, 3, [67], []), (62, .iload_n 3, 1, [], []), (63, .istore_n 1, 1, [], [])],
  [(64, .iload 4, 2, [], []), (66, .istore_n 2, 1, [], []), (67, .iinc 3 1, 3, [], []), (70, .goto (-62), 3, [8], []), (73, .iload_n 1, 1, [], []), (74, .ireturn, 1, [1], [])]]
theorem k_X11_bestToFree : CdOk m_X11_bestToFree c_X11_bestToFree := ⟨by decide +kernel, allM_of ⟨o_X11_isIn, ⟨o_X11_minutesWhenFreed, trivial⟩⟩⟩
def c_X12_bestToFree : Cd := [
  [(0, .aload_n 0, 1, [], []), (1, .iconst 0, 1, [], []), (2, .putfield 69, 3, [9, 0, 0, 1421], []), (5, .iconst (-1), 1, [], []), (6, .istore_n 1, 1, [], []), (7, .iconst 0, 1, [], []), (8, .istore_n 2, 1, [], []), (9, .iconst 0, 1, [], []), (10, .istore_n 3, 1, [], []), (11, .iload_n 3, 1, [], []), (12, .aload_n 0, 1, [], []), (13, .getfield 20, 3, [9, 13, 3, 1434], [])],
  [(16, .iconst 2, 1, [], []), (17, .iaload, 1, [], []), (18, .if_icmp .ge 55, 3, [73], []), (21, .aload_n 0, 1, [], []), (22, .iload_n 3, 1, [], []), (23, .iconst 5, 1, [], []), (24, .invokevirtual 151, 3, [0, 2, 1, 9, 0, 1689], [m_X12_of]), (27, .iconst 1, 1, [], []), (28, .if_icmp .ne 11, 3, [39], []), (31, .aload_n 0, 1, [], [])],
  [(32, .iload_n 3, 1, [], []), (33, .invokevirtual 404, 3, [0, 1, 1, 9, 0, 2014], [m_X12_ifFree]), (36, .goto 4, 3, [40], []), (39, .iconst (-1), 1, [], []), (40, .istore 4, 2, [], []), (42, .iload 4, 2, [], []), (44, .iconst (-1), 1, [], []), (45, .if_icmp .eq 22, 3, [67], [])],
  [(48, .iload_n 1, 1, [], []), (49, .iconst (-1), 1, [], []), (50, .if_icmp .eq 12, 3, [62], []), (53, .iload 4, 2, [], []), (55, .iload_n 2, 1, [], []), (56, .if_icmp .lt 6, 3, [62], []), (59, .goto 8, 3, [67], []), (62, .iload_n 3, 1, [], []), (63, .istore_n 1, 1, [], [])],
  [(64, .iload 4, 2, [], []), (66, .istore_n 2, 1, [], []), (67, .iinc 3 1, 3, [], []), (70, .goto (-59), 3, [11], []), (73, .iload_n 1, 1, [], []), (74, .ireturn, 1, [1], [])]]
theorem k_X12_bestToFree : CdOk m_X12_bestToFree c_X12_bestToFree := ⟨by decide +kernel, allM_of ⟨o_X12_of, ⟨o_X12_ifFree, trivial⟩⟩⟩
def c_X8_changesWithin : Cd := [
  [(0, .iconst 0, 1, [], []), (1, .istore_n 2, 1, [], []), (2, .iconst 0, 1, [], []), (3, .istore_n 3, 1, [], []), (4, .iload_n 3, 1, [], []), (5, .iload_n 1, 1, [], []), (6, .if_icmp .ge 38, 3, [44], []), (9, .aload_n 0, 1, [], []), (10, .invokevirtual 192, 3, [0, 0, 1, 6, 0, 568], [m_X8_isActive]), (13, .ifCond .eq 31, 3, [44], [])],
  [(16, .aload_n 0, 1, [], []), (17, .invokevirtual 210, 3, [0, 0, 1, 6, 0, 572], [m_X8_passMinute]), (20, .istore 4, 2, [], []), (22, .iload_n 2, 1, [], []), (23, .iload 4, 2, [], []), (25, .iadd, 1, [], []), (26, .istore_n 2, 1, [], []), (27, .aload_n 0, 1, [], []), (28, .iload 4, 2, [], []), (30, .invokevirtual 307, 3, [0, 1, 1, 6, 0, 617], [m_X8_isStuck])],
  [(33, .ifCond .eq 5, 3, [38], []), (36, .iload_n 2, 1, [], []), (37, .ireturn, 1, [1], []), (38, .iinc 3 1, 3, [], []), (41, .goto (-37), 3, [4], []), (44, .iload_n 2, 1, [], []), (45, .ireturn, 1, [1], [])]]
theorem k_X8_changesWithin : CdOk m_X8_changesWithin c_X8_changesWithin := ⟨by decide +kernel, allM_of ⟨o_X8_isActive, ⟨o_X8_passMinute, ⟨o_X8_isStuck, trivial⟩⟩⟩⟩
