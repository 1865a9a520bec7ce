/-! ===== tables of the methods' code, 4 ===== -/
def m_X12_isComplete : MI := (yX12_isComplete, cX12_isComplete, 3, some .boolean, 3, 65, 0, [], 0)
def m_X12_rolls : MI := (yX12_rolls, cX12_rolls, 2, none, 5, 110, 0, [], 0)
def m_X12_minute : MI := (yX12_minute, cX12_minute, 1, none, 6, 131, 0, [], 0)
def m_X12_passes : MI := (yX12_passes, cX12_passes, 3, some .int, 7, 151, 0, [], 0)
def m_X12_starts : MI := (yX12_starts, cX12_starts, 6, some .int, 3, 64, 0, [], 0)
def m_X12_goesOn : MI := (yX12_goesOn, cX12_goesOn, 1, some .int, 1, 24, 0, [], 0)
def m_X12_holds : MI := (yX12_holds, cX12_holds, 5, some .int, 1, 24, 0, [], 0)
def m_X12_reports : MI := (yX12_reports, cX12_reports, 4, some .int, 1, 23, 0, [], 0)
def m_X12_changes : MI := (yX12_changes, cX12_changes, 3, some .int, 2, 46, 0, [], 0)
def m_X12_commits : MI := (yX12_commits, cX12_commits, 3, some .int, 1, 24, 0, [], 0)
def m_X12_does : MI := (yX12_does, cX12_does, 4, some .boolean, 8, 173, 0, [], 0)
def m_X12_runs : MI := (yX12_runs, cX12_runs, 6, some .int, 9, 196, 0, [], 0)
def m_X12_keeps : MI := (yX12_keeps, cX12_keeps, 2, none, 0, 0, 0, [], 0)
def m_X12_runScript : MI := (yX12_runScript, cX12_runScript, 2, some .int, 10, 221, 0, [], 0)
def m_X11_errorCode : MI := (yX11_errorCode, cX11_errorCode, 1, some .int, 0, 0, 0, [], 0)
def m_X12_errorCode : MI := (yX12_errorCode, cX12_errorCode, 1, some .int, 0, 0, 0, [], 0)
def m_X11_errorPosition : MI := (yX11_errorPosition, cX11_errorPosition, 1, some .int, 0, 0, 0, [], 0)
def m_X12_errorPosition : MI := (yX12_errorPosition, cX12_errorPosition, 1, some .int, 0, 0, 0, [], 0)
def m_X5_numberOf : MI := (yX5_numberOf, cX5_numberOf, 2, some .int, 0, 0, 0, [], 0)
def m_X11_setting : MI := (yX11_setting, cX11_setting, 2, some .int, 6, 89, 1, [], 0)
def m_L_setting : MI := (yL_setting, cL_setting, 4, some .int, 7, 110, 1, [(0, 9, 12, 19)], 2)
def m_X12_setting : MI := (yX12_setting, cX12_setting, 2, some .int, 2, 41, 0, [], 0)
def m_X11_needVersion : MI := (yX11_needVersion, cX11_needVersion, 2, none, 6, 89, 1, [], 0)
def m_X11_mayTalk : MI := (yX11_mayTalk, cX11_mayTalk, 3, some .boolean, 7, 110, 2, [], 0)
def m_L_mayTalk : MI := (yL_mayTalk, cL_mayTalk, 5, some .int, 8, 132, 2, [(0, 17, 20, 35)], 2)
def m_X12_isVersion : MI := (yX12_isVersion, cX12_isVersion, 2, some .boolean, 1, 25, 0, [], 0)
def m_X12_mayTalk : MI := (yX12_mayTalk, cX12_mayTalk, 3, some .boolean, 2, 46, 0, [], 0)
def m_X11_needFormat : MI := (yX11_needFormat, cX11_needFormat, 1, none, 6, 89, 1, [], 1)
def m_X11_readers : MI := (yX11_readers, cX11_readers, 2, some .int, 7, 109, 1, [], 0)
def m_L_readers : MI := (yL_readers, cL_readers, 4, some .int, 8, 130, 1, [(0, 9, 12, 19)], 2)
def m_X12_readers : MI := (yX12_readers, cX12_readers, 4, some .int, 2, 47, 0, [], 0)
def m_X11_talkers : MI := (yX11_talkers, cX11_talkers, 2, some .int, 7, 110, 1, [], 0)
def m_L_talkers : MI := (yL_talkers, cL_talkers, 4, some .int, 8, 131, 1, [(0, 9, 12, 35)], 2)
def m_X12_talkers : MI := (yX12_talkers, cX12_talkers, 2, some .int, 2, 46, 0, [], 0)
def m_X8_nextVersions : MI := (yX8_nextVersions, cX8_nextVersions, 4, some .int, 2, 60, 0, [], 0)
def m_X8_changesOnWay : MI := (yX8_changesOnWay, cX8_changesOnWay, 7, some .int, 3, 83, 0, [], 0)
def m_X11_wayOf : MI := (yX11_wayOf, cX11_wayOf, 3, some .int, 7, 110, 2, [], 0)
def m_L_wayOf : MI := (yL_wayOf, cL_wayOf, 5, some .int, 8, 132, 2, [(0, 10, 13, 35)], 2)
def m_X12_mayFollow : MI := (yX12_mayFollow, cX12_mayFollow, 3, some .boolean, 2, 47, 0, [], 0)
def m_X12_laysWays : MI := (yX12_laysWays, cX12_laysWays, 5, none, 3, 69, 0, [], 0)
def m_X12_wayOf : MI := (yX12_wayOf, cX12_wayOf, 3, some .int, 4, 93, 0, [], 0)
def m_X8_firstOnWay : MI := (yX8_firstOnWay, cX8_firstOnWay, 6, some .int, 4, 109, 0, [], 0)
def m_X11_nextOnWay : MI := (yX11_nextOnWay, cX11_nextOnWay, 3, some .int, 7, 134, 2, [], 0)
def m_L_nextOnWay : MI := (yL_nextOnWay, cL_nextOnWay, 5, some .int, 8, 156, 2, [(0, 10, 13, 35)], 2)
def m_X12_nextOnWay : MI := (yX12_nextOnWay, cX12_nextOnWay, 4, some .int, 4, 93, 0, [], 0)
def m_X11_needMember : MI := (yX11_needMember, cX11_needMember, 2, none, 6, 89, 1, [], 0)
def m_X5_waveOf : MI := (yX5_waveOf, cX5_waveOf, 3, some .int, 0, 0, 0, [], 0)
def m_X8_numberOfMember : MI := (yX8_numberOfMember, cX8_numberOfMember, 3, some .int, 1, 22, 0, [], 0)
def m_X11_member : MI := (yX11_member, cX11_member, 3, some .int, 7, 110, 2, [], 0)
def m_L_member : MI := (yL_member, cL_member, 5, some .int, 8, 132, 2, [(0, 10, 13, 35), (0, 10, 17, 19)], 2)
def m_X12_isMember : MI := (yX12_isMember, cX12_isMember, 2, some .boolean, 1, 25, 0, [], 0)
def m_X12_goesBoth : MI := (yX12_goesBoth, cX12_goesBoth, 3, some .boolean, 0, 0, 0, [], 0)
def m_X12_member : MI := (yX12_member, cX12_member, 3, some .int, 2, 46, 0, [], 0)
def m_X11_partners : MI := (yX11_partners, cX11_partners, 2, some .int, 7, 110, 1, [], 0)
def m_L_partners : MI := (yL_partners, cL_partners, 4, some .int, 8, 131, 1, [(0, 9, 12, 35)], 2)
def m_X12_partners : MI := (yX12_partners, cX12_partners, 4, some .int, 2, 46, 0, [], 0)
def m_X8_upWith : MI := (yX8_upWith, cX8_upWith, 4, some .int, 0, 0, 0, [], 0)
def m_X11_with : MI := (yX11_with, cX11_with, 2, some .int, 7, 110, 1, [], 0)
def m_L_with : MI := (yL_with, cL_with, 4, some .int, 8, 131, 1, [(0, 9, 12, 35)], 2)
def m_X12_isUpWith : MI := (yX12_isUpWith, cX12_isUpWith, 3, some .boolean, 2, 43, 0, [], 0)
def m_X12_with : MI := (yX12_with, cX12_with, 4, some .int, 3, 65, 0, [], 0)
def m_X11_down : MI := (yX11_down, cX11_down, 2, some .int, 6, 89, 1, [], 0)
theorem o_X12_isComplete : MOK m_X12_isComplete := MOKi (tbG_at (p := 2005) (by decide +kernel)) (tbG_at (p := 10) (by decide +kernel)) (by decide +kernel) rfl rfl (tbG_at (p := 2004) (by decide +kernel)) (tbG_atS (p := 105) (by decide +kernel))
theorem o_X12_rolls : MOK m_X12_rolls := MOKi (tbG_at (p := 1993) (by decide +kernel)) (tbG_at (p := 10) (by decide +kernel)) (by decide +kernel) rfl rfl (tbG_at (p := 1992) (by decide +kernel)) (tbG_atS (p := 102) (by decide +kernel))
theorem o_X12_minute : MOK m_X12_minute := MOKi (tbG_at (p := 1965) (by decide +kernel)) (tbG_at (p := 10) (by decide +kernel)) (by decide +kernel) rfl rfl (tbG_at (p := 1964) (by decide +kernel)) (tbG_atS (p := 95) (by decide +kernel))
theorem o_X12_passes : MOK m_X12_passes := MOKi (tbG_at (p := 2042) (by decide +kernel)) (tbG_at (p := 10) (by decide +kernel)) (by decide +kernel) rfl rfl (tbG_at (p := 2041) (by decide +kernel)) (tbG_atS (p := 109) (by decide +kernel))
theorem o_X12_starts : MOK m_X12_starts := MOKi (tbG_at (p := 2062) (by decide +kernel)) (tbG_at (p := 10) (by decide +kernel)) (by decide +kernel) rfl rfl (tbG_at (p := 2061) (by decide +kernel)) (tbG_atS (p := 113) (by decide +kernel))
theorem o_X12_goesOn : MOK m_X12_goesOn := MOKi (tbG_at (p := 2074) (by decide +kernel)) (tbG_at (p := 10) (by decide +kernel)) (by decide +kernel) rfl rfl (tbG_at (p := 2073) (by decide +kernel)) (tbG_atS (p := 114) (by decide +kernel))
theorem o_X12_holds : MOK m_X12_holds := MOKi (tbG_at (p := 2082) (by decide +kernel)) (tbG_at (p := 10) (by decide +kernel)) (by decide +kernel) rfl rfl (tbG_at (p := 2081) (by decide +kernel)) (tbG_atS (p := 115) (by decide +kernel))
theorem o_X12_reports : MOK m_X12_reports := MOKi (tbG_at (p := 2090) (by decide +kernel)) (tbG_at (p := 10) (by decide +kernel)) (by decide +kernel) rfl rfl (tbG_at (p := 2089) (by decide +kernel)) (tbG_atS (p := 116) (by decide +kernel))
theorem o_X12_changes : MOK m_X12_changes := MOKi (tbG_at (p := 2098) (by decide +kernel)) (tbG_at (p := 10) (by decide +kernel)) (by decide +kernel) rfl rfl (tbG_at (p := 2097) (by decide +kernel)) (tbG_atS (p := 117) (by decide +kernel))
theorem o_X12_commits : MOK m_X12_commits := MOKi (tbG_at (p := 2106) (by decide +kernel)) (tbG_at (p := 10) (by decide +kernel)) (by decide +kernel) rfl rfl (tbG_at (p := 2105) (by decide +kernel)) (tbG_atS (p := 118) (by decide +kernel))
theorem o_X12_does : MOK m_X12_does := MOKi (tbG_at (p := 2140) (by decide +kernel)) (tbG_at (p := 10) (by decide +kernel)) (by decide +kernel) rfl rfl (tbG_at (p := 2139) (by decide +kernel)) (tbG_atS (p := 123) (by decide +kernel))
theorem o_X12_runs : MOK m_X12_runs := MOKi (tbG_at (p := 2136) (by decide +kernel)) (tbG_at (p := 10) (by decide +kernel)) (by decide +kernel) rfl rfl (tbG_at (p := 2135) (by decide +kernel)) (tbG_atS (p := 122) (by decide +kernel))
theorem o_X12_keeps : MOK m_X12_keeps := MOKi (tbG_at (p := 2050) (by decide +kernel)) (tbG_at (p := 10) (by decide +kernel)) (by decide +kernel) rfl rfl (tbG_at (p := 2049) (by decide +kernel)) (tbG_atS (p := 111) (by decide +kernel))
theorem o_X12_runScript : MOK m_X12_runScript := MOKi (tbG_at (p := 2110) (by decide +kernel)) (tbG_at (p := 10) (by decide +kernel)) (by decide +kernel) rfl rfl (tbG_at (p := 2108) (by decide +kernel)) (tbG_at (p := 2109) (by decide +kernel))
theorem o_X11_errorCode : MOK m_X11_errorCode := MOKi (tbG_at (p := 403) (by decide +kernel)) (tbG_at (p := 1) (by decide +kernel)) (by decide +kernel) rfl rfl (tbG_at (p := 401) (by decide +kernel)) (tbG_at (p := 402) (by decide +kernel))
theorem o_X12_errorCode : MOK m_X12_errorCode := MOKi (tbG_at (p := 1571) (by decide +kernel)) (tbG_at (p := 10) (by decide +kernel)) (by decide +kernel) rfl rfl (tbG_at (p := 1569) (by decide +kernel)) (tbG_at (p := 1570) (by decide +kernel))
theorem o_X11_errorPosition : MOK m_X11_errorPosition := MOKi (tbG_at (p := 407) (by decide +kernel)) (tbG_at (p := 1) (by decide +kernel)) (by decide +kernel) rfl rfl (tbG_at (p := 405) (by decide +kernel)) (tbG_at (p := 406) (by decide +kernel))
theorem o_X12_errorPosition : MOK m_X12_errorPosition := MOKi (tbG_at (p := 1575) (by decide +kernel)) (tbG_at (p := 10) (by decide +kernel)) (by decide +kernel) rfl rfl (tbG_at (p := 1573) (by decide +kernel)) (tbG_at (p := 1574) (by decide +kernel))
theorem o_X5_numberOf : MOK m_X5_numberOf := MOKi (tbG_at (p := 1108) (by decide +kernel)) (tbG_at (p := 4) (by decide +kernel)) (by decide +kernel) rfl rfl (tbG_at (p := 1106) (by decide +kernel)) (tbG_at (p := 1107) (by decide +kernel))
theorem o_X11_setting : MOK m_X11_setting := MOKi (tbG_at (p := 1104) (by decide +kernel)) (tbG_at (p := 1) (by decide +kernel)) (by decide +kernel) rfl rfl (tbG_at (p := 1102) (by decide +kernel)) (tbG_at (p := 1103) (by decide +kernel))
theorem o_L_setting : MOK m_L_setting := MOKh (tbG_at (p := 1100) (by decide +kernel)) (tbG_at (p := 0) (by decide +kernel)) (by decide +kernel) rfl (by decide) (tbG_at (p := 1099) (by decide +kernel))
theorem o_X12_setting : MOK m_X12_setting := MOKi (tbG_at (p := 1740) (by decide +kernel)) (tbG_at (p := 10) (by decide +kernel)) (by decide +kernel) rfl rfl (tbG_at (p := 1738) (by decide +kernel)) (tbG_at (p := 1739) (by decide +kernel))
theorem o_X11_needVersion : MOK m_X11_needVersion := MOKi (tbG_at (p := 1120) (by decide +kernel)) (tbG_at (p := 1) (by decide +kernel)) (by decide +kernel) rfl rfl (tbG_at (p := 1119) (by decide +kernel)) (tbG_atS (p := 32) (by decide +kernel))
theorem o_X11_mayTalk : MOK m_X11_mayTalk := MOKi (tbG_at (p := 1116) (by decide +kernel)) (tbG_at (p := 1) (by decide +kernel)) (by decide +kernel) rfl rfl (tbG_at (p := 1114) (by decide +kernel)) (tbG_at (p := 1115) (by decide +kernel))
theorem o_L_mayTalk : MOK m_L_mayTalk := MOKh (tbG_at (p := 1111) (by decide +kernel)) (tbG_at (p := 0) (by decide +kernel)) (by decide +kernel) rfl (by decide) (tbG_at (p := 1110) (by decide +kernel))
theorem o_X12_isVersion : MOK m_X12_isVersion := MOKi (tbG_at (p := 1749) (by decide +kernel)) (tbG_at (p := 10) (by decide +kernel)) (by decide +kernel) rfl rfl (tbG_at (p := 1748) (by decide +kernel)) (tbG_atS (p := 68) (by decide +kernel))
theorem o_X12_mayTalk : MOK m_X12_mayTalk := MOKi (tbG_at (p := 1745) (by decide +kernel)) (tbG_at (p := 10) (by decide +kernel)) (by decide +kernel) rfl rfl (tbG_at (p := 1743) (by decide +kernel)) (tbG_at (p := 1744) (by decide +kernel))
theorem o_X11_needFormat : MOK m_X11_needFormat := MOKs (tbG_at (p := 1146) (by decide +kernel)) (tbG_at (p := 1) (by decide +kernel)) (by decide +kernel) rfl rfl (tbG_at (p := 1145) (by decide +kernel))
theorem o_X11_readers : MOK m_X11_readers := MOKi (tbG_at (p := 1143) (by decide +kernel)) (tbG_at (p := 1) (by decide +kernel)) (by decide +kernel) rfl rfl (tbG_at (p := 1141) (by decide +kernel)) (tbG_at (p := 1142) (by decide +kernel))
theorem o_L_readers : MOK m_L_readers := MOKh (tbG_at (p := 1139) (by decide +kernel)) (tbG_at (p := 0) (by decide +kernel)) (by decide +kernel) rfl (by decide) (tbG_at (p := 1138) (by decide +kernel))
theorem o_X12_readers : MOK m_X12_readers := MOKi (tbG_at (p := 1753) (by decide +kernel)) (tbG_at (p := 10) (by decide +kernel)) (by decide +kernel) rfl rfl (tbG_at (p := 1751) (by decide +kernel)) (tbG_at (p := 1752) (by decide +kernel))
theorem o_X11_talkers : MOK m_X11_talkers := MOKi (tbG_at (p := 1154) (by decide +kernel)) (tbG_at (p := 1) (by decide +kernel)) (by decide +kernel) rfl rfl (tbG_at (p := 1152) (by decide +kernel)) (tbG_at (p := 1153) (by decide +kernel))
theorem o_L_talkers : MOK m_L_talkers := MOKh (tbG_at (p := 1150) (by decide +kernel)) (tbG_at (p := 0) (by decide +kernel)) (by decide +kernel) rfl (by decide) (tbG_at (p := 1149) (by decide +kernel))
theorem o_X12_talkers : MOK m_X12_talkers := MOKi (tbG_at (p := 1758) (by decide +kernel)) (tbG_at (p := 10) (by decide +kernel)) (by decide +kernel) rfl rfl (tbG_at (p := 1756) (by decide +kernel)) (tbG_at (p := 1757) (by decide +kernel))
theorem o_X8_nextVersions : MOK m_X8_nextVersions := MOKi (tbG_at (p := 1169) (by decide +kernel)) (tbG_at (p := 3) (by decide +kernel)) (by decide +kernel) rfl rfl (tbG_at (p := 1168) (by decide +kernel)) (tbG_atS (p := 33) (by decide +kernel))
theorem o_X8_changesOnWay : MOK m_X8_changesOnWay := MOKi (tbG_at (p := 1165) (by decide +kernel)) (tbG_at (p := 3) (by decide +kernel)) (by decide +kernel) rfl rfl (tbG_at (p := 1163) (by decide +kernel)) (tbG_at (p := 1164) (by decide +kernel))
theorem o_X11_wayOf : MOK m_X11_wayOf := MOKi (tbG_at (p := 1161) (by decide +kernel)) (tbG_at (p := 1) (by decide +kernel)) (by decide +kernel) rfl rfl (tbG_at (p := 1159) (by decide +kernel)) (tbG_at (p := 1160) (by decide +kernel))
theorem o_L_wayOf : MOK m_L_wayOf := MOKh (tbG_at (p := 1157) (by decide +kernel)) (tbG_at (p := 0) (by decide +kernel)) (by decide +kernel) rfl (by decide) (tbG_at (p := 1156) (by decide +kernel))
theorem o_X12_mayFollow : MOK m_X12_mayFollow := MOKi (tbG_at (p := 1770) (by decide +kernel)) (tbG_at (p := 10) (by decide +kernel)) (by decide +kernel) rfl rfl (tbG_at (p := 1769) (by decide +kernel)) (tbG_atS (p := 70) (by decide +kernel))
theorem o_X12_laysWays : MOK m_X12_laysWays := MOKi (tbG_at (p := 1766) (by decide +kernel)) (tbG_at (p := 10) (by decide +kernel)) (by decide +kernel) rfl rfl (tbG_at (p := 1765) (by decide +kernel)) (tbG_atS (p := 69) (by decide +kernel))
theorem o_X12_wayOf : MOK m_X12_wayOf := MOKi (tbG_at (p := 1762) (by decide +kernel)) (tbG_at (p := 10) (by decide +kernel)) (by decide +kernel) rfl rfl (tbG_at (p := 1760) (by decide +kernel)) (tbG_at (p := 1761) (by decide +kernel))
theorem o_X8_firstOnWay : MOK m_X8_firstOnWay := MOKi (tbG_at (p := 1180) (by decide +kernel)) (tbG_at (p := 3) (by decide +kernel)) (by decide +kernel) rfl rfl (tbG_at (p := 1178) (by decide +kernel)) (tbG_at (p := 1179) (by decide +kernel))
theorem o_X11_nextOnWay : MOK m_X11_nextOnWay := MOKi (tbG_at (p := 1176) (by decide +kernel)) (tbG_at (p := 1) (by decide +kernel)) (by decide +kernel) rfl rfl (tbG_at (p := 1174) (by decide +kernel)) (tbG_at (p := 1175) (by decide +kernel))
theorem o_L_nextOnWay : MOK m_L_nextOnWay := MOKh (tbG_at (p := 1172) (by decide +kernel)) (tbG_at (p := 0) (by decide +kernel)) (by decide +kernel) rfl (by decide) (tbG_at (p := 1171) (by decide +kernel))
theorem o_X12_nextOnWay : MOK m_X12_nextOnWay := MOKi (tbG_at (p := 1774) (by decide +kernel)) (tbG_at (p := 10) (by decide +kernel)) (by decide +kernel) rfl rfl (tbG_at (p := 1772) (by decide +kernel)) (tbG_at (p := 1773) (by decide +kernel))
theorem o_X11_needMember : MOK m_X11_needMember := MOKi (tbG_at (p := 1192) (by decide +kernel)) (tbG_at (p := 1) (by decide +kernel)) (by decide +kernel) rfl rfl (tbG_at (p := 1191) (by decide +kernel)) (tbG_atS (p := 34) (by decide +kernel))
theorem o_X5_waveOf : MOK m_X5_waveOf := MOKi (tbG_at (p := 1200) (by decide +kernel)) (tbG_at (p := 4) (by decide +kernel)) (by decide +kernel) rfl rfl (tbG_at (p := 1198) (by decide +kernel)) (tbG_at (p := 1199) (by decide +kernel))
theorem o_X8_numberOfMember : MOK m_X8_numberOfMember := MOKi (tbG_at (p := 1196) (by decide +kernel)) (tbG_at (p := 3) (by decide +kernel)) (by decide +kernel) rfl rfl (tbG_at (p := 1194) (by decide +kernel)) (tbG_at (p := 1195) (by decide +kernel))
theorem o_X11_member : MOK m_X11_member := MOKi (tbG_at (p := 1188) (by decide +kernel)) (tbG_at (p := 1) (by decide +kernel)) (by decide +kernel) rfl rfl (tbG_at (p := 1186) (by decide +kernel)) (tbG_at (p := 1187) (by decide +kernel))
theorem o_L_member : MOK m_L_member := MOKh (tbG_at (p := 1184) (by decide +kernel)) (tbG_at (p := 0) (by decide +kernel)) (by decide +kernel) rfl (by decide) (tbG_at (p := 1183) (by decide +kernel))
theorem o_X12_isMember : MOK m_X12_isMember := MOKi (tbG_at (p := 1782) (by decide +kernel)) (tbG_at (p := 10) (by decide +kernel)) (by decide +kernel) rfl rfl (tbG_at (p := 1781) (by decide +kernel)) (tbG_atS (p := 71) (by decide +kernel))
theorem o_X12_goesBoth : MOK m_X12_goesBoth := MOKi (tbG_at (p := 1787) (by decide +kernel)) (tbG_at (p := 10) (by decide +kernel)) (by decide +kernel) rfl rfl (tbG_at (p := 1786) (by decide +kernel)) (tbG_atS (p := 72) (by decide +kernel))
theorem o_X12_member : MOK m_X12_member := MOKi (tbG_at (p := 1778) (by decide +kernel)) (tbG_at (p := 10) (by decide +kernel)) (by decide +kernel) rfl rfl (tbG_at (p := 1776) (by decide +kernel)) (tbG_at (p := 1777) (by decide +kernel))
theorem o_X11_partners : MOK m_X11_partners := MOKi (tbG_at (p := 1207) (by decide +kernel)) (tbG_at (p := 1) (by decide +kernel)) (by decide +kernel) rfl rfl (tbG_at (p := 1205) (by decide +kernel)) (tbG_at (p := 1206) (by decide +kernel))
theorem o_L_partners : MOK m_L_partners := MOKh (tbG_at (p := 1203) (by decide +kernel)) (tbG_at (p := 0) (by decide +kernel)) (by decide +kernel) rfl (by decide) (tbG_at (p := 1202) (by decide +kernel))
theorem o_X12_partners : MOK m_X12_partners := MOKi (tbG_at (p := 1791) (by decide +kernel)) (tbG_at (p := 10) (by decide +kernel)) (by decide +kernel) rfl rfl (tbG_at (p := 1789) (by decide +kernel)) (tbG_at (p := 1790) (by decide +kernel))
theorem o_X8_upWith : MOK m_X8_upWith := MOKi (tbG_at (p := 448) (by decide +kernel)) (tbG_at (p := 3) (by decide +kernel)) (by decide +kernel) rfl rfl (tbG_at (p := 446) (by decide +kernel)) (tbG_at (p := 447) (by decide +kernel))
theorem o_X11_with : MOK m_X11_with := MOKi (tbG_at (p := 1214) (by decide +kernel)) (tbG_at (p := 1) (by decide +kernel)) (by decide +kernel) rfl rfl (tbG_at (p := 1212) (by decide +kernel)) (tbG_at (p := 1213) (by decide +kernel))
theorem o_L_with : MOK m_L_with := MOKh (tbG_at (p := 1210) (by decide +kernel)) (tbG_at (p := 0) (by decide +kernel)) (by decide +kernel) rfl (by decide) (tbG_at (p := 1209) (by decide +kernel))
theorem o_X12_isUpWith : MOK m_X12_isUpWith := MOKi (tbG_at (p := 1803) (by decide +kernel)) (tbG_at (p := 10) (by decide +kernel)) (by decide +kernel) rfl rfl (tbG_at (p := 1802) (by decide +kernel)) (tbG_atS (p := 74) (by decide +kernel))
theorem o_X12_with : MOK m_X12_with := MOKi (tbG_at (p := 1799) (by decide +kernel)) (tbG_at (p := 10) (by decide +kernel)) (by decide +kernel) rfl rfl (tbG_at (p := 1797) (by decide +kernel)) (tbG_at (p := 1798) (by decide +kernel))
theorem o_X11_down : MOK m_X11_down := MOKi (tbG_at (p := 1222) (by decide +kernel)) (tbG_at (p := 1) (by decide +kernel)) (by decide +kernel) rfl rfl (tbG_at (p := 1220) (by decide +kernel)) (tbG_at (p := 1221) (by decide +kernel))
def c_X12_isComplete : Cd := [
  [(0, .iconst 1, 1, [], []), (1, .istore_n 1, 1, [], []), (2, .iconst 0, 1, [], []), (3, .istore_n 2, 1, [], []), (4, .iload_n 2, 1, [], []), (5, .aload_n 0, 1, [], []), (6, .getfield 20, 3, [9, 13, 3, 1434], []), (9, .iconst 2, 1, [], []), (10, .iaload, 1, [], []), (11, .if_icmp .ge 50, 3, [61], []), (14, .iload_n 1, 1, [], []), (15, .ifCond .eq 38, 3, [53], [])],
  [(18, .aload_n 0, 1, [], []), (19, .iload_n 2, 1, [], []), (20, .aload_n 0, 1, [], []), (21, .getfield 20, 3, [9, 13, 3, 1434], []), (24, .bipush 15, 2, [], []), (26, .iaload, 1, [], []), (27, .invokevirtual 333, 3, [0, 2, 1, 9, 0, 1897], [m_X12_isOfWave]), (30, .ifCond .eq 19, 3, [49], [])],
  [(33, .aload_n 0, 1, [], []), (34, .iload_n 2, 1, [], []), (35, .invokevirtual 359, 3, [0, 1, 1, 9, 0, 1994], [m_X12_isFree]), (38, .ifCond .eq 11, 3, [49], []), (41, .aload_n 0, 1, [], []), (42, .iload_n 2, 1, [], []), (43, .invokevirtual 336, 3, [0, 1, 1, 9, 0, 1901], [m_X12_isReady]), (46, .ifCond .eq 7, 3, [53], [])],
  [(49, .iconst 1, 1, [], []), (50, .goto 4, 3, [54], []), (53, .iconst 0, 1, [], []), (54, .istore_n 1, 1, [], []), (55, .iinc 2 1, 3, [], []), (58, .goto (-54), 3, [4], []), (61, .iload_n 1, 1, [], []), (62, .ireturn, 1, [6], [])]]
theorem k_X12_isComplete : CdOk m_X12_isComplete c_X12_isComplete := ⟨by decide +kernel, allM_of ⟨o_X12_isOfWave, ⟨o_X12_isFree, ⟨o_X12_isReady, trivial⟩⟩⟩⟩
def c_X12_rolls : Cd := [
  [(0, .iconst 0, 1, [], []), (1, .istore_n 1, 1, [], []), (2, .iload_n 1, 1, [], []), (3, .aload_n 0, 1, [], []), (4, .getfield 20, 3, [9, 13, 3, 1434], []), (7, .iconst 2, 1, [], []), (8, .iaload, 1, [], []), (9, .if_icmp .ge 75, 3, [84], []), (12, .aload_n 0, 1, [], []), (13, .iload_n 1, 1, [], []), (14, .aload_n 0, 1, [], []), (15, .getfield 20, 3, [9, 13, 3, 1434], [])],
  [(18, .bipush 15, 2, [], []), (20, .iaload, 1, [], []), (21, .invokevirtual 333, 3, [0, 2, 1, 9, 0, 1897], [m_X12_isOfWave]), (24, .ifCond .eq 54, 3, [78], []), (27, .aload_n 0, 1, [], []), (28, .iload_n 1, 1, [], []), (29, .invokevirtual 359, 3, [0, 1, 1, 9, 0, 1994], [m_X12_isFree])],
  [(32, .ifCond .eq 46, 3, [78], []), (35, .aload_n 0, 1, [], []), (36, .iload_n 1, 1, [], []), (37, .invokevirtual 155, 3, [0, 1, 1, 9, 0, 1804], [m_X12_isDown]), (40, .ifCond .ne 38, 3, [78], []), (43, .aload_n 0, 1, [], []), (44, .iload_n 1, 1, [], []), (45, .invokevirtual 336, 3, [0, 1, 1, 9, 0, 1901], [m_X12_isReady])],
  [(48, .ifCond .ne 30, 3, [78], []), (51, .aload_n 0, 1, [], []), (52, .iload_n 1, 1, [], []), (53, .aload_n 0, 1, [], []), (54, .getfield 20, 3, [9, 13, 3, 1434], []), (57, .bipush 14, 2, [], []), (59, .iaload, 1, [], []), (60, .invokevirtual 317, 3, [0, 2, 1, 9, 0, 1840], [m_X12_why]), (63, .ifCond .ne 15, 3, [78], [])],
  [(66, .aload_n 0, 1, [], []), (67, .iload_n 1, 1, [], []), (68, .aload_n 0, 1, [], []), (69, .getfield 20, 3, [9, 13, 3, 1434], []), (72, .bipush 14, 2, [], []), (74, .iaload, 1, [], []), (75, .invokevirtual 362, 3, [0, 2, 0, 9, 0, 1998], [m_X12_begins]), (78, .iinc 1 1, 3, [], [])],
  [(81, .goto (-79), 3, [2], []), (84, .aload_n 0, 1, [], []), (85, .invokevirtual 366, 3, [0, 0, 1, 9, 0, 2002], [m_X12_isComplete]), (88, .ifCond .ne 4, 3, [92], []), (91, .return_, 1, [], []), (92, .aload_n 0, 1, [], []), (93, .getfield 20, 3, [9, 13, 3, 1434], [])],
  [(96, .bipush 12, 2, [], []), (98, .iconst 2, 1, [], []), (99, .iastore, 1, [], []), (100, .aload_n 0, 1, [], []), (101, .getfield 20, 3, [9, 13, 3, 1434], []), (104, .bipush 16, 2, [], []), (106, .aload_n 0, 1, [], []), (107, .getfield 20, 3, [9, 13, 3, 1434], []), (110, .bipush 11, 2, [], [])],
  [(112, .iaload, 1, [], []), (113, .aload_n 0, 1, [], []), (114, .getfield 20, 3, [9, 13, 3, 1434], []), (117, .bipush 9, 2, [], []), (119, .iaload, 1, [], []), (120, .iadd, 1, [], []), (121, .iastore, 1, [], []), (122, .aload_n 0, 1, [], []), (123, .iconst 3, 1, [], []), (124, .iconst (-1), 1, [], []), (125, .aload_n 0, 1, [], []), (126, .getfield 20, 3, [9, 13, 3, 1434], [])],
  [(129, .bipush 15, 2, [], []), (131, .iaload, 1, [], []), (132, .invokevirtual 353, 3, [0, 3, 0, 9, 0, 1970], [m_X12_notes]), (135, .return_, 1, [], [])]]
theorem k_X12_rolls : CdOk m_X12_rolls c_X12_rolls := ⟨by decide +kernel, allM_of ⟨o_X12_isOfWave, ⟨o_X12_isFree, ⟨o_X12_isDown, ⟨o_X12_isReady, ⟨o_X12_why, ⟨o_X12_begins, ⟨o_X12_isComplete, ⟨o_X12_notes, trivial⟩⟩⟩⟩⟩⟩⟩⟩⟩
def c_X12_minute : Cd := [
  [(0, .aload_n 0, 1, [], []), (1, .getfield 20, 3, [9, 13, 3, 1434], []), (4, .bipush 11, 2, [], []), (6, .dup2, 1, [], []), (7, .iaload, 1, [], []), (8, .iconst 1, 1, [], []), (9, .iadd, 1, [], []), (10, .iastore, 1, [], []), (11, .aload_n 0, 1, [], []), (12, .invokevirtual 369, 3, [0, 0, 0, 9, 0, 1966], [m_X12_endsChanges]), (15, .aload_n 0, 1, [], [])],
  [(16, .invokevirtual 348, 3, [0, 0, 0, 9, 0, 1925], [m_X12_measures]), (19, .aload_n 0, 1, [], []), (20, .invokevirtual 372, 3, [0, 0, 1, 9, 0, 1974], [m_X12_isGoing]), (23, .ifCond .eq 26, 3, [49], []), (26, .aload_n 0, 1, [], []), (27, .getfield 345, 3, [9, 26, 0, 1447], []), (30, .aload_n 0, 1, [], []), (31, .getfield 20, 3, [9, 13, 3, 1434], [])],
  [(34, .bipush 10, 2, [], []), (36, .iaload, 1, [], []), (37, .aload_n 0, 1, [], []), (38, .getfield 342, 3, [9, 25, 0, 1446], []), (41, .imul, 1, [], []), (42, .if_icmp .le 7, 3, [49], []), (45, .aload_n 0, 1, [], []), (46, .invokevirtual 375, 3, [0, 0, 0, 9, 0, 1978], [m_X12_stops])],
  [(49, .aload_n 0, 1, [], []), (50, .getfield 20, 3, [9, 13, 3, 1434], []), (53, .bipush 12, 2, [], []), (55, .iaload, 1, [], []), (56, .iconst 2, 1, [], []), (57, .if_icmp .ne 24, 3, [81], []), (60, .aload_n 0, 1, [], []), (61, .getfield 20, 3, [9, 13, 3, 1434], [])],
  [(64, .bipush 11, 2, [], []), (66, .iaload, 1, [], []), (67, .aload_n 0, 1, [], []), (68, .getfield 20, 3, [9, 13, 3, 1434], []), (71, .bipush 16, 2, [], []), (73, .iaload, 1, [], []), (74, .if_icmp .lt 7, 3, [81], []), (77, .aload_n 0, 1, [], []), (78, .invokevirtual 378, 3, [0, 0, 0, 9, 0, 1982], [m_X12_takesNext])],
  [(81, .aload_n 0, 1, [], []), (82, .getfield 20, 3, [9, 13, 3, 1434], []), (85, .bipush 12, 2, [], []), (87, .iaload, 1, [], []), (88, .iconst 1, 1, [], []), (89, .if_icmp .ne 7, 3, [96], []), (92, .aload_n 0, 1, [], []), (93, .invokevirtual 381, 3, [0, 0, 0, 9, 0, 1990], [m_X12_rolls])],
  [(96, .return_, 1, [], [])]]
theorem k_X12_minute : CdOk m_X12_minute c_X12_minute := ⟨by decide +kernel, allM_of ⟨o_X12_endsChanges, ⟨o_X12_measures, ⟨o_X12_isGoing, ⟨o_X12_stops, ⟨o_X12_takesNext, ⟨o_X12_rolls, trivial⟩⟩⟩⟩⟩⟩⟩
def c_X12_passes : Cd := [
  [(0, .iconst 0, 1, [], []), (1, .istore_n 2, 1, [], []), (2, .iload_n 2, 1, [], []), (3, .iload_n 1, 1, [], []), (4, .if_icmp .ge 13, 3, [17], []), (7, .aload_n 0, 1, [], []), (8, .invokevirtual 390, 3, [0, 0, 0, 9, 0, 1962], [m_X12_minute]), (11, .iinc 2 1, 3, [], []), (14, .goto (-12), 3, [2], [])],
  [(17, .aload_n 0, 1, [], []), (18, .getfield 20, 3, [9, 13, 3, 1434], []), (21, .bipush 11, 2, [], []), (23, .iaload, 1, [], []), (24, .ireturn, 1, [1], [])]]
theorem k_X12_passes : CdOk m_X12_passes c_X12_passes := ⟨by decide +kernel, allM_of ⟨o_X12_minute, trivial⟩⟩
def c_X12_starts : Cd := [
  [(0, .iconst (-1), 1, [], []), (1, .istore_n 2, 1, [], []), (2, .iconst (-1), 1, [], []), (3, .istore_n 3, 1, [], []), (4, .iconst 0, 1, [], []), (5, .istore 4, 2, [], []), (7, .iload 4, 2, [], []), (9, .aload_n 0, 1, [], []), (10, .getfield 20, 3, [9, 13, 3, 1434], []), (13, .iconst 2, 1, [], []), (14, .iaload, 1, [], []), (15, .if_icmp .ge 60, 3, [75], [])],
  [(18, .aload_n 0, 1, [], []), (19, .iload 4, 2, [], []), (21, .invokevirtual 359, 3, [0, 1, 1, 9, 0, 1994], [m_X12_isFree]), (24, .ifCond .ne 6, 3, [30], []), (27, .goto 42, 3, [69], []), (30, .aload_n 0, 1, [], []), (31, .iload 4, 2, [], [])],
  [(33, .invokevirtual 299, 3, [0, 1, 1, 9, 0, 1828], [m_X12_coming]), (36, .istore 5, 2, [], []), (38, .iload_n 2, 1, [], []), (39, .iconst (-1), 1, [], []), (40, .if_icmp .eq 9, 3, [49], []), (43, .iload 5, 2, [], []), (45, .iload_n 2, 1, [], []), (46, .if_icmp .ge 8, 3, [54], [])],
  [(49, .iload 5, 2, [], []), (51, .goto 4, 3, [55], []), (54, .iload_n 2, 1, [], []), (55, .istore_n 2, 1, [], []), (56, .iload 5, 2, [], []), (58, .iload_n 3, 1, [], []), (59, .if_icmp .le 8, 3, [67], []), (62, .iload 5, 2, [], [])],
  [(64, .goto 4, 3, [68], []), (67, .iload_n 3, 1, [], []), (68, .istore_n 3, 1, [], []), (69, .iinc 4 1, 3, [], []), (72, .goto (-65), 3, [7], []), (75, .aload_n 0, 1, [], []), (76, .iconst 2, 1, [], []), (77, .iconst (-1), 1, [], []), (78, .iload_n 1, 1, [], []), (79, .invokevirtual 353, 3, [0, 3, 0, 9, 0, 1970], [m_X12_notes])],
  [(82, .aload_n 0, 1, [], []), (83, .getfield 20, 3, [9, 13, 3, 1434], []), (86, .bipush 13, 2, [], []), (88, .iload_n 1, 1, [], []), (89, .iastore, 1, [], []), (90, .aload_n 0, 1, [], []), (91, .getfield 20, 3, [9, 13, 3, 1434], []), (94, .bipush 15, 2, [], [])],
  [(96, .iconst 0, 1, [], []), (97, .iastore, 1, [], []), (98, .iload_n 2, 1, [], []), (99, .iconst (-1), 1, [], []), (100, .if_icmp .eq 13, 3, [113], []), (103, .iload_n 2, 1, [], []), (104, .iload_n 1, 1, [], []), (105, .if_icmp .ne 14, 3, [119], []), (108, .iload_n 3, 1, [], []), (109, .iload_n 1, 1, [], []), (110, .if_icmp .ne 9, 3, [119], [])],
  [(113, .aload_n 0, 1, [], []), (114, .invokevirtual 356, 3, [0, 0, 0, 9, 0, 1986], [m_X12_isDone]), (117, .iconst (-1), 1, [], []), (118, .ireturn, 1, [1], []), (119, .aload_n 0, 1, [], []), (120, .getfield 20, 3, [9, 13, 3, 1434], []), (123, .bipush 17, 2, [], []), (125, .iload_n 2, 1, [], []), (126, .iload_n 1, 1, [], []), (127, .if_icmp .ge 7, 3, [134], [])],
  [(130, .iconst 1, 1, [], []), (131, .goto 4, 3, [135], []), (134, .iconst 0, 1, [], []), (135, .invokestatic 72, 3, [1, 1, 1, 0, 0, 1554], [m_X12_truth]), (138, .iastore, 1, [], []), (139, .aload_n 0, 1, [], []), (140, .getfield 20, 3, [9, 13, 3, 1434], []), (143, .bipush 14, 2, [], [])],
  [(145, .iload_n 2, 1, [], []), (146, .iload_n 1, 1, [], []), (147, .if_icmp .ge 9, 3, [156], []), (150, .iload_n 2, 1, [], []), (151, .iconst 1, 1, [], []), (152, .iadd, 1, [], []), (153, .goto 6, 3, [159], []), (156, .iload_n 3, 1, [], []), (157, .iconst 1, 1, [], []), (158, .isub, 1, [], []), (159, .iastore, 1, [], [])],
  [(160, .aload_n 0, 1, [], []), (161, .getfield 20, 3, [9, 13, 3, 1434], []), (164, .bipush 12, 2, [], []), (166, .iconst 1, 1, [], []), (167, .iastore, 1, [], []), (168, .aload_n 0, 1, [], []), (169, .getfield 20, 3, [9, 13, 3, 1434], []), (172, .bipush 14, 2, [], []), (174, .iaload, 1, [], []), (175, .ireturn, 1, [1], [])]]
theorem k_X12_starts : CdOk m_X12_starts c_X12_starts := ⟨by decide +kernel, allM_of ⟨o_X12_isFree, ⟨o_X12_coming, ⟨o_X12_notes, ⟨o_X12_isDone, ⟨o_X12_truth, trivial⟩⟩⟩⟩⟩⟩
def c_X12_goesOn : Cd := [
  [(0, .aload_n 0, 1, [], []), (1, .getfield 20, 3, [9, 13, 3, 1434], []), (4, .bipush 12, 2, [], []), (6, .aload_n 0, 1, [], []), (7, .getfield 20, 3, [9, 13, 3, 1434], []), (10, .bipush 18, 2, [], []), (12, .iaload, 1, [], []), (13, .iastore, 1, [], []), (14, .aload_n 0, 1, [], []), (15, .iconst 5, 1, [], [])],
  [(16, .iconst (-1), 1, [], []), (17, .aload_n 0, 1, [], []), (18, .getfield 20, 3, [9, 13, 3, 1434], []), (21, .bipush 15, 2, [], []), (23, .iaload, 1, [], []), (24, .invokevirtual 353, 3, [0, 3, 0, 9, 0, 1970], [m_X12_notes]), (27, .aload_n 0, 1, [], []), (28, .getfield 20, 3, [9, 13, 3, 1434], []), (31, .bipush 15, 2, [], [])],
  [(33, .iaload, 1, [], []), (34, .ireturn, 1, [1], [])]]
theorem k_X12_goesOn : CdOk m_X12_goesOn c_X12_goesOn := ⟨by decide +kernel, allM_of ⟨o_X12_notes, trivial⟩⟩
def c_X12_holds : Cd := [
  [(0, .aload_n 0, 1, [], []), (1, .iload_n 1, 1, [], []), (2, .iconst 5, 1, [], []), (3, .iload_n 2, 1, [], []), (4, .invokestatic 72, 3, [1, 1, 1, 0, 0, 1554], [m_X12_truth]), (7, .invokevirtual 196, 3, [0, 3, 0, 9, 0, 1697], [m_X12_lays]), (10, .aload_n 0, 1, [], []), (11, .bipush 8, 2, [], []), (13, .iload_n 1, 1, [], []), (14, .iload_n 2, 1, [], []), (15, .invokestatic 72, 3, [1, 1, 1, 0, 0, 1554], [m_X12_truth])],
  [(18, .invokevirtual 353, 3, [0, 3, 0, 9, 0, 1970], [m_X12_notes]), (21, .iconst 0, 1, [], []), (22, .istore_n 3, 1, [], []), (23, .iconst 0, 1, [], []), (24, .istore 4, 2, [], []), (26, .iload 4, 2, [], []), (28, .aload_n 0, 1, [], []), (29, .getfield 20, 3, [9, 13, 3, 1434], [])],
  [(32, .iconst 2, 1, [], []), (33, .iaload, 1, [], []), (34, .if_icmp .ge 19, 3, [53], []), (37, .iload_n 3, 1, [], []), (38, .aload_n 0, 1, [], []), (39, .iload 4, 2, [], []), (41, .iconst 5, 1, [], []), (42, .invokevirtual 151, 3, [0, 2, 1, 9, 0, 1689], [m_X12_of]), (45, .iadd, 1, [], []), (46, .istore_n 3, 1, [], []), (47, .iinc 4 1, 3, [], [])],
  [(50, .goto (-24), 3, [26], []), (53, .iload_n 3, 1, [], []), (54, .ireturn, 1, [1], [])]]
theorem k_X12_holds : CdOk m_X12_holds c_X12_holds := ⟨by decide +kernel, allM_of ⟨o_X12_truth, ⟨o_X12_lays, ⟨o_X12_truth, ⟨o_X12_notes, ⟨o_X12_of, trivial⟩⟩⟩⟩⟩⟩
def c_X12_reports : Cd := [
  [(0, .aload_n 0, 1, [], []), (1, .iload_n 1, 1, [], []), (2, .iconst 4, 1, [], []), (3, .invokevirtual 151, 3, [0, 2, 1, 9, 0, 1689], [m_X12_of]), (6, .istore_n 3, 1, [], []), (7, .aload_n 0, 1, [], []), (8, .iload_n 1, 1, [], []), (9, .iconst 4, 1, [], []), (10, .iload_n 2, 1, [], []), (11, .invokevirtual 196, 3, [0, 3, 0, 9, 0, 1697], [m_X12_lays]), (14, .iload_n 3, 1, [], []), (15, .ireturn, 1, [1], [])]]
theorem k_X12_reports : CdOk m_X12_reports c_X12_reports := ⟨by decide +kernel, allM_of ⟨o_X12_of, ⟨o_X12_lays, trivial⟩⟩⟩
def c_X12_changes : Cd := [
  [(0, .aload_n 0, 1, [], []), (1, .iload_n 1, 1, [], []), (2, .iload_n 2, 1, [], []), (3, .invokevirtual 362, 3, [0, 2, 0, 9, 0, 1998], [m_X12_begins]), (6, .aload_n 0, 1, [], []), (7, .iload_n 1, 1, [], []), (8, .iconst 3, 1, [], []), (9, .invokevirtual 151, 3, [0, 2, 1, 9, 0, 1689], [m_X12_of]), (12, .ireturn, 1, [1], [])]]
theorem k_X12_changes : CdOk m_X12_changes c_X12_changes := ⟨by decide +kernel, allM_of ⟨o_X12_begins, ⟨o_X12_of, trivial⟩⟩⟩
def c_X12_commits : Cd := [
  [(0, .aload_n 0, 1, [], []), (1, .getfield 20, 3, [9, 13, 3, 1434], []), (4, .iconst 5, 1, [], []), (5, .iaload, 1, [], []), (6, .istore_n 2, 1, [], []), (7, .aload_n 0, 1, [], []), (8, .getfield 20, 3, [9, 13, 3, 1434], []), (11, .iconst 5, 1, [], []), (12, .iload_n 1, 1, [], []), (13, .iastore, 1, [], []), (14, .aload_n 0, 1, [], []), (15, .bipush 7, 2, [], [])],
  [(17, .iconst (-1), 1, [], []), (18, .iload_n 1, 1, [], []), (19, .invokevirtual 353, 3, [0, 3, 0, 9, 0, 1970], [m_X12_notes]), (22, .iload_n 2, 1, [], []), (23, .ireturn, 1, [1], [])]]
theorem k_X12_commits : CdOk m_X12_commits c_X12_commits := ⟨by decide +kernel, allM_of ⟨o_X12_notes, trivial⟩⟩
def c_X12_does : Cd := [
  [(0, .aload_n 0, 1, [], []), (1, .iload_n 1, 1, [], []), (2, .iload_n 2, 1, [], []), (3, .iload_n 3, 1, [], []), (4, .invokevirtual 474, 3, [0, 3, 1, 9, 0, 2141], [m_X12_may]), (7, .ifCond .ne 5, 3, [12], []), (10, .iconst 0, 1, [], []), (11, .ireturn, 1, [6], []), (12, .iload_n 1, 1, [], []), (13, .ifCond .ne 12, 3, [25], [])],
  [(16, .aload_n 0, 1, [], []), (17, .aload_n 0, 1, [], []), (18, .iload_n 2, 1, [], []), (19, .invokevirtual 415, 3, [0, 1, 1, 9, 0, 2039], [m_X12_passes]), (22, .putfield 478, 3, [9, 36, 0, 1457], []), (25, .iload_n 1, 1, [], []), (26, .iconst 1, 1, [], []), (27, .if_icmp .ne 12, 3, [39], []), (30, .aload_n 0, 1, [], []), (31, .aload_n 0, 1, [], [])],
  [(32, .iload_n 2, 1, [], []), (33, .invokevirtual 423, 3, [0, 1, 1, 9, 0, 2059], [m_X12_starts]), (36, .putfield 478, 3, [9, 36, 0, 1457], []), (39, .iload_n 1, 1, [], []), (40, .iconst 2, 1, [], []), (41, .if_icmp .ne 7, 3, [48], []), (44, .aload_n 0, 1, [], []), (45, .invokevirtual 375, 3, [0, 0, 0, 9, 0, 1978], [m_X12_stops])],
  [(48, .iload_n 1, 1, [], []), (49, .iconst 3, 1, [], []), (50, .if_icmp .ne 11, 3, [61], []), (53, .aload_n 0, 1, [], []), (54, .aload_n 0, 1, [], []), (55, .invokevirtual 426, 3, [0, 0, 1, 9, 0, 2071], [m_X12_goesOn]), (58, .putfield 478, 3, [9, 36, 0, 1457], []), (61, .iload_n 1, 1, [], []), (62, .iconst 4, 1, [], []), (63, .if_icmp .eq 8, 3, [71], [])],
  [(66, .iload_n 1, 1, [], []), (67, .iconst 5, 1, [], []), (68, .if_icmp .ne 22, 3, [90], []), (71, .aload_n 0, 1, [], []), (72, .aload_n 0, 1, [], []), (73, .iload_n 2, 1, [], []), (74, .iload_n 1, 1, [], []), (75, .iconst 4, 1, [], []), (76, .if_icmp .ne 7, 3, [83], []), (79, .iconst 1, 1, [], [])],
  [(80, .goto 4, 3, [84], []), (83, .iconst 0, 1, [], []), (84, .invokevirtual 429, 3, [0, 2, 1, 9, 0, 2079], [m_X12_holds]), (87, .putfield 478, 3, [9, 36, 0, 1457], []), (90, .iload_n 1, 1, [], []), (91, .bipush 6, 2, [], []), (93, .if_icmp .ne 13, 3, [106], [])],
  [(96, .aload_n 0, 1, [], []), (97, .aload_n 0, 1, [], []), (98, .iload_n 2, 1, [], []), (99, .iload_n 3, 1, [], []), (100, .invokevirtual 433, 3, [0, 2, 1, 9, 0, 2087], [m_X12_reports]), (103, .putfield 478, 3, [9, 36, 0, 1457], []), (106, .iload_n 1, 1, [], []), (107, .bipush 7, 2, [], []), (109, .if_icmp .ne 13, 3, [122], [])],
  [(112, .aload_n 0, 1, [], []), (113, .aload_n 0, 1, [], []), (114, .iload_n 2, 1, [], []), (115, .iload_n 3, 1, [], []), (116, .invokevirtual 436, 3, [0, 2, 1, 9, 0, 2095], [m_X12_changes]), (119, .putfield 478, 3, [9, 36, 0, 1457], []), (122, .iload_n 1, 1, [], []), (123, .bipush 8, 2, [], []), (125, .if_icmp .ne 12, 3, [137], [])],
  [(128, .aload_n 0, 1, [], []), (129, .aload_n 0, 1, [], []), (130, .iload_n 2, 1, [], []), (131, .invokevirtual 439, 3, [0, 1, 1, 9, 0, 2103], [m_X12_commits]), (134, .putfield 478, 3, [9, 36, 0, 1457], []), (137, .iconst 1, 1, [], []), (138, .ireturn, 1, [6], [])]]
theorem k_X12_does : CdOk m_X12_does c_X12_does := ⟨by decide +kernel, allM_of ⟨o_X12_may, ⟨o_X12_passes, ⟨o_X12_starts, ⟨o_X12_stops, ⟨o_X12_goesOn, ⟨o_X12_holds, ⟨o_X12_reports, ⟨o_X12_changes, ⟨o_X12_commits, trivial⟩⟩⟩⟩⟩⟩⟩⟩⟩⟩
def c_X12_runs : Cd := [
  [(0, .iconst 0, 1, [], []), (1, .istore_n 1, 1, [], []), (2, .iconst 0, 1, [], []), (3, .istore_n 2, 1, [], []), (4, .iconst 0, 1, [], []), (5, .istore_n 3, 1, [], []), (6, .iconst 1, 1, [], []), (7, .istore 4, 2, [], []), (9, .iload 4, 2, [], []), (11, .ifCond .eq 176, 3, [187], []), (14, .iload_n 3, 1, [], []), (15, .aload_n 0, 1, [], [])],
  [(16, .getfield 471, 3, [9, 33, 0, 1454], []), (19, .if_icmp .ge 168, 3, [187], []), (22, .iload_n 1, 1, [], []), (23, .bipush 40, 2, [], []), (25, .if_icmp .ge 162, 3, [187], []), (28, .aload_n 0, 1, [], []), (29, .getfield 48, 3, [9, 28, 3, 1449], [])],
  [(32, .iload_n 3, 1, [], []), (33, .iaload, 1, [], []), (34, .bipush 9, 2, [], []), (36, .if_icmp .ne 31, 3, [67], []), (39, .aload_n 0, 1, [], []), (40, .getfield 57, 3, [9, 31, 3, 1452], []), (43, .iload_n 2, 1, [], []), (44, .iload_n 3, 1, [], []), (45, .iastore, 1, [], []), (46, .aload_n 0, 1, [], []), (47, .getfield 60, 3, [9, 32, 3, 1453], [])],
  [(50, .iload_n 2, 1, [], []), (51, .aload_n 0, 1, [], []), (52, .getfield 51, 3, [9, 29, 3, 1450], []), (55, .iload_n 3, 1, [], []), (56, .iaload, 1, [], []), (57, .iastore, 1, [], []), (58, .iinc 2 1, 3, [], []), (61, .iinc 3 1, 3, [], [])],
  [(64, .goto (-55), 3, [9], []), (67, .aload_n 0, 1, [], []), (68, .getfield 48, 3, [9, 28, 3, 1449], []), (71, .iload_n 3, 1, [], []), (72, .iaload, 1, [], []), (73, .bipush 10, 2, [], []), (75, .if_icmp .ne 74, 3, [149], []), (78, .aload_n 0, 1, [], []), (79, .getfield 60, 3, [9, 32, 3, 1453], [])],
  [(82, .iload_n 2, 1, [], []), (83, .iconst 1, 1, [], []), (84, .isub, 1, [], []), (85, .dup2, 1, [], []), (86, .iaload, 1, [], []), (87, .iconst 1, 1, [], []), (88, .isub, 1, [], []), (89, .iastore, 1, [], []), (90, .aload_n 0, 1, [], []), (91, .getfield 60, 3, [9, 32, 3, 1453], []), (94, .iload_n 2, 1, [], []), (95, .iconst 1, 1, [], [])],
  [(96, .isub, 1, [], []), (97, .iaload, 1, [], []), (98, .ifCond .le 7, 3, [105], []), (101, .iconst 1, 1, [], []), (102, .goto 4, 3, [106], []), (105, .iconst 0, 1, [], []), (106, .istore 5, 2, [], []), (108, .iload 5, 2, [], []), (110, .ifCond .eq 16, 3, [126], [])],
  [(113, .aload_n 0, 1, [], []), (114, .getfield 57, 3, [9, 31, 3, 1452], []), (117, .iload_n 2, 1, [], []), (118, .iconst 1, 1, [], []), (119, .isub, 1, [], []), (120, .iaload, 1, [], []), (121, .iconst 1, 1, [], []), (122, .iadd, 1, [], []), (123, .goto 6, 3, [129], []), (126, .iload_n 3, 1, [], []), (127, .iconst 1, 1, [], [])],
  [(128, .iadd, 1, [], []), (129, .istore_n 3, 1, [], []), (130, .iload_n 2, 1, [], []), (131, .iload 5, 2, [], []), (133, .ifCond .ne 7, 3, [140], []), (136, .iconst 1, 1, [], []), (137, .goto 4, 3, [141], []), (140, .iconst 0, 1, [], []), (141, .invokestatic 72, 3, [1, 1, 1, 0, 0, 1554], [m_X12_truth])],
  [(144, .isub, 1, [], []), (145, .istore_n 2, 1, [], []), (146, .goto (-137), 3, [9], []), (149, .aload_n 0, 1, [], []), (150, .aload_n 0, 1, [], []), (151, .getfield 48, 3, [9, 28, 3, 1449], []), (154, .iload_n 3, 1, [], []), (155, .iaload, 1, [], []), (156, .aload_n 0, 1, [], []), (157, .getfield 51, 3, [9, 29, 3, 1450], [])],
  [(160, .iload_n 3, 1, [], []), (161, .iaload, 1, [], []), (162, .aload_n 0, 1, [], []), (163, .getfield 54, 3, [9, 30, 3, 1451], []), (166, .iload_n 3, 1, [], []), (167, .iaload, 1, [], []), (168, .invokevirtual 490, 3, [0, 3, 1, 9, 0, 2137], [m_X12_does]), (171, .istore 4, 2, [], []), (173, .iload_n 1, 1, [], []), (174, .iload 4, 2, [], [])],
  [(176, .invokestatic 72, 3, [1, 1, 1, 0, 0, 1554], [m_X12_truth]), (179, .iadd, 1, [], []), (180, .istore_n 1, 1, [], []), (181, .iinc 3 1, 3, [], []), (184, .goto (-175), 3, [9], []), (187, .iload_n 1, 1, [], []), (188, .ireturn, 1, [1], [])]]
theorem k_X12_runs : CdOk m_X12_runs c_X12_runs := ⟨by decide +kernel, allM_of ⟨o_X12_truth, ⟨o_X12_does, ⟨o_X12_truth, trivial⟩⟩⟩⟩
def c_X12_keeps : Cd := [
  [(0, .aload_n 0, 1, [], []), (1, .getfield 140, 3, [9, 21, 0, 1442], []), (4, .bipush 6, 2, [], []), (6, .if_icmp .ne 49, 3, [55], []), (9, .aload_n 0, 1, [], []), (10, .dup, 1, [], []), (11, .getfield 140, 3, [9, 21, 0, 1442], []), (14, .iconst 1, 1, [], []), (15, .isub, 1, [], [])],
  [(16, .putfield 140, 3, [9, 21, 0, 1442], []), (19, .iconst 0, 1, [], []), (20, .istore_n 1, 1, [], []), (21, .iload_n 1, 1, [], []), (22, .sipush 253, 3, [], []), (25, .aload_n 0, 1, [], []), (26, .getfield 140, 3, [9, 21, 0, 1442], []), (29, .imul, 1, [], []), (30, .if_icmp .ge 25, 3, [55], [])],
  [(33, .aload_n 0, 1, [], []), (34, .getfield 26, 3, [9, 15, 3, 1436], []), (37, .iload_n 1, 1, [], []), (38, .aload_n 0, 1, [], []), (39, .getfield 26, 3, [9, 15, 3, 1436], []), (42, .iload_n 1, 1, [], []), (43, .sipush 253, 3, [], []), (46, .iadd, 1, [], []), (47, .iaload, 1, [], [])],
  [(48, .iastore, 1, [], []), (49, .iinc 1 1, 3, [], []), (52, .goto (-31), 3, [21], []), (55, .iconst 0, 1, [], []), (56, .istore_n 1, 1, [], []), (57, .iload_n 1, 1, [], []), (58, .sipush 253, 3, [], []), (61, .if_icmp .ge 30, 3, [91], [])],
  [(64, .aload_n 0, 1, [], []), (65, .getfield 26, 3, [9, 15, 3, 1436], []), (68, .sipush 253, 3, [], []), (71, .aload_n 0, 1, [], []), (72, .getfield 140, 3, [9, 21, 0, 1442], []), (75, .imul, 1, [], []), (76, .iload_n 1, 1, [], []), (77, .iadd, 1, [], []), (78, .aload_n 0, 1, [], []), (79, .getfield 29, 3, [9, 16, 3, 1437], [])],
  [(82, .iload_n 1, 1, [], []), (83, .iaload, 1, [], []), (84, .iastore, 1, [], []), (85, .iinc 1 1, 3, [], []), (88, .goto (-31), 3, [57], []), (91, .aload_n 0, 1, [], []), (92, .dup, 1, [], []), (93, .getfield 140, 3, [9, 21, 0, 1442], [])],
  [(96, .iconst 1, 1, [], []), (97, .iadd, 1, [], []), (98, .putfield 140, 3, [9, 21, 0, 1442], []), (101, .return_, 1, [], [])]]
theorem k_X12_keeps : CdOk m_X12_keeps c_X12_keeps := ⟨by decide +kernel, allM_of trivial⟩
def c_X12_runScript : Cd := [
  [(0, .aload_n 0, 1, [], []), (1, .invokevirtual 253, 3, [0, 0, 0, 9, 0, 1592], [m_X12_beginsText]), (4, .aload_n 0, 1, [], []), (5, .iconst 0, 1, [], []), (6, .putfield 471, 3, [9, 33, 0, 1454], []), (9, .aload_n 0, 1, [], []), (10, .iconst 0, 1, [], []), (11, .putfield 468, 3, [9, 34, 0, 1455], []), (14, .aload_n 0, 1, [], []), (15, .iconst 0, 1, [], [])],
  [(16, .putfield 465, 3, [9, 35, 0, 1456], []), (19, .aload_n 0, 1, [], []), (20, .invokevirtual 124, 3, [0, 0, 1, 9, 0, 1614], [m_X12_isGood]), (23, .ifCond .eq 40, 3, [63], []), (26, .aload_n 0, 1, [], []), (27, .getfield 111, 3, [9, 6, 0, 1427], []), (30, .ifCond .eq 33, 3, [63], [])],
  [(33, .aload_n 0, 1, [], []), (34, .getfield 465, 3, [9, 35, 0, 1456], []), (37, .istore_n 1, 1, [], []), (38, .aload_n 0, 1, [], []), (39, .invokevirtual 481, 3, [0, 0, 0, 9, 0, 2111], [m_X12_command]), (42, .aload_n 0, 1, [], []), (43, .getfield 465, 3, [9, 35, 0, 1456], []), (46, .iload_n 1, 1, [], []), (47, .if_icmp .ne 9, 3, [56], [])],
  [(50, .aload_n 0, 1, [], []), (51, .bipush 59, 2, [], []), (53, .invokevirtual 250, 3, [0, 1, 0, 9, 0, 1725], [m_X12_mustSign]), (56, .aload_n 0, 1, [], []), (57, .invokevirtual 484, 3, [0, 0, 0, 9, 0, 2129], [m_X12_closes]), (60, .goto (-41), 3, [19], []), (63, .aload_n 0, 1, [], [])],
  [(64, .invokevirtual 124, 3, [0, 0, 1, 9, 0, 1614], [m_X12_isGood]), (67, .ifCond .eq 15, 3, [82], []), (70, .aload_n 0, 1, [], []), (71, .getfield 465, 3, [9, 35, 0, 1456], []), (74, .ifCond .le 8, 3, [82], []), (77, .aload_n 0, 1, [], []), (78, .iconst 1, 1, [], []), (79, .invokevirtual 131, 3, [0, 1, 0, 9, 0, 1635], [m_X12_wrong])],
  [(82, .aload_n 0, 1, [], []), (83, .invokevirtual 262, 3, [0, 0, 1, 9, 0, 1733], [m_X12_endsText]), (86, .ifCond .ne 5, 3, [91], []), (89, .iconst 0, 1, [], []), (90, .ireturn, 1, [1], []), (91, .aload_n 0, 1, [], []), (92, .invokevirtual 256, 3, [0, 0, 0, 9, 0, 1610], [m_X12_laysAside]), (95, .aload_n 0, 1, [], [])],
  [(96, .invokevirtual 487, 3, [0, 0, 1, 9, 0, 2133], [m_X12_runs]), (99, .istore_n 1, 1, [], []), (100, .aload_n 0, 1, [], []), (101, .invokevirtual 409, 3, [0, 0, 0, 9, 0, 2047], [m_X12_keeps]), (104, .iload_n 1, 1, [], []), (105, .ireturn, 1, [1], [])]]
theorem k_X12_runScript : CdOk m_X12_runScript c_X12_runScript := ⟨by decide +kernel, allM_of ⟨o_X12_beginsText, ⟨o_X12_isGood, ⟨o_X12_command, ⟨o_X12_mustSign, ⟨o_X12_closes, ⟨o_X12_isGood, ⟨o_X12_wrong, ⟨o_X12_endsText, ⟨o_X12_laysAside, ⟨o_X12_runs, ⟨o_X12_keeps, trivial⟩⟩⟩⟩⟩⟩⟩⟩⟩⟩⟩⟩
def c_X11_errorCode : Cd := [
  [(0, .aload_n 0, 1, [], []), (1, .getfield 10, 3, [8, 0, 3, 366], []), (4, .getfield 123, 3, [7, 2, 0, 46], []), (7, .ireturn, 1, [1], [])]]
theorem k_X11_errorCode : CdOk m_X11_errorCode c_X11_errorCode := ⟨by decide +kernel, allM_of trivial⟩
def c_X12_errorCode : Cd := [
  [(0, .aload_n 0, 1, [], []), (1, .iconst 0, 1, [], []), (2, .putfield 69, 3, [9, 0, 0, 1421], []), (5, .aload_n 0, 1, [], []), (6, .getfield 137, 3, [9, 10, 0, 1431], []), (9, .ireturn, 1, [1], [])]]
theorem k_X12_errorCode : CdOk m_X12_errorCode c_X12_errorCode := ⟨by decide +kernel, allM_of trivial⟩
def c_X11_errorPosition : Cd := [
  [(0, .aload_n 0, 1, [], []), (1, .getfield 10, 3, [8, 0, 3, 366], []), (4, .getfield 126, 3, [7, 3, 0, 48], []), (7, .ireturn, 1, [1], [])]]
theorem k_X11_errorPosition : CdOk m_X11_errorPosition c_X11_errorPosition := ⟨by decide +kernel, allM_of trivial⟩
def c_X12_errorPosition : Cd := [
  [(0, .aload_n 0, 1, [], []), (1, .iconst 0, 1, [], []), (2, .putfield 69, 3, [9, 0, 0, 1421], []), (5, .aload_n 0, 1, [], []), (6, .getfield 17, 3, [9, 11, 0, 1432], []), (9, .ireturn, 1, [1], [])]]
theorem k_X12_errorPosition : CdOk m_X12_errorPosition c_X12_errorPosition := ⟨by decide +kernel, allM_of trivial⟩
def c_X5_numberOf : Cd := [
  [(0, .iload_n 1, 1, [], []), (1, .tableswitch 118 0 10 #[59, 67, 75, 83, 88, 118, 93, 98, 103, 108, 113], 59, [119, 0, 60, 68, 76, 84, 89, 119, 94, 99, 104, 109, 114], [])],
  [],
  [],
  [(60, .aload_n 0, 1, [], []), (61, .getfield 14, 3, [3, 0, 3, 106], [])],
  [(64, .getfield 54, 3, [4, 1, 0, 92], []), (67, .ireturn, 1, [1], []), (68, .aload_n 0, 1, [], []), (69, .getfield 30, 3, [3, 4, 3, 114], []), (72, .getfield 54, 3, [4, 1, 0, 92], []), (75, .ireturn, 1, [1], []), (76, .aload_n 0, 1, [], []), (77, .getfield 42, 3, [3, 8, 3, 124], [])],
  [(80, .getfield 54, 3, [4, 1, 0, 92], []), (83, .ireturn, 1, [1], []), (84, .aload_n 0, 1, [], []), (85, .getfield 61, 3, [3, 12, 0, 138], []), (88, .ireturn, 1, [1], []), (89, .aload_n 0, 1, [], []), (90, .getfield 58, 3, [3, 11, 0, 136], []), (93, .ireturn, 1, [1], []), (94, .aload_n 0, 1, [], []), (95, .getfield 64, 3, [3, 13, 0, 142], [])],
  [(98, .ireturn, 1, [1], []), (99, .aload_n 0, 1, [], []), (100, .getfield 67, 3, [3, 14, 0, 145], []), (103, .ireturn, 1, [1], []), (104, .aload_n 0, 1, [], []), (105, .getfield 70, 3, [3, 15, 0, 148], []), (108, .ireturn, 1, [1], []), (109, .aload_n 0, 1, [], []), (110, .getfield 73, 3, [3, 16, 0, 151], [])],
  [(113, .ireturn, 1, [1], []), (114, .aload_n 0, 1, [], []), (115, .getfield 76, 3, [3, 17, 0, 154], []), (118, .ireturn, 1, [1], []), (119, .iconst (-1), 1, [], []), (120, .ireturn, 1, [1], [])]]
theorem k_X5_numberOf : CdOk m_X5_numberOf c_X5_numberOf := ⟨by decide +kernel, allM_of trivial⟩
def c_X11_setting : Cd := [
  [(0, .iload_n 1, 1, [], []), (1, .ifCond .lt 9, 3, [10], []), (4, .iload_n 1, 1, [], []), (5, .bipush 11, 2, [], []), (7, .if_icmp .le 11, 3, [18], []), (10, .new 86, 3, [1, 88, 757, 766], [])],
  [(18, .iload_n 1, 1, [], []), (19, .iconst 5, 1, [], []), (20, .if_icmp .ne 11, 3, [31], []), (23, .aload_n 0, 1, [], []), (24, .getfield 24, 3, [8, 1, 3, 367], []), (27, .getfield 129, 3, [6, 2, 0, 227], []), (30, .ireturn, 1, [1], []), (31, .iload_n 1, 1, [], [])],
  [(32, .bipush 11, 2, [], []), (34, .if_icmp .ne 11, 3, [45], []), (37, .aload_n 0, 1, [], []), (38, .getfield 24, 3, [8, 1, 3, 367], []), (41, .getfield 132, 3, [6, 1, 0, 225], []), (44, .ireturn, 1, [1], []), (45, .aload_n 0, 1, [], []), (46, .getfield 24, 3, [8, 1, 3, 367], [])],
  [(49, .getfield 28, 3, [6, 0, 3, 222], []), (52, .iload_n 1, 1, [], []), (53, .invokevirtual 135, 3, [0, 1, 1, 3, 0, 1105], [m_X5_numberOf]), (56, .ireturn, 1, [1], [])]]
theorem k_X11_setting : CdOk m_X11_setting c_X11_setting := ⟨by decide +kernel, allM_of ⟨o_X5_numberOf, trivial⟩⟩
def c_L_setting : Cd := [
  [(0, .aload_n 2, 1, [], []), (1, .iconst 0, 1, [], []), (2, .aload_n 0, 1, [], []), (3, .iload_n 1, 1, [], []), (4, .invokevirtual 28, 3, [0, 1, 1, 8, 1, 1101, 0, 0, 13, 3, 0, 0], [m_X11_setting]), (7, .i2l, 1, [], []), (8, .lastore, 1, [], []), (9, .goto 6, 3, [15], []), (13, .iconst 1, 1, [], []), (14, .ireturn, 1, [1], []), (15, .iconst 0, 1, [], [])],
  [(16, .ireturn, 1, [1], [])]]
theorem k_L_setting : CdOk m_L_setting c_L_setting := ⟨by decide +kernel, allM_of ⟨o_X11_setting, trivial⟩⟩
def c_X12_setting : Cd := [
  [(0, .aload_n 0, 1, [], []), (1, .iload_n 1, 1, [], []), (2, .i2l, 1, [], []), (3, .lconst 0, 1, [], []), (4, .ldc2_w 265, 3, [11, 1741], []), (7, .invokestatic 87, 3, [1, 3, 1, 0, 0, 1565], [m_X12_isIn]), (10, .invokevirtual 79, 3, [0, 1, 1, 9, 0, 1550], [m_X12_goes]), (13, .ifCond .eq 12, 3, [25], [])],
  [(16, .aload_n 0, 1, [], []), (17, .getfield 20, 3, [9, 13, 3, 1434], []), (20, .iload_n 1, 1, [], []), (21, .iaload, 1, [], []), (22, .goto 4, 3, [26], []), (25, .iconst 0, 1, [], []), (26, .ireturn, 1, [1], [])]]
theorem k_X12_setting : CdOk m_X12_setting c_X12_setting := ⟨by decide +kernel, allM_of ⟨o_X12_isIn, ⟨o_X12_goes, trivial⟩⟩⟩
def c_X11_needVersion : Cd := [
  [(0, .iload_n 1, 1, [], []), (1, .ifCond .lt 20, 3, [21], []), (4, .iload_n 1, 1, [], []), (5, .aload_n 0, 1, [], []), (6, .getfield 24, 3, [8, 1, 3, 367], []), (9, .getfield 28, 3, [6, 0, 3, 222], []), (12, .getfield 199, 3, [3, 0, 3, 110], []), (15, .getfield 104, 3, [4, 1, 0, 93], [])],
  [(18, .if_icmp .lt 11, 3, [29], []), (21, .new 178, 3, [2, 180, 1121, 1130], []), (29, .return_, 1, [], [])]]
theorem k_X11_needVersion : CdOk m_X11_needVersion c_X11_needVersion := ⟨by decide +kernel, allM_of trivial⟩
def c_X11_mayTalk : Cd := [
  [(0, .aload_n 0, 1, [], []), (1, .iload_n 1, 1, [], []), (2, .invokevirtual 139, 3, [0, 1, 0, 8, 1, 1117], [m_X11_needVersion]), (5, .aload_n 0, 1, [], []), (6, .iload_n 2, 1, [], []), (7, .invokevirtual 139, 3, [0, 1, 0, 8, 1, 1117], [m_X11_needVersion]), (10, .aload_n 0, 1, [], []), (11, .getfield 24, 3, [8, 1, 3, 367], []), (14, .getfield 28, 3, [6, 0, 3, 222], [])],
  [(17, .iload_n 1, 1, [], []), (18, .invokevirtual 142, 3, [0, 1, 1, 3, 0, 1136], [m_X5_talkersOf]), (21, .iload_n 2, 1, [], []), (22, .invokestatic 145, 3, [1, 2, 1, 0, 0, 475], [m_X11_isIn]), (25, .ireturn, 1, [6], [])]]
theorem k_X11_mayTalk : CdOk m_X11_mayTalk c_X11_mayTalk := ⟨by decide +kernel, allM_of ⟨o_X11_needVersion, ⟨o_X11_needVersion, ⟨o_X5_talkersOf, ⟨o_X11_isIn, trivial⟩⟩⟩⟩⟩
def c_L_mayTalk : Cd := [
  [(0, .aload_n 3, 1, [], []), (1, .iconst 0, 1, [], []), (2, .aload_n 0, 1, [], []), (3, .iload_n 1, 1, [], []), (4, .iload_n 2, 1, [], []), (5, .invokevirtual 31, 3, [0, 2, 1, 8, 2, 1113, 0, 0, 0, 0, 22, 4], [m_X11_mayTalk]), (8, .ifCond .eq 7, 3, [15], []), (11, .lconst 1, 1, [], []), (12, .goto 4, 3, [16], []), (15, .lconst 0, 1, [], [])],
  [(16, .lastore, 1, [], []), (17, .goto 7, 3, [24], []), (22, .iconst 1, 1, [], []), (23, .ireturn, 1, [1], []), (24, .iconst 0, 1, [], []), (25, .ireturn, 1, [1], [])]]
theorem k_L_mayTalk : CdOk m_L_mayTalk c_L_mayTalk := ⟨by decide +kernel, allM_of ⟨o_X11_mayTalk, trivial⟩⟩
def c_X12_isVersion : Cd := [
  [(0, .iload_n 1, 1, [], []), (1, .i2l, 1, [], []), (2, .lconst 0, 1, [], []), (3, .aload_n 0, 1, [], []), (4, .getfield 20, 3, [9, 13, 3, 1434], []), (7, .iconst 0, 1, [], []), (8, .iaload, 1, [], []), (9, .iconst 1, 1, [], []), (10, .isub, 1, [], []), (11, .i2l, 1, [], []), (12, .invokestatic 87, 3, [1, 3, 1, 0, 0, 1565], [m_X12_isIn]), (15, .ireturn, 1, [6], [])]]
theorem k_X12_isVersion : CdOk m_X12_isVersion c_X12_isVersion := ⟨by decide +kernel, allM_of ⟨o_X12_isIn, trivial⟩⟩
def c_X12_mayTalk : Cd := [
  [(0, .aload_n 0, 1, [], []), (1, .aload_n 0, 1, [], []), (2, .iload_n 1, 1, [], []), (3, .invokevirtual 267, 3, [0, 1, 1, 9, 0, 1746], [m_X12_isVersion]), (6, .ifCond .eq 15, 3, [21], []), (9, .aload_n 0, 1, [], []), (10, .iload_n 2, 1, [], []), (11, .invokevirtual 267, 3, [0, 1, 1, 9, 0, 1746], [m_X12_isVersion]), (14, .ifCond .eq 7, 3, [21], [])],
  [(17, .iconst 1, 1, [], []), (18, .goto 4, 3, [22], []), (21, .iconst 0, 1, [], []), (22, .invokevirtual 79, 3, [0, 1, 1, 9, 0, 1550], [m_X12_goes]), (25, .ifCond .eq 16, 3, [41], []), (28, .aload_n 0, 1, [], []), (29, .iload_n 1, 1, [], []), (30, .iload_n 2, 1, [], []), (31, .invokevirtual 178, 3, [0, 2, 1, 9, 0, 1664], [m_X12_talk])],
  [(34, .ifCond .eq 7, 3, [41], []), (37, .iconst 1, 1, [], []), (38, .goto 4, 3, [42], []), (41, .iconst 0, 1, [], []), (42, .ireturn, 1, [6], [])]]
theorem k_X12_mayTalk : CdOk m_X12_mayTalk c_X12_mayTalk := ⟨by decide +kernel, allM_of ⟨o_X12_isVersion, ⟨o_X12_isVersion, ⟨o_X12_goes, ⟨o_X12_talk, trivial⟩⟩⟩⟩⟩
def c_X11_needFormat : Cd := [
  [(0, .iload_n 0, 1, [], []), (1, .iconst 1, 1, [], []), (2, .if_icmp .lt 9, 3, [11], []), (5, .iload_n 0, 1, [], []), (6, .bipush 9, 2, [], []), (8, .if_icmp .le 11, 3, [19], []), (11, .new 86, 3, [1, 88, 757, 766], [])],
  [(19, .return_, 1, [], [])]]
theorem k_X11_needFormat : CdOk m_X11_needFormat c_X11_needFormat := ⟨by decide +kernel, allM_of trivial⟩
def c_X11_readers : Cd := [
  [(0, .iload_n 1, 1, [], []), (1, .invokestatic 149, 3, [1, 1, 0, 0, 1, 1144], [m_X11_needFormat]), (4, .aload_n 0, 1, [], []), (5, .getfield 24, 3, [8, 1, 3, 367], []), (8, .getfield 28, 3, [6, 0, 3, 222], []), (11, .iload_n 1, 1, [], []), (12, .invokevirtual 152, 3, [0, 1, 1, 3, 0, 1147], [m_X5_readersOf]), (15, .ireturn, 1, [1], [])]]
theorem k_X11_readers : CdOk m_X11_readers c_X11_readers := ⟨by decide +kernel, allM_of ⟨o_X11_needFormat, ⟨o_X5_readersOf, trivial⟩⟩⟩
def c_L_readers : Cd := [
  [(0, .aload_n 2, 1, [], []), (1, .iconst 0, 1, [], []), (2, .aload_n 0, 1, [], []), (3, .iload_n 1, 1, [], []), (4, .invokevirtual 37, 3, [0, 1, 1, 8, 1, 1140, 0, 0, 13, 3, 0, 0], [m_X11_readers]), (7, .i2l, 1, [], []), (8, .lastore, 1, [], []), (9, .goto 6, 3, [15], []), (13, .iconst 1, 1, [], []), (14, .ireturn, 1, [1], []), (15, .iconst 0, 1, [], [])],
  [(16, .ireturn, 1, [1], [])]]
theorem k_L_readers : CdOk m_L_readers c_L_readers := ⟨by decide +kernel, allM_of ⟨o_X11_readers, trivial⟩⟩
def c_X12_readers : Cd := [
  [(0, .aload_n 0, 1, [], []), (1, .iload_n 1, 1, [], []), (2, .i2l, 1, [], []), (3, .lconst 1, 1, [], []), (4, .ldc2_w 270, 3, [9, 1754], []), (7, .invokestatic 87, 3, [1, 3, 1, 0, 0, 1565], [m_X12_isIn]), (10, .invokevirtual 79, 3, [0, 1, 1, 9, 0, 1550], [m_X12_goes]), (13, .ifCond .ne 5, 3, [18], [])],
  [(16, .iconst 0, 1, [], []), (17, .ireturn, 1, [1], []), (18, .iconst 0, 1, [], []), (19, .istore_n 2, 1, [], []), (20, .iconst 0, 1, [], []), (21, .istore_n 3, 1, [], []), (22, .iload_n 3, 1, [], []), (23, .aload_n 0, 1, [], []), (24, .getfield 20, 3, [9, 13, 3, 1434], []), (27, .iconst 0, 1, [], []), (28, .iaload, 1, [], []), (29, .if_icmp .ge 23, 3, [52], [])],
  [(32, .iload_n 2, 1, [], []), (33, .aload_n 0, 1, [], []), (34, .iload_n 3, 1, [], []), (35, .iload_n 1, 1, [], []), (36, .invokevirtual 181, 3, [0, 2, 1, 9, 0, 1685], [m_X12_reads]), (39, .invokestatic 72, 3, [1, 1, 1, 0, 0, 1554], [m_X12_truth]), (42, .iload_n 3, 1, [], []), (43, .ishl, 1, [], []), (44, .ior, 1, [], []), (45, .istore_n 2, 1, [], []), (46, .iinc 3 1, 3, [], [])],
  [(49, .goto (-27), 3, [22], []), (52, .iload_n 2, 1, [], []), (53, .ireturn, 1, [1], [])]]
theorem k_X12_readers : CdOk m_X12_readers c_X12_readers := ⟨by decide +kernel, allM_of ⟨o_X12_isIn, ⟨o_X12_goes, ⟨o_X12_reads, ⟨o_X12_truth, trivial⟩⟩⟩⟩⟩
def c_X11_talkers : Cd := [
  [(0, .aload_n 0, 1, [], []), (1, .iload_n 1, 1, [], []), (2, .invokevirtual 139, 3, [0, 1, 0, 8, 1, 1117], [m_X11_needVersion]), (5, .aload_n 0, 1, [], []), (6, .getfield 24, 3, [8, 1, 3, 367], []), (9, .getfield 28, 3, [6, 0, 3, 222], []), (12, .iload_n 1, 1, [], []), (13, .invokevirtual 142, 3, [0, 1, 1, 3, 0, 1136], [m_X5_talkersOf])],
  [(16, .ireturn, 1, [1], [])]]
theorem k_X11_talkers : CdOk m_X11_talkers c_X11_talkers := ⟨by decide +kernel, allM_of ⟨o_X11_needVersion, ⟨o_X5_talkersOf, trivial⟩⟩⟩
def c_L_talkers : Cd := [
  [(0, .aload_n 2, 1, [], []), (1, .iconst 0, 1, [], []), (2, .aload_n 0, 1, [], []), (3, .iload_n 1, 1, [], []), (4, .invokevirtual 40, 3, [0, 1, 1, 8, 1, 1151, 0, 0, 0, 0, 13, 3], [m_X11_talkers]), (7, .i2l, 1, [], []), (8, .lastore, 1, [], []), (9, .goto 6, 3, [15], []), (13, .iconst 1, 1, [], []), (14, .ireturn, 1, [1], []), (15, .iconst 0, 1, [], [])],
  [(16, .ireturn, 1, [1], [])]]
theorem k_L_talkers : CdOk m_L_talkers c_L_talkers := ⟨by decide +kernel, allM_of ⟨o_X11_talkers, trivial⟩⟩
def c_X12_talkers : Cd := [
  [(0, .aload_n 0, 1, [], []), (1, .aload_n 0, 1, [], []), (2, .iload_n 1, 1, [], []), (3, .invokevirtual 267, 3, [0, 1, 1, 9, 0, 1746], [m_X12_isVersion]), (6, .invokevirtual 79, 3, [0, 1, 1, 9, 0, 1550], [m_X12_goes]), (9, .ifCond .eq 19, 3, [28], []), (12, .aload_n 0, 1, [], []), (13, .getfield 20, 3, [9, 13, 3, 1434], [])],
  [(16, .bipush 36, 2, [], []), (18, .iload_n 1, 1, [], []), (19, .iadd, 1, [], []), (20, .iaload, 1, [], []), (21, .iconst 1, 1, [], []), (22, .iload_n 1, 1, [], []), (23, .ishl, 1, [], []), (24, .ior, 1, [], []), (25, .goto 4, 3, [29], []), (28, .iconst 0, 1, [], []), (29, .ireturn, 1, [1], [])]]
theorem k_X12_talkers : CdOk m_X12_talkers c_X12_talkers := ⟨by decide +kernel, allM_of ⟨o_X12_isVersion, ⟨o_X12_goes, trivial⟩⟩⟩
def c_X8_nextVersions : Cd := [
  [(0, .aload_n 0, 1, [], []), (1, .getfield 31, 3, [6, 0, 3, 223], []), (4, .aload_n 0, 1, [], []), (5, .getfield 42, 3, [6, 2, 0, 226], []), (8, .invokevirtual 122, 3, [0, 1, 1, 3, 0, 525], [m_X5_readersOf]), (11, .aload_n 0, 1, [], []), (12, .getfield 31, 3, [6, 0, 3, 223], []), (15, .iload_n 1, 1, [], [])],
  [(16, .invokevirtual 100, 3, [0, 1, 1, 3, 0, 495], [m_X5_talkersOf]), (19, .iand, 1, [], []), (20, .iconst 1, 1, [], []), (21, .iload_n 1, 1, [], []), (22, .ishl, 1, [], []), (23, .iconst (-1), 1, [], []), (24, .ixor, 1, [], []), (25, .iand, 1, [], []), (26, .istore_n 2, 1, [], []), (27, .iconst 0, 1, [], []), (28, .istore_n 3, 1, [], []), (29, .iload_n 3, 1, [], []), (30, .aload_n 0, 1, [], []), (31, .getfield 31, 3, [6, 0, 3, 223], [])],
  [(34, .getfield 125, 3, [3, 0, 3, 109], []), (37, .getfield 93, 3, [4, 1, 0, 95], []), (40, .if_icmp .ge 33, 3, [73], []), (43, .iload_n 3, 1, [], []), (44, .iload_n 1, 1, [], []), (45, .isub, 1, [], []), (46, .invokestatic 108, 3, [12, 488], [])],
  [(49, .aload_n 0, 1, [], []), (50, .getfield 31, 3, [6, 0, 3, 223], []), (53, .getfield 113, 3, [3, 13, 0, 143], []), (56, .if_icmp .le 11, 3, [67], []), (59, .iload_n 2, 1, [], []), (60, .iconst 1, 1, [], []), (61, .iload_n 3, 1, [], []), (62, .ishl, 1, [], []), (63, .iconst (-1), 1, [], [])],
  [(64, .ixor, 1, [], []), (65, .iand, 1, [], []), (66, .istore_n 2, 1, [], []), (67, .iinc 3 1, 3, [], []), (70, .goto (-41), 3, [29], []), (73, .iload_n 2, 1, [], []), (74, .ireturn, 1, [1], [])]]
theorem k_X8_nextVersions : CdOk m_X8_nextVersions c_X8_nextVersions := ⟨by decide +kernel, allM_of ⟨o_X5_readersOf, ⟨o_X5_talkersOf, trivial⟩⟩⟩
def c_X8_changesOnWay : Cd := [
  [(0, .iconst 1, 1, [], []), (1, .iload_n 1, 1, [], []), (2, .ishl, 1, [], []), (3, .istore_n 3, 1, [], []), (4, .iconst 0, 1, [], []), (5, .istore 4, 2, [], []), (7, .iload 4, 2, [], []), (9, .aload_n 0, 1, [], []), (10, .getfield 31, 3, [6, 0, 3, 223], []), (13, .getfield 125, 3, [3, 0, 3, 109], [])],
  [(16, .getfield 93, 3, [4, 1, 0, 95], []), (19, .if_icmp .ge 74, 3, [93], []), (22, .iload_n 3, 1, [], []), (23, .iload_n 2, 1, [], []), (24, .invokestatic 119, 3, [2, 2, 1, 0, 0, 0], [m_X11_isIn]), (27, .ifCond .eq 6, 3, [33], []), (30, .iload 4, 2, [], [])],
  [(32, .ireturn, 1, [1], []), (33, .iload_n 3, 1, [], []), (34, .istore 5, 2, [], []), (36, .iconst 0, 1, [], []), (37, .istore 6, 2, [], []), (39, .iload 6, 2, [], []), (41, .aload_n 0, 1, [], []), (42, .getfield 31, 3, [6, 0, 3, 223], []), (45, .getfield 125, 3, [3, 0, 3, 109], [])],
  [(48, .getfield 93, 3, [4, 1, 0, 95], []), (51, .if_icmp .ge 33, 3, [84], []), (54, .iload 5, 2, [], []), (56, .iload_n 3, 1, [], []), (57, .iload 6, 2, [], []), (59, .invokestatic 119, 3, [2, 2, 1, 0, 0, 0], [m_X11_isIn]), (62, .ifCond .eq 12, 3, [74], [])],
  [(65, .aload_n 0, 1, [], []), (66, .iload 6, 2, [], []), (68, .invokevirtual 128, 3, [0, 1, 1, 6, 0, 1166], [m_X8_nextVersions]), (71, .goto 4, 3, [75], []), (74, .iconst 0, 1, [], []), (75, .ior, 1, [], []), (76, .istore 5, 2, [], []), (78, .iinc 6 1, 3, [], [])],
  [(81, .goto (-42), 3, [39], []), (84, .iload 5, 2, [], []), (86, .istore_n 3, 1, [], []), (87, .iinc 4 1, 3, [], []), (90, .goto (-83), 3, [7], []), (93, .iconst (-1), 1, [], []), (94, .ireturn, 1, [1], [])]]
theorem k_X8_changesOnWay : CdOk m_X8_changesOnWay c_X8_changesOnWay := ⟨by decide +kernel, allM_of ⟨o_X11_isIn, ⟨o_X11_isIn, ⟨o_X8_nextVersions, trivial⟩⟩⟩⟩
def c_X11_wayOf : Cd := [
  [(0, .aload_n 0, 1, [], []), (1, .iload_n 1, 1, [], []), (2, .invokevirtual 139, 3, [0, 1, 0, 8, 1, 1117], [m_X11_needVersion]), (5, .aload_n 0, 1, [], []), (6, .iload_n 2, 1, [], []), (7, .invokevirtual 139, 3, [0, 1, 0, 8, 1, 1117], [m_X11_needVersion]), (10, .aload_n 0, 1, [], []), (11, .getfield 24, 3, [8, 1, 3, 367], []), (14, .iload_n 1, 1, [], []), (15, .iload_n 2, 1, [], [])],
  [(16, .invokevirtual 155, 3, [0, 2, 1, 6, 0, 1162], [m_X8_changesOnWay]), (19, .ireturn, 1, [1], [])]]
theorem k_X11_wayOf : CdOk m_X11_wayOf c_X11_wayOf := ⟨by decide +kernel, allM_of ⟨o_X11_needVersion, ⟨o_X11_needVersion, ⟨o_X8_changesOnWay, trivial⟩⟩⟩⟩
def c_L_wayOf : Cd := [
  [(0, .aload_n 3, 1, [], []), (1, .iconst 0, 1, [], []), (2, .aload_n 0, 1, [], []), (3, .iload_n 1, 1, [], []), (4, .iload_n 2, 1, [], []), (5, .invokevirtual 43, 3, [0, 2, 1, 8, 2, 1158, 0, 0, 0, 0, 15, 4], [m_X11_wayOf]), (8, .i2l, 1, [], []), (9, .lastore, 1, [], []), (10, .goto 7, 3, [17], []), (15, .iconst 1, 1, [], [])],
  [(16, .ireturn, 1, [1], []), (17, .iconst 0, 1, [], []), (18, .ireturn, 1, [1], [])]]
theorem k_L_wayOf : CdOk m_L_wayOf c_L_wayOf := ⟨by decide +kernel, allM_of ⟨o_X11_wayOf, trivial⟩⟩
def c_X12_mayFollow : Cd := [
  [(0, .iload_n 1, 1, [], []), (1, .iload_n 2, 1, [], []), (2, .if_icmp .eq 45, 3, [47], []), (5, .aload_n 0, 1, [], []), (6, .iload_n 2, 1, [], []), (7, .aload_n 0, 1, [], []), (8, .getfield 20, 3, [9, 13, 3, 1434], []), (11, .iconst 5, 1, [], []), (12, .iaload, 1, [], []), (13, .invokevirtual 181, 3, [0, 2, 1, 9, 0, 1685], [m_X12_reads])],
  [(16, .ifCond .eq 31, 3, [47], []), (19, .aload_n 0, 1, [], []), (20, .iload_n 1, 1, [], []), (21, .iload_n 2, 1, [], []), (22, .invokevirtual 178, 3, [0, 2, 1, 9, 0, 1664], [m_X12_talk]), (25, .ifCond .eq 22, 3, [47], []), (28, .iload_n 1, 1, [], []), (29, .iload_n 2, 1, [], []), (30, .invokestatic 184, 3, [1, 2, 1, 0, 0, 1693], [m_X12_apart])],
  [(33, .aload_n 0, 1, [], []), (34, .getfield 20, 3, [9, 13, 3, 1434], []), (37, .bipush 6, 2, [], []), (39, .iaload, 1, [], []), (40, .if_icmp .gt 7, 3, [47], []), (43, .iconst 1, 1, [], []), (44, .goto 4, 3, [48], []), (47, .iconst 0, 1, [], [])],
  [(48, .ireturn, 1, [6], [])]]
theorem k_X12_mayFollow : CdOk m_X12_mayFollow c_X12_mayFollow := ⟨by decide +kernel, allM_of ⟨o_X12_reads, ⟨o_X12_talk, ⟨o_X12_apart, trivial⟩⟩⟩⟩
def c_X12_laysWays : Cd := [
  [(0, .iconst 0, 1, [], []), (1, .istore_n 2, 1, [], []), (2, .iload_n 2, 1, [], []), (3, .bipush 8, 2, [], []), (5, .if_icmp .ge 25, 3, [30], []), (8, .aload_n 0, 1, [], []), (9, .getfield 45, 3, [9, 24, 3, 1445], []), (12, .iload_n 2, 1, [], []), (13, .iload_n 2, 1, [], []), (14, .iload_n 1, 1, [], []), (15, .if_icmp .ne 7, 3, [22], [])],
  [(18, .iconst 0, 1, [], []), (19, .goto 4, 3, [23], []), (22, .iconst (-1), 1, [], []), (23, .iastore, 1, [], []), (24, .iinc 2 1, 3, [], []), (27, .goto (-25), 3, [2], []), (30, .iconst 0, 1, [], []), (31, .istore_n 2, 1, [], [])],
  [(32, .iload_n 2, 1, [], []), (33, .aload_n 0, 1, [], []), (34, .getfield 20, 3, [9, 13, 3, 1434], []), (37, .iconst 0, 1, [], []), (38, .iaload, 1, [], []), (39, .if_icmp .ge 111, 3, [150], []), (42, .iconst 0, 1, [], []), (43, .istore_n 3, 1, [], []), (44, .iload_n 3, 1, [], []), (45, .aload_n 0, 1, [], []), (46, .getfield 20, 3, [9, 13, 3, 1434], [])],
  [(49, .iconst 0, 1, [], []), (50, .iaload, 1, [], []), (51, .if_icmp .ge 93, 3, [144], []), (54, .iconst 0, 1, [], []), (55, .istore 4, 2, [], []), (57, .iload 4, 2, [], []), (59, .aload_n 0, 1, [], []), (60, .getfield 20, 3, [9, 13, 3, 1434], []), (63, .iconst 0, 1, [], [])],
  [(64, .iaload, 1, [], []), (65, .if_icmp .ge 73, 3, [138], []), (68, .aload_n 0, 1, [], []), (69, .getfield 45, 3, [9, 24, 3, 1445], []), (72, .iload 4, 2, [], []), (74, .iaload, 1, [], []), (75, .iconst (-1), 1, [], []), (76, .if_icmp .eq 56, 3, [132], []), (79, .aload_n 0, 1, [], [])],
  [(80, .iload_n 3, 1, [], []), (81, .iload 4, 2, [], []), (83, .invokevirtual 272, 3, [0, 2, 1, 9, 0, 1767], [m_X12_mayFollow]), (86, .ifCond .eq 46, 3, [132], []), (89, .aload_n 0, 1, [], []), (90, .getfield 45, 3, [9, 24, 3, 1445], []), (93, .iload_n 3, 1, [], []), (94, .iaload, 1, [], []), (95, .iconst (-1), 1, [], [])],
  [(96, .if_icmp .eq 21, 3, [117], []), (99, .aload_n 0, 1, [], []), (100, .getfield 45, 3, [9, 24, 3, 1445], []), (103, .iload_n 3, 1, [], []), (104, .iaload, 1, [], []), (105, .aload_n 0, 1, [], []), (106, .getfield 45, 3, [9, 24, 3, 1445], []), (109, .iload 4, 2, [], []), (111, .iaload, 1, [], [])],
  [(112, .iconst 1, 1, [], []), (113, .iadd, 1, [], []), (114, .if_icmp .le 18, 3, [132], []), (117, .aload_n 0, 1, [], []), (118, .getfield 45, 3, [9, 24, 3, 1445], []), (121, .iload_n 3, 1, [], []), (122, .aload_n 0, 1, [], []), (123, .getfield 45, 3, [9, 24, 3, 1445], []), (126, .iload 4, 2, [], [])],
  [(128, .iaload, 1, [], []), (129, .iconst 1, 1, [], []), (130, .iadd, 1, [], []), (131, .iastore, 1, [], []), (132, .iinc 4 1, 3, [], []), (135, .goto (-78), 3, [57], []), (138, .iinc 3 1, 3, [], []), (141, .goto (-97), 3, [44], [])],
  [(144, .iinc 2 1, 3, [], []), (147, .goto (-115), 3, [32], []), (150, .return_, 1, [], [])]]
theorem k_X12_laysWays : CdOk m_X12_laysWays c_X12_laysWays := ⟨by decide +kernel, allM_of ⟨o_X12_mayFollow, trivial⟩⟩
def c_X12_wayOf : Cd := [
  [(0, .aload_n 0, 1, [], []), (1, .aload_n 0, 1, [], []), (2, .iload_n 1, 1, [], []), (3, .invokevirtual 267, 3, [0, 1, 1, 9, 0, 1746], [m_X12_isVersion]), (6, .ifCond .eq 15, 3, [21], []), (9, .aload_n 0, 1, [], []), (10, .iload_n 2, 1, [], []), (11, .invokevirtual 267, 3, [0, 1, 1, 9, 0, 1746], [m_X12_isVersion]), (14, .ifCond .eq 7, 3, [21], [])],
  [(17, .iconst 1, 1, [], []), (18, .goto 4, 3, [22], []), (21, .iconst 0, 1, [], []), (22, .invokevirtual 79, 3, [0, 1, 1, 9, 0, 1550], [m_X12_goes]), (25, .ifCond .ne 5, 3, [30], []), (28, .iconst 0, 1, [], []), (29, .ireturn, 1, [1], []), (30, .aload_n 0, 1, [], []), (31, .iload_n 2, 1, [], [])],
  [(32, .invokevirtual 275, 3, [0, 1, 0, 9, 0, 1763], [m_X12_laysWays]), (35, .aload_n 0, 1, [], []), (36, .getfield 45, 3, [9, 24, 3, 1445], []), (39, .iload_n 1, 1, [], []), (40, .iaload, 1, [], []), (41, .ireturn, 1, [1], [])]]
theorem k_X12_wayOf : CdOk m_X12_wayOf c_X12_wayOf := ⟨by decide +kernel, allM_of ⟨o_X12_isVersion, ⟨o_X12_isVersion, ⟨o_X12_goes, ⟨o_X12_laysWays, trivial⟩⟩⟩⟩⟩
def c_X8_firstOnWay : Cd := [
  [(0, .aload_n 0, 1, [], []), (1, .iload_n 1, 1, [], []), (2, .iload_n 2, 1, [], []), (3, .invokevirtual 131, 3, [0, 2, 1, 6, 0, 1181], [m_X8_changesOnWay]), (6, .istore_n 3, 1, [], []), (7, .iload_n 3, 1, [], []), (8, .ifCond .le 11, 3, [19], []), (11, .aload_n 0, 1, [], []), (12, .iload_n 1, 1, [], []), (13, .invokevirtual 128, 3, [0, 1, 1, 6, 0, 1166], [m_X8_nextVersions])],
  [(16, .goto 4, 3, [20], []), (19, .iconst 0, 1, [], []), (20, .istore 4, 2, [], []), (22, .iconst 0, 1, [], []), (23, .istore 5, 2, [], []), (25, .iload 5, 2, [], []), (27, .aload_n 0, 1, [], []), (28, .getfield 31, 3, [6, 0, 3, 223], []), (31, .getfield 125, 3, [3, 0, 3, 109], [])],
  [(34, .getfield 93, 3, [4, 1, 0, 95], []), (37, .if_icmp .ge 35, 3, [72], []), (40, .iload 4, 2, [], []), (42, .iload 5, 2, [], []), (44, .invokestatic 119, 3, [2, 2, 1, 0, 0, 0], [m_X11_isIn]), (47, .ifCond .eq 19, 3, [66], [])],
  [(50, .aload_n 0, 1, [], []), (51, .iload 5, 2, [], []), (53, .iload_n 2, 1, [], []), (54, .invokevirtual 131, 3, [0, 2, 1, 6, 0, 1181], [m_X8_changesOnWay]), (57, .iload_n 3, 1, [], []), (58, .iconst 1, 1, [], []), (59, .isub, 1, [], []), (60, .if_icmp .ne 6, 3, [66], []), (63, .iload 5, 2, [], [])],
  [(65, .ireturn, 1, [1], []), (66, .iinc 5 1, 3, [], []), (69, .goto (-44), 3, [25], []), (72, .iconst (-1), 1, [], []), (73, .ireturn, 1, [1], [])]]
theorem k_X8_firstOnWay : CdOk m_X8_firstOnWay c_X8_firstOnWay := ⟨by decide +kernel, allM_of ⟨o_X8_changesOnWay, ⟨o_X8_nextVersions, ⟨o_X11_isIn, ⟨o_X8_changesOnWay, trivial⟩⟩⟩⟩⟩
def c_X11_nextOnWay : Cd := [
  [(0, .aload_n 0, 1, [], []), (1, .iload_n 1, 1, [], []), (2, .invokevirtual 139, 3, [0, 1, 0, 8, 1, 1117], [m_X11_needVersion]), (5, .aload_n 0, 1, [], []), (6, .iload_n 2, 1, [], []), (7, .invokevirtual 139, 3, [0, 1, 0, 8, 1, 1117], [m_X11_needVersion]), (10, .aload_n 0, 1, [], []), (11, .getfield 24, 3, [8, 1, 3, 367], []), (14, .iload_n 1, 1, [], []), (15, .iload_n 2, 1, [], [])],
  [(16, .invokevirtual 159, 3, [0, 2, 1, 6, 0, 1177], [m_X8_firstOnWay]), (19, .ireturn, 1, [1], [])]]
theorem k_X11_nextOnWay : CdOk m_X11_nextOnWay c_X11_nextOnWay := ⟨by decide +kernel, allM_of ⟨o_X11_needVersion, ⟨o_X11_needVersion, ⟨o_X8_firstOnWay, trivial⟩⟩⟩⟩
def c_L_nextOnWay : Cd := [
  [(0, .aload_n 3, 1, [], []), (1, .iconst 0, 1, [], []), (2, .aload_n 0, 1, [], []), (3, .iload_n 1, 1, [], []), (4, .iload_n 2, 1, [], []), (5, .invokevirtual 47, 3, [0, 2, 1, 8, 2, 1173, 0, 0, 0, 0, 15, 4], [m_X11_nextOnWay]), (8, .i2l, 1, [], []), (9, .lastore, 1, [], []), (10, .goto 7, 3, [17], []), (15, .iconst 1, 1, [], [])],
  [(16, .ireturn, 1, [1], []), (17, .iconst 0, 1, [], []), (18, .ireturn, 1, [1], [])]]
theorem k_L_nextOnWay : CdOk m_L_nextOnWay c_L_nextOnWay := ⟨by decide +kernel, allM_of ⟨o_X11_nextOnWay, trivial⟩⟩
def c_X12_nextOnWay : Cd := [
  [(0, .aload_n 0, 1, [], []), (1, .aload_n 0, 1, [], []), (2, .iload_n 1, 1, [], []), (3, .invokevirtual 267, 3, [0, 1, 1, 9, 0, 1746], [m_X12_isVersion]), (6, .ifCond .eq 15, 3, [21], []), (9, .aload_n 0, 1, [], []), (10, .iload_n 2, 1, [], []), (11, .invokevirtual 267, 3, [0, 1, 1, 9, 0, 1746], [m_X12_isVersion]), (14, .ifCond .eq 7, 3, [21], [])],
  [(17, .iconst 1, 1, [], []), (18, .goto 4, 3, [22], []), (21, .iconst 0, 1, [], []), (22, .invokevirtual 79, 3, [0, 1, 1, 9, 0, 1550], [m_X12_goes]), (25, .ifCond .ne 5, 3, [30], []), (28, .iconst 0, 1, [], []), (29, .ireturn, 1, [1], []), (30, .aload_n 0, 1, [], []), (31, .iload_n 2, 1, [], [])],
  [(32, .invokevirtual 275, 3, [0, 1, 0, 9, 0, 1763], [m_X12_laysWays]), (35, .aload_n 0, 1, [], []), (36, .getfield 45, 3, [9, 24, 3, 1445], []), (39, .iload_n 1, 1, [], []), (40, .iaload, 1, [], []), (41, .ifCond .gt 5, 3, [46], []), (44, .iconst (-1), 1, [], []), (45, .ireturn, 1, [1], []), (46, .iconst 0, 1, [], []), (47, .istore_n 3, 1, [], [])],
  [(48, .iload_n 3, 1, [], []), (49, .aload_n 0, 1, [], []), (50, .getfield 20, 3, [9, 13, 3, 1434], []), (53, .iconst 0, 1, [], []), (54, .iaload, 1, [], []), (55, .if_icmp .ge 37, 3, [92], []), (58, .aload_n 0, 1, [], []), (59, .iload_n 1, 1, [], []), (60, .iload_n 3, 1, [], []), (61, .invokevirtual 272, 3, [0, 2, 1, 9, 0, 1767], [m_X12_mayFollow])],
  [(64, .ifCond .eq 22, 3, [86], []), (67, .aload_n 0, 1, [], []), (68, .getfield 45, 3, [9, 24, 3, 1445], []), (71, .iload_n 3, 1, [], []), (72, .iaload, 1, [], []), (73, .aload_n 0, 1, [], []), (74, .getfield 45, 3, [9, 24, 3, 1445], []), (77, .iload_n 1, 1, [], []), (78, .iaload, 1, [], []), (79, .iconst 1, 1, [], [])],
  [(80, .isub, 1, [], []), (81, .if_icmp .ne 5, 3, [86], []), (84, .iload_n 3, 1, [], []), (85, .ireturn, 1, [1], []), (86, .iinc 3 1, 3, [], []), (89, .goto (-41), 3, [48], []), (92, .iconst (-1), 1, [], []), (93, .ireturn, 1, [1], [])]]
theorem k_X12_nextOnWay : CdOk m_X12_nextOnWay c_X12_nextOnWay := ⟨by decide +kernel, allM_of ⟨o_X12_isVersion, ⟨o_X12_isVersion, ⟨o_X12_goes, ⟨o_X12_laysWays, ⟨o_X12_mayFollow, trivial⟩⟩⟩⟩⟩⟩
def c_X11_needMember : Cd := [
  [(0, .iload_n 1, 1, [], []), (1, .ifCond .lt 20, 3, [21], []), (4, .iload_n 1, 1, [], []), (5, .aload_n 0, 1, [], []), (6, .getfield 24, 3, [8, 1, 3, 367], []), (9, .getfield 28, 3, [6, 0, 3, 222], []), (12, .getfield 100, 3, [3, 8, 3, 125], []), (15, .getfield 104, 3, [4, 1, 0, 93], [])],
  [(18, .if_icmp .lt 11, 3, [29], []), (21, .new 178, 3, [2, 180, 1121, 1130], []), (29, .return_, 1, [], [])]]
theorem k_X11_needMember : CdOk m_X11_needMember c_X11_needMember := ⟨by decide +kernel, allM_of trivial⟩
def c_X5_waveOf : Cd := [
  [(0, .aload_n 0, 1, [], []), (1, .getfield 45, 3, [3, 9, 3, 129], []), (4, .iload_n 1, 1, [], []), (5, .iaload, 1, [], []), (6, .istore_n 2, 1, [], []), (7, .iload_n 2, 1, [], []), (8, .ifCond .lt 23, 3, [31], []), (11, .iload_n 2, 1, [], []), (12, .aload_n 0, 1, [], []), (13, .getfield 30, 3, [3, 4, 3, 114], [])],
  [(16, .getfield 54, 3, [4, 1, 0, 92], []), (19, .if_icmp .ge 12, 3, [31], []), (22, .aload_n 0, 1, [], []), (23, .getfield 33, 3, [3, 5, 3, 117], []), (26, .iload_n 2, 1, [], []), (27, .iaload, 1, [], []), (28, .goto 4, 3, [32], []), (31, .iconst (-1), 1, [], [])],
  [(32, .ireturn, 1, [1], [])]]
theorem k_X5_waveOf : CdOk m_X5_waveOf c_X5_waveOf := ⟨by decide +kernel, allM_of trivial⟩
def c_X8_numberOfMember : Cd := [
  [(0, .iload_n 2, 1, [], []), (1, .tableswitch 119 0 6 #[43, 53, 60, 79, 86, 93, 110], 43, [120, 0, 44, 54, 61, 80, 87, 94, 111], [])],
  [],
  [(44, .aload_n 0, 1, [], []), (45, .getfield 31, 3, [6, 0, 3, 223], [])],
  [(48, .getfield 116, 3, [3, 9, 3, 130], []), (51, .iload_n 1, 1, [], []), (52, .iaload, 1, [], []), (53, .ireturn, 1, [1], []), (54, .aload_n 0, 1, [], []), (55, .getfield 9, 3, [6, 3, 3, 229], []), (58, .iload_n 1, 1, [], []), (59, .iaload, 1, [], []), (60, .ireturn, 1, [1], []), (61, .aload_n 0, 1, [], []), (62, .iload_n 1, 1, [], []), (63, .invokevirtual 135, 3, [0, 1, 1, 6, 0, 441], [m_X8_isUp])],
  [(66, .ifCond .eq 7, 3, [73], []), (69, .iconst (-1), 1, [], []), (70, .goto 9, 3, [79], []), (73, .aload_n 0, 1, [], []), (74, .getfield 15, 3, [6, 4, 3, 232], []), (77, .iload_n 1, 1, [], []), (78, .iaload, 1, [], []), (79, .ireturn, 1, [1], [])],
  [(80, .aload_n 0, 1, [], []), (81, .getfield 18, 3, [6, 5, 3, 234], []), (84, .iload_n 1, 1, [], []), (85, .iaload, 1, [], []), (86, .ireturn, 1, [1], []), (87, .aload_n 0, 1, [], []), (88, .getfield 21, 3, [6, 6, 3, 235], []), (91, .iload_n 1, 1, [], []), (92, .iaload, 1, [], []), (93, .ireturn, 1, [1], []), (94, .aload_n 0, 1, [], []), (95, .getfield 48, 3, [6, 8, 0, 239], [])],
  [(98, .iload_n 1, 1, [], []), (99, .invokestatic 119, 3, [2, 2, 1, 0, 0, 0], [m_X11_isIn]), (102, .ifCond .eq 7, 3, [109], []), (105, .iconst 1, 1, [], []), (106, .goto 4, 3, [110], []), (109, .iconst 0, 1, [], []), (110, .ireturn, 1, [1], []), (111, .aload_n 0, 1, [], [])],
  [(112, .getfield 31, 3, [6, 0, 3, 223], []), (115, .iload_n 1, 1, [], []), (116, .invokevirtual 139, 3, [0, 1, 1, 3, 0, 1197], [m_X5_waveOf]), (119, .ireturn, 1, [1], []), (120, .iconst (-1), 1, [], []), (121, .ireturn, 1, [1], [])]]
theorem k_X8_numberOfMember : CdOk m_X8_numberOfMember c_X8_numberOfMember := ⟨by decide +kernel, allM_of ⟨o_X8_isUp, ⟨o_X11_isIn, ⟨o_X5_waveOf, trivial⟩⟩⟩⟩
def c_X11_member : Cd := [
  [(0, .aload_n 0, 1, [], []), (1, .iload_n 1, 1, [], []), (2, .invokevirtual 162, 3, [0, 1, 0, 8, 1, 1189], [m_X11_needMember]), (5, .iload_n 2, 1, [], []), (6, .ifCond .lt 9, 3, [15], []), (9, .iload_n 2, 1, [], []), (10, .bipush 6, 2, [], []), (12, .if_icmp .le 11, 3, [23], []), (15, .new 86, 3, [1, 88, 757, 766], [])],
  [(23, .aload_n 0, 1, [], []), (24, .getfield 24, 3, [8, 1, 3, 367], []), (27, .iload_n 1, 1, [], []), (28, .iload_n 2, 1, [], []), (29, .invokevirtual 165, 3, [0, 2, 1, 6, 0, 1193], [m_X8_numberOfMember])],
  [(32, .ireturn, 1, [1], [])]]
theorem k_X11_member : CdOk m_X11_member c_X11_member := ⟨by decide +kernel, allM_of ⟨o_X11_needMember, ⟨o_X8_numberOfMember, trivial⟩⟩⟩
def c_L_member : Cd := [
  [(0, .aload_n 3, 1, [], []), (1, .iconst 0, 1, [], []), (2, .aload_n 0, 1, [], []), (3, .iload_n 1, 1, [], []), (4, .iload_n 2, 1, [], []), (5, .invokevirtual 50, 3, [0, 2, 1, 8, 2, 1185, 0, 0, 19, 4, 15, 4], [m_X11_member]), (8, .i2l, 1, [], []), (9, .lastore, 1, [], []), (10, .goto 11, 3, [21], []), (15, .iconst 1, 1, [], [])],
  [(16, .ireturn, 1, [1], []), (19, .iconst 2, 1, [], []), (20, .ireturn, 1, [1], []), (21, .iconst 0, 1, [], []), (22, .ireturn, 1, [1], [])]]
theorem k_L_member : CdOk m_L_member c_L_member := ⟨by decide +kernel, allM_of ⟨o_X11_member, trivial⟩⟩
def c_X12_isMember : Cd := [
  [(0, .iload_n 1, 1, [], []), (1, .i2l, 1, [], []), (2, .lconst 0, 1, [], []), (3, .aload_n 0, 1, [], []), (4, .getfield 20, 3, [9, 13, 3, 1434], []), (7, .iconst 2, 1, [], []), (8, .iaload, 1, [], []), (9, .iconst 1, 1, [], []), (10, .isub, 1, [], []), (11, .i2l, 1, [], []), (12, .invokestatic 87, 3, [1, 3, 1, 0, 0, 1565], [m_X12_isIn]), (15, .ireturn, 1, [6], [])]]
theorem k_X12_isMember : CdOk m_X12_isMember c_X12_isMember := ⟨by decide +kernel, allM_of ⟨o_X12_isIn, trivial⟩⟩
def c_X12_goesBoth : Cd := [
  [(0, .aload_n 0, 1, [], []), (1, .iload_n 1, 1, [], []), (2, .ifCond .ne 7, 3, [9], []), (5, .iconst 1, 1, [], []), (6, .goto 12, 3, [18], []), (9, .iload_n 2, 1, [], []), (10, .ifCond .ne 7, 3, [17], []), (13, .iconst 2, 1, [], []), (14, .goto 4, 3, [18], [])],
  [(17, .iconst 0, 1, [], []), (18, .putfield 69, 3, [9, 0, 0, 1421], []), (21, .aload_n 0, 1, [], []), (22, .getfield 69, 3, [9, 0, 0, 1421], []), (25, .ifCond .ne 7, 3, [32], []), (28, .iconst 1, 1, [], []), (29, .goto 4, 3, [33], [])],
  [(32, .iconst 0, 1, [], []), (33, .ireturn, 1, [6], [])]]
theorem k_X12_goesBoth : CdOk m_X12_goesBoth c_X12_goesBoth := ⟨by decide +kernel, allM_of trivial⟩
def c_X12_member : Cd := [
  [(0, .aload_n 0, 1, [], []), (1, .aload_n 0, 1, [], []), (2, .iload_n 1, 1, [], []), (3, .invokevirtual 278, 3, [0, 1, 1, 9, 0, 1779], [m_X12_isMember]), (6, .iload_n 2, 1, [], []), (7, .i2l, 1, [], []), (8, .lconst 0, 1, [], []), (9, .ldc2_w 281, 3, [6, 1783], []), (12, .invokestatic 87, 3, [1, 3, 1, 0, 0, 1565], [m_X12_isIn]), (15, .invokevirtual 283, 3, [0, 2, 1, 9, 0, 1784], [m_X12_goesBoth])],
  [(18, .ifCond .ne 5, 3, [23], []), (21, .iconst 0, 1, [], []), (22, .ireturn, 1, [1], []), (23, .iload_n 2, 1, [], []), (24, .bipush 6, 2, [], []), (26, .if_icmp .ne 20, 3, [46], []), (29, .aload_n 0, 1, [], []), (30, .getfield 20, 3, [9, 13, 3, 1434], [])],
  [(33, .bipush 44, 2, [], []), (35, .aload_n 0, 1, [], []), (36, .iload_n 1, 1, [], []), (37, .iconst 0, 1, [], []), (38, .invokevirtual 151, 3, [0, 2, 1, 9, 0, 1689], [m_X12_of]), (41, .iadd, 1, [], []), (42, .iaload, 1, [], []), (43, .goto 9, 3, [52], []), (46, .aload_n 0, 1, [], []), (47, .iload_n 1, 1, [], [])],
  [(48, .iload_n 2, 1, [], []), (49, .invokevirtual 151, 3, [0, 2, 1, 9, 0, 1689], [m_X12_of]), (52, .ireturn, 1, [1], [])]]
theorem k_X12_member : CdOk m_X12_member c_X12_member := ⟨by decide +kernel, allM_of ⟨o_X12_isMember, ⟨o_X12_isIn, ⟨o_X12_goesBoth, ⟨o_X12_of, ⟨o_X12_of, trivial⟩⟩⟩⟩⟩⟩
def c_X11_partners : Cd := [
  [(0, .aload_n 0, 1, [], []), (1, .iload_n 1, 1, [], []), (2, .invokevirtual 162, 3, [0, 1, 0, 8, 1, 1189], [m_X11_needMember]), (5, .aload_n 0, 1, [], []), (6, .getfield 24, 3, [8, 1, 3, 367], []), (9, .getfield 28, 3, [6, 0, 3, 222], []), (12, .getfield 168, 3, [3, 10, 3, 134], []), (15, .iload_n 1, 1, [], [])],
  [(16, .iaload, 1, [], []), (17, .ireturn, 1, [1], [])]]
theorem k_X11_partners : CdOk m_X11_partners c_X11_partners := ⟨by decide +kernel, allM_of ⟨o_X11_needMember, trivial⟩⟩
def c_L_partners : Cd := [
  [(0, .aload_n 2, 1, [], []), (1, .iconst 0, 1, [], []), (2, .aload_n 0, 1, [], []), (3, .iload_n 1, 1, [], []), (4, .invokevirtual 53, 3, [0, 1, 1, 8, 1, 1204, 0, 0, 0, 0, 13, 3], [m_X11_partners]), (7, .i2l, 1, [], []), (8, .lastore, 1, [], []), (9, .goto 6, 3, [15], []), (13, .iconst 1, 1, [], []), (14, .ireturn, 1, [1], []), (15, .iconst 0, 1, [], [])],
  [(16, .ireturn, 1, [1], [])]]
theorem k_L_partners : CdOk m_L_partners c_L_partners := ⟨by decide +kernel, allM_of ⟨o_X11_partners, trivial⟩⟩
def c_X12_partners : Cd := [
  [(0, .aload_n 0, 1, [], []), (1, .aload_n 0, 1, [], []), (2, .iload_n 1, 1, [], []), (3, .invokevirtual 278, 3, [0, 1, 1, 9, 0, 1779], [m_X12_isMember]), (6, .invokevirtual 79, 3, [0, 1, 1, 9, 0, 1550], [m_X12_goes]), (9, .ifCond .ne 5, 3, [14], []), (12, .iconst 0, 1, [], []), (13, .ireturn, 1, [1], []), (14, .iconst 0, 1, [], []), (15, .istore_n 2, 1, [], [])],
  [(16, .iconst 0, 1, [], []), (17, .istore_n 3, 1, [], []), (18, .iload_n 3, 1, [], []), (19, .aload_n 0, 1, [], []), (20, .getfield 20, 3, [9, 13, 3, 1434], []), (23, .iconst 2, 1, [], []), (24, .iaload, 1, [], []), (25, .if_icmp .ge 23, 3, [48], []), (28, .iload_n 2, 1, [], []), (29, .aload_n 0, 1, [], []), (30, .iload_n 1, 1, [], []), (31, .iload_n 3, 1, [], [])],
  [(32, .invokevirtual 287, 3, [0, 2, 1, 9, 0, 1792], [m_X12_arePartners]), (35, .invokestatic 72, 3, [1, 1, 1, 0, 0, 1554], [m_X12_truth]), (38, .iload_n 3, 1, [], []), (39, .ishl, 1, [], []), (40, .ior, 1, [], []), (41, .istore_n 2, 1, [], []), (42, .iinc 3 1, 3, [], []), (45, .goto (-27), 3, [18], [])],
  [(48, .iload_n 2, 1, [], []), (49, .ireturn, 1, [1], [])]]
theorem k_X12_partners : CdOk m_X12_partners c_X12_partners := ⟨by decide +kernel, allM_of ⟨o_X12_isMember, ⟨o_X12_goes, ⟨o_X12_arePartners, ⟨o_X12_truth, trivial⟩⟩⟩⟩⟩
def c_X8_upWith : Cd := [
  [(0, .iconst 0, 1, [], []), (1, .istore_n 2, 1, [], []), (2, .iconst 0, 1, [], []), (3, .istore_n 3, 1, [], []), (4, .iload_n 3, 1, [], []), (5, .aload_n 0, 1, [], []), (6, .getfield 31, 3, [6, 0, 3, 223], []), (9, .getfield 89, 3, [3, 8, 3, 127], []), (12, .getfield 93, 3, [4, 1, 0, 95], []), (15, .if_icmp .ge 25, 3, [40], [])],
  [(18, .aload_n 0, 1, [], []), (19, .getfield 9, 3, [6, 3, 3, 229], []), (22, .iload_n 3, 1, [], []), (23, .iaload, 1, [], []), (24, .iload_n 1, 1, [], []), (25, .if_icmp .ne 9, 3, [34], []), (28, .iload_n 2, 1, [], []), (29, .iconst 1, 1, [], []), (30, .iload_n 3, 1, [], []), (31, .ishl, 1, [], [])],
  [(32, .ior, 1, [], []), (33, .istore_n 2, 1, [], []), (34, .iinc 3 1, 3, [], []), (37, .goto (-33), 3, [4], []), (40, .iload_n 2, 1, [], []), (41, .aload_n 0, 1, [], []), (42, .getfield 45, 3, [6, 7, 0, 237], []), (45, .iconst (-1), 1, [], []), (46, .ixor, 1, [], []), (47, .iand, 1, [], [])],
  [(48, .ireturn, 1, [1], [])]]
theorem k_X8_upWith : CdOk m_X8_upWith c_X8_upWith := ⟨by decide +kernel, allM_of trivial⟩
def c_X11_with : Cd := [
  [(0, .aload_n 0, 1, [], []), (1, .iload_n 1, 1, [], []), (2, .invokevirtual 139, 3, [0, 1, 0, 8, 1, 1117], [m_X11_needVersion]), (5, .aload_n 0, 1, [], []), (6, .getfield 24, 3, [8, 1, 3, 367], []), (9, .iload_n 1, 1, [], []), (10, .invokevirtual 172, 3, [0, 1, 1, 6, 0, 1215], [m_X8_upWith]), (13, .ireturn, 1, [1], [])]]
theorem k_X11_with : CdOk m_X11_with c_X11_with := ⟨by decide +kernel, allM_of ⟨o_X11_needVersion, ⟨o_X8_upWith, trivial⟩⟩⟩
def c_L_with : Cd := [
  [(0, .aload_n 2, 1, [], []), (1, .iconst 0, 1, [], []), (2, .aload_n 0, 1, [], []), (3, .iload_n 1, 1, [], []), (4, .invokevirtual 56, 3, [0, 1, 1, 8, 1, 1211, 0, 0, 0, 0, 13, 3], [m_X11_with]), (7, .i2l, 1, [], []), (8, .lastore, 1, [], []), (9, .goto 6, 3, [15], []), (13, .iconst 1, 1, [], []), (14, .ireturn, 1, [1], []), (15, .iconst 0, 1, [], [])],
  [(16, .ireturn, 1, [1], [])]]
theorem k_L_with : CdOk m_L_with c_L_with := ⟨by decide +kernel, allM_of ⟨o_X11_with, trivial⟩⟩
def c_X12_isUpWith : Cd := [
  [(0, .aload_n 0, 1, [], []), (1, .iload_n 1, 1, [], []), (2, .invokevirtual 155, 3, [0, 1, 1, 9, 0, 1804], [m_X12_isDown]), (5, .ifCond .ne 17, 3, [22], []), (8, .aload_n 0, 1, [], []), (9, .iload_n 1, 1, [], []), (10, .iconst 1, 1, [], []), (11, .invokevirtual 151, 3, [0, 2, 1, 9, 0, 1689], [m_X12_of]), (14, .iload_n 2, 1, [], []), (15, .if_icmp .ne 7, 3, [22], [])],
  [(18, .iconst 1, 1, [], []), (19, .goto 4, 3, [23], []), (22, .iconst 0, 1, [], []), (23, .ireturn, 1, [6], [])]]
theorem k_X12_isUpWith : CdOk m_X12_isUpWith c_X12_isUpWith := ⟨by decide +kernel, allM_of ⟨o_X12_isDown, ⟨o_X12_of, trivial⟩⟩⟩
def c_X12_with : Cd := [
  [(0, .aload_n 0, 1, [], []), (1, .aload_n 0, 1, [], []), (2, .iload_n 1, 1, [], []), (3, .invokevirtual 267, 3, [0, 1, 1, 9, 0, 1746], [m_X12_isVersion]), (6, .invokevirtual 79, 3, [0, 1, 1, 9, 0, 1550], [m_X12_goes]), (9, .ifCond .ne 5, 3, [14], []), (12, .iconst 0, 1, [], []), (13, .ireturn, 1, [1], []), (14, .iconst 0, 1, [], []), (15, .istore_n 2, 1, [], [])],
  [(16, .iconst 0, 1, [], []), (17, .istore_n 3, 1, [], []), (18, .iload_n 3, 1, [], []), (19, .aload_n 0, 1, [], []), (20, .getfield 20, 3, [9, 13, 3, 1434], []), (23, .iconst 2, 1, [], []), (24, .iaload, 1, [], []), (25, .if_icmp .ge 23, 3, [48], []), (28, .iload_n 2, 1, [], []), (29, .aload_n 0, 1, [], []), (30, .iload_n 3, 1, [], []), (31, .iload_n 1, 1, [], [])],
  [(32, .invokevirtual 290, 3, [0, 2, 1, 9, 0, 1800], [m_X12_isUpWith]), (35, .invokestatic 72, 3, [1, 1, 1, 0, 0, 1554], [m_X12_truth]), (38, .iload_n 3, 1, [], []), (39, .ishl, 1, [], []), (40, .ior, 1, [], []), (41, .istore_n 2, 1, [], []), (42, .iinc 3 1, 3, [], []), (45, .goto (-27), 3, [18], [])],
  [(48, .iload_n 2, 1, [], []), (49, .ireturn, 1, [1], [])]]
theorem k_X12_with : CdOk m_X12_with c_X12_with := ⟨by decide +kernel, allM_of ⟨o_X12_isVersion, ⟨o_X12_goes, ⟨o_X12_isUpWith, ⟨o_X12_truth, trivial⟩⟩⟩⟩⟩
def c_X11_down : Cd := [
  [(0, .iload_n 1, 1, [], []), (1, .ifCond .lt 20, 3, [21], []), (4, .iload_n 1, 1, [], []), (5, .aload_n 0, 1, [], []), (6, .getfield 24, 3, [8, 1, 3, 367], []), (9, .getfield 28, 3, [6, 0, 3, 222], []), (12, .getfield 175, 3, [3, 4, 3, 116], []), (15, .getfield 104, 3, [4, 1, 0, 93], [])],
  [(18, .if_icmp .lt 11, 3, [29], []), (21, .new 178, 3, [2, 180, 1121, 1130], []), (29, .aload_n 0, 1, [], []), (30, .getfield 24, 3, [8, 1, 3, 367], [])],
  [(33, .getfield 28, 3, [6, 0, 3, 222], []), (36, .getfield 181, 3, [3, 6, 3, 120], []), (39, .iload_n 1, 1, [], []), (40, .iaload, 1, [], []), (41, .aload_n 0, 1, [], []), (42, .getfield 24, 3, [8, 1, 3, 367], []), (45, .getfield 184, 3, [6, 7, 0, 238], [])],
  [(48, .iand, 1, [], []), (49, .ireturn, 1, [1], [])]]
theorem k_X11_down : CdOk m_X11_down c_X11_down := ⟨by decide +kernel, allM_of trivial⟩
