/-! ===== the law's code, case by case ===== -/
def lkB (b : Nat) (C : Cd) (pc : Nat) : Option En := (C.getD (pc / 16 - b) []).find? (fun e => Nat.beq e.1 pc)
theorem lkB_mem {b0 : Nat} {C : Cd} {pc : Nat} {e : En} (h : lkB b0 C pc = some e) : (∃ b ∈ C, e ∈ b) ∧ e.1 = pc := by
  unfold lkB at h
  refine ⟨?_, Nat.eq_of_beq_eq_true (List.find?_some (p := fun e : En => Nat.beq e.1 pc) h)⟩
  have hm := List.mem_of_find?_eq_some h
  rcases Nat.lt_or_ge (pc / 16 - b0) C.length with q | q
  · refine ⟨C[pc / 16 - b0], List.getElem_mem q, ?_⟩
    rw [List.getD_eq_getElem?_getD, List.getElem?_eq_getElem q] at hm
    exact hm
  · rw [List.getD_eq_getElem?_getD, List.getElem?_eq_none q] at hm
    cases hm
def vcB (b : Nat) (C : Cd) (M : MI) (Q : Res → PH → Prop) (stops : List Nat) : Nat → KT
  | 0 => At M Q
  | n + 1 => fun pc c ls st h => match stops.elem pc with
    | true => At M Q pc c ls st h
    | false => match lkB b C pc with
      | some e => stp MetPM M Q (At M Q) (vcB b C M Q stops n) e c ls st h
      | none => False
theorem step_ofB {b0 : Nat} {C : Cd} {M : MI} (hC : CdOk M C) {Q : Res → PH → Prop} {k : KT} (hk : ∀ pc c ls st h, k pc c ls st h → At M Q pc c ls st h) {pc c : Nat} {ls : Lc} {st : List Value} {h : PH} {e : En} (he : lkB b0 C pc = some e) (hs : stp MetPM M Q (At M Q) k e c ls st h) : At M Q pc c ls st h := by
  obtain ⟨⟨b, hb, heb⟩, hpc⟩ := lkB_mem he
  have h1 := List.all_eq_true.mp (List.all_eq_true.mp hC.1 b hb) e heb
  have h2 : ∀ M' ∈ e.2.2.2.2, MOK M' := fun M' hm => hC.2 M' (List.mem_flatMap.mpr ⟨b, hb, List.mem_flatMap.mpr ⟨e, heb, hm⟩⟩)
  rw [← hpc]
  exact at_step h1 h2 hk hs
theorem vcB_ok {b0 : Nat} {C : Cd} {M : MI} (hC : CdOk M C) {Q : Res → PH → Prop} {stops : List Nat} : ∀ (n pc c : Nat) (ls : Lc) (st : List Value) (h : PH), vcB b0 C M Q stops n pc c ls st h → At M Q pc c ls st h := by
  intro n
  induction n with
  | zero => intro pc c ls st h h9; exact h9
  | succ n ih =>
    intro pc c ls st h h9
    unfold vcB at h9
    split at h9
    · exact h9
    · split at h9
      · rename_i e he
        exact step_ofB hC ih he h9
      · exact h9.elim
def vgB (b : Nat) (C : Cd) (M : MI) (Q : Res → PH → Prop) (stops : List Nat) (n : Nat) : KT := fun pc c ls st h => match lkB b C pc with
  | some e => stp MetPM M Q (At M Q) (vcB b C M Q stops n) e c ls st h
  | none => False
theorem vgB_ok {b0 : Nat} {C : Cd} {M : MI} (hC : CdOk M C) {Q : Res → PH → Prop} {stops : List Nat} (n pc c : Nat) (ls : Lc) (st : List Value) (h : PH) (h9 : vgB b0 C M Q stops n pc c ls st h) : At M Q pc c ls st h := by
  unfold vgB at h9
  split at h9
  · rename_i e he
    exact step_ofB hC (vcB_ok hC n) he h9
  · exact h9.elim
def m_L_law : MI := (yL_law, cL_law, 10, some .boolean, 14, 524, 100000, [], 3)
def cl_28 : Cd := [
  [(28, .iload 5, 2, [], []), (30, .aload_n 0, 1, [], []), (31, .arraylength, 1, [6], [])],
  [(32, .bipush 6, 2, [], []), (34, .isub, 1, [], []), (35, .if_icmp .gt 2629, 3, [2664], []), (38, .aload_n 0, 1, [], []), (39, .iload 5, 2, [], []), (41, .iaload, 1, [6], []), (42, .bipush 63, 2, [], []), (44, .iand, 1, [], []), (45, .tableswitch 2613 0 49 #[215, 319, 375, 419, 463, 476, 489, 545, 620, 676, 732, 800, 868, 936, 992, 1048, 1104, 1117, 1185, 1241, 1309, 1322, 1378, 1391, 1404, 1460, 1538, 1579, 1635, 1648, 1661, 1717, 1773, 1786, 1842, 1917, 1930, 1998, 2054, 2110, 2154, 2198, 2282, 2350, 2418, 2474, 2487, 2543, 2556, 2569], 215, [2658, 0, 260, 364, 420, 464, 508, 521, 534, 590, 665, 721, 777, 845, 913, 981, 1037, 1093, 1149, 1162, 1230, 1286, 1354, 1367, 1423, 1436, 1449, 1505, 1583, 1624, 1680, 1693, 1706, 1762, 1818, 1831, 1887, 1962, 1975, 2043, 2099, 2155, 2199, 2243, 2327, 2395, 2463, 2519, 2532, 2588, 2601, 2614], [])],
  [],
  [],
  [],
  [],
  [],
  [],
  [],
  [],
  [],
  [],
  [],
  [],
  [],
  [],
  [],
  [],
  [],
  [],
  [],
  [],
  [],
  [],
  [],
  [],
  [],
  [],
  [],
  [],
  [],
  [],
  [],
  [],
  [],
  [],
  [],
  [],
  [],
  [],
  [],
  [],
  [],
  [],
  [],
  [],
  [],
  [],
  [],
  [],
  [],
  [],
  [],
  [],
  [],
  [],
  [],
  [],
  [],
  [],
  [],
  [],
  [],
  [],
  [],
  [],
  [],
  [],
  [],
  [],
  [],
  [],
  [],
  [],
  [],
  [],
  [],
  [],
  [],
  [],
  [],
  [],
  [],
  [],
  [],
  [],
  [],
  [],
  [],
  [],
  [],
  [],
  [],
  [],
  [],
  [],
  [],
  [],
  [],
  [],
  [],
  [],
  [],
  [],
  [],
  [],
  [],
  [],
  [],
  [],
  [],
  [],
  [],
  [],
  [],
  [],
  [],
  [],
  [],
  [],
  [],
  [],
  [],
  [],
  [],
  [],
  [],
  [],
  [],
  [],
  [],
  [],
  [],
  [],
  [],
  [],
  [],
  [],
  [],
  [],
  [],
  [],
  [],
  [],
  [],
  [],
  [],
  [],
  [],
  [],
  [],
  [],
  [],
  [],
  [],
  [],
  [],
  [],
  [],
  [],
  [],
  [],
  [],
  [],
  [],
  [(2664, .iconst 1, 1, [], []), (2665, .ireturn, 1, [6], [])]]
theorem kl_28 : CdOk m_L_law cl_28 := ⟨by decide +kernel, allM_of trivial⟩
def cl_260 : Cd := [
  [(260, .aload_n 1, 1, [], []), (261, .aload_n 0, 1, [], []), (262, .iload 5, 2, [], []), (264, .iconst 1, 1, [], []), (265, .iadd, 1, [], []), (266, .iaload, 1, [6], []), (267, .aload_n 0, 1, [], []), (268, .iload 5, 2, [], []), (270, .iconst 2, 1, [], []), (271, .iadd, 1, [], [])],
  [(272, .iaload, 1, [6], []), (273, .aload_n 0, 1, [], []), (274, .iload 5, 2, [], []), (276, .iconst 3, 1, [], []), (277, .iadd, 1, [], []), (278, .iaload, 1, [6], []), (279, .aload_n 0, 1, [], []), (280, .iload 5, 2, [], []), (282, .iconst 4, 1, [], []), (283, .iadd, 1, [], []), (284, .iaload, 1, [6], []), (285, .aload_n 0, 1, [], []), (286, .iload 5, 2, [], [])],
  [(288, .iconst 5, 1, [], []), (289, .iadd, 1, [], []), (290, .iaload, 1, [6], []), (291, .aload_n 3, 1, [], []), (292, .invokestatic 134, 3, [3, 7, 1, 0, 1, 674], [m_L_feed]), (295, .istore 6, 2, [], []), (297, .aload_n 2, 1, [], []), (298, .aload_n 0, 1, [], []), (299, .iload 5, 2, [], []), (301, .iconst 1, 1, [], []), (302, .iadd, 1, [], []), (303, .iaload, 1, [6], [])],
  [(304, .aload_n 0, 1, [], []), (305, .iload 5, 2, [], []), (307, .iconst 2, 1, [], []), (308, .iadd, 1, [], []), (309, .iaload, 1, [6], []), (310, .aload_n 0, 1, [], []), (311, .iload 5, 2, [], []), (313, .iconst 3, 1, [], []), (314, .iadd, 1, [], []), (315, .iaload, 1, [6], []), (316, .aload_n 0, 1, [], []), (317, .iload 5, 2, [], []), (319, .iconst 4, 1, [], [])],
  [(320, .iadd, 1, [], []), (321, .iaload, 1, [6], []), (322, .aload_n 0, 1, [], []), (323, .iload 5, 2, [], []), (325, .iconst 5, 1, [], []), (326, .iadd, 1, [], []), (327, .iaload, 1, [6], []), (328, .invokevirtual 139, 3, [0, 5, 1, 9, 0, 1546], [m_X12_feed]), (331, .istore 7, 2, [], []), (333, .aload_n 2, 1, [], []), (334, .invokevirtual 140, 3, [0, 0, 1, 9, 0, 1542], [m_X12_thrown])],
  [(337, .iload 6, 2, [], []), (339, .if_icmp .eq 5, 3, [344], []), (342, .iconst 0, 1, [], []), (343, .ireturn, 1, [6], []), (344, .iload 6, 2, [], []), (346, .ifCond .ne 15, 3, [361], []), (349, .aload_n 3, 1, [], []), (350, .iconst 0, 1, [], []), (351, .laload, 1, [], [])],
  [(352, .iload 7, 2, [], []), (354, .i2l, 1, [], []), (355, .lcmp, 1, [], []), (356, .ifCond .eq 5, 3, [361], []), (359, .iconst 0, 1, [], []), (360, .ireturn, 1, [6], []), (361, .goto 2297, 3, [2658], [])]]
theorem kl_260 : CdOk m_L_law cl_260 := ⟨by decide +kernel, allM_of ⟨o_L_feed, ⟨o_X12_feed, ⟨o_X12_thrown, trivial⟩⟩⟩⟩
def cl_364 : Cd := [
  [(364, .aload_n 1, 1, [], []), (365, .aload_n 0, 1, [], []), (366, .iload 5, 2, [], [])],
  [(368, .iconst 1, 1, [], []), (369, .iadd, 1, [], []), (370, .iaload, 1, [6], []), (371, .aload_n 3, 1, [], []), (372, .invokestatic 143, 3, [3, 3, 1, 0, 1, 749], [m_L_truncate]), (375, .istore 6, 2, [], []), (377, .aload_n 2, 1, [], []), (378, .aload_n 0, 1, [], []), (379, .iload 5, 2, [], []), (381, .iconst 1, 1, [], []), (382, .iadd, 1, [], []), (383, .iaload, 1, [6], [])],
  [(384, .invokevirtual 146, 3, [0, 1, 1, 9, 0, 1561], [m_X12_truncate]), (387, .istore 7, 2, [], []), (389, .aload_n 2, 1, [], []), (390, .invokevirtual 140, 3, [0, 0, 1, 9, 0, 1542], [m_X12_thrown]), (393, .iload 6, 2, [], []), (395, .if_icmp .eq 5, 3, [400], []), (398, .iconst 0, 1, [], []), (399, .ireturn, 1, [6], [])],
  [(400, .iload 6, 2, [], []), (402, .ifCond .ne 15, 3, [417], []), (405, .aload_n 3, 1, [], []), (406, .iconst 0, 1, [], []), (407, .laload, 1, [], []), (408, .iload 7, 2, [], []), (410, .i2l, 1, [], []), (411, .lcmp, 1, [], []), (412, .ifCond .eq 5, 3, [417], []), (415, .iconst 0, 1, [], [])],
  [(416, .ireturn, 1, [6], []), (417, .goto 2241, 3, [2658], [])]]
theorem kl_364 : CdOk m_L_law cl_364 := ⟨by decide +kernel, allM_of ⟨o_L_truncate, ⟨o_X12_truncate, ⟨o_X12_thrown, trivial⟩⟩⟩⟩
def cl_420 : Cd := [
  [(420, .aload_n 1, 1, [], []), (421, .aload_n 3, 1, [], []), (422, .invokestatic 147, 3, [3, 2, 1, 0, 1, 772], [m_L_readText]), (425, .istore 6, 2, [], []), (427, .aload_n 2, 1, [], []), (428, .invokevirtual 150, 3, [0, 0, 1, 9, 0, 1588], [m_X12_readText]), (431, .istore 7, 2, [], [])],
  [(433, .aload_n 2, 1, [], []), (434, .invokevirtual 140, 3, [0, 0, 1, 9, 0, 1542], [m_X12_thrown]), (437, .iload 6, 2, [], []), (439, .if_icmp .eq 5, 3, [444], []), (442, .iconst 0, 1, [], []), (443, .ireturn, 1, [6], []), (444, .iload 6, 2, [], []), (446, .ifCond .ne 15, 3, [461], [])],
  [(449, .aload_n 3, 1, [], []), (450, .iconst 0, 1, [], []), (451, .laload, 1, [], []), (452, .iload 7, 2, [], []), (454, .i2l, 1, [], []), (455, .lcmp, 1, [], []), (456, .ifCond .eq 5, 3, [461], []), (459, .iconst 0, 1, [], []), (460, .ireturn, 1, [6], []), (461, .goto 2197, 3, [2658], [])]]
theorem kl_420 : CdOk m_L_law cl_420 := ⟨by decide +kernel, allM_of ⟨o_L_readText, ⟨o_X12_readText, ⟨o_X12_thrown, trivial⟩⟩⟩⟩
def cl_464 : Cd := [
  [(464, .aload_n 1, 1, [], []), (465, .aload_n 3, 1, [], []), (466, .invokestatic 151, 3, [3, 2, 1, 0, 1, 992], [m_L_runScript]), (469, .istore 6, 2, [], []), (471, .aload_n 2, 1, [], []), (472, .invokevirtual 153, 3, [0, 0, 1, 9, 0, 2107], [m_X12_runScript]), (475, .istore 7, 2, [], []), (477, .aload_n 2, 1, [], []), (478, .invokevirtual 140, 3, [0, 0, 1, 9, 0, 1542], [m_X12_thrown])],
  [(481, .iload 6, 2, [], []), (483, .if_icmp .eq 5, 3, [488], []), (486, .iconst 0, 1, [], []), (487, .ireturn, 1, [6], []), (488, .iload 6, 2, [], []), (490, .ifCond .ne 15, 3, [505], []), (493, .aload_n 3, 1, [], []), (494, .iconst 0, 1, [], []), (495, .laload, 1, [], [])],
  [(496, .iload 7, 2, [], []), (498, .i2l, 1, [], []), (499, .lcmp, 1, [], []), (500, .ifCond .eq 5, 3, [505], []), (503, .iconst 0, 1, [], []), (504, .ireturn, 1, [6], []), (505, .goto 2153, 3, [2658], [])]]
theorem kl_464 : CdOk m_L_law cl_464 := ⟨by decide +kernel, allM_of ⟨o_L_runScript, ⟨o_X12_runScript, ⟨o_X12_thrown, trivial⟩⟩⟩⟩
def cl_508 : Cd := [
  [(508, .aload_n 1, 1, [], []), (509, .invokevirtual 154, 3, [0, 0, 1, 8, 0, 400], [m_X11_errorCode])],
  [(512, .aload_n 2, 1, [], []), (513, .invokevirtual 157, 3, [0, 0, 1, 9, 0, 1568], [m_X12_errorCode]), (516, .if_icmp .eq 2142, 3, [2658], []), (519, .iconst 0, 1, [], []), (520, .ireturn, 1, [6], [])]]
theorem kl_508 : CdOk m_L_law cl_508 := ⟨by decide +kernel, allM_of ⟨o_X11_errorCode, ⟨o_X12_errorCode, trivial⟩⟩⟩
def cl_521 : Cd := [
  [(521, .aload_n 1, 1, [], []), (522, .invokevirtual 158, 3, [0, 0, 1, 8, 0, 404], [m_X11_errorPosition]), (525, .aload_n 2, 1, [], []), (526, .invokevirtual 161, 3, [0, 0, 1, 9, 0, 1572], [m_X12_errorPosition])],
  [(529, .if_icmp .eq 2129, 3, [2658], []), (532, .iconst 0, 1, [], []), (533, .ireturn, 1, [6], [])]]
theorem kl_521 : CdOk m_L_law cl_521 := ⟨by decide +kernel, allM_of ⟨o_X11_errorPosition, ⟨o_X12_errorPosition, trivial⟩⟩⟩
def cl_534 : Cd := [
  [(534, .aload_n 1, 1, [], []), (535, .aload_n 0, 1, [], []), (536, .iload 5, 2, [], []), (538, .iconst 1, 1, [], []), (539, .iadd, 1, [], []), (540, .iaload, 1, [6], []), (541, .aload_n 3, 1, [], []), (542, .invokestatic 162, 3, [3, 3, 1, 0, 1, 1098], [m_L_setting])],
  [(545, .istore 6, 2, [], []), (547, .aload_n 2, 1, [], []), (548, .aload_n 0, 1, [], []), (549, .iload 5, 2, [], []), (551, .iconst 1, 1, [], []), (552, .iadd, 1, [], []), (553, .iaload, 1, [6], []), (554, .invokevirtual 164, 3, [0, 1, 1, 9, 0, 1737], [m_X12_setting]), (557, .istore 7, 2, [], []), (559, .aload_n 2, 1, [], [])],
  [(560, .invokevirtual 140, 3, [0, 0, 1, 9, 0, 1542], [m_X12_thrown]), (563, .iload 6, 2, [], []), (565, .if_icmp .eq 5, 3, [570], []), (568, .iconst 0, 1, [], []), (569, .ireturn, 1, [6], []), (570, .iload 6, 2, [], []), (572, .ifCond .ne 15, 3, [587], []), (575, .aload_n 3, 1, [], [])],
  [(576, .iconst 0, 1, [], []), (577, .laload, 1, [], []), (578, .iload 7, 2, [], []), (580, .i2l, 1, [], []), (581, .lcmp, 1, [], []), (582, .ifCond .eq 5, 3, [587], []), (585, .iconst 0, 1, [], []), (586, .ireturn, 1, [6], []), (587, .goto 2071, 3, [2658], [])]]
theorem kl_534 : CdOk m_L_law cl_534 := ⟨by decide +kernel, allM_of ⟨o_L_setting, ⟨o_X12_setting, ⟨o_X12_thrown, trivial⟩⟩⟩⟩
def cl_590 : Cd := [
  [(590, .aload_n 1, 1, [], []), (591, .aload_n 0, 1, [], [])],
  [(592, .iload 5, 2, [], []), (594, .iconst 1, 1, [], []), (595, .iadd, 1, [], []), (596, .iaload, 1, [6], []), (597, .aload_n 0, 1, [], []), (598, .iload 5, 2, [], []), (600, .iconst 2, 1, [], []), (601, .iadd, 1, [], []), (602, .iaload, 1, [6], []), (603, .aload_n 3, 1, [], []), (604, .invokestatic 165, 3, [3, 4, 1, 0, 2, 1109], [m_L_mayTalk]), (607, .istore 6, 2, [], [])],
  [(609, .aload_n 2, 1, [], []), (610, .aload_n 0, 1, [], []), (611, .iload 5, 2, [], []), (613, .iconst 1, 1, [], []), (614, .iadd, 1, [], []), (615, .iaload, 1, [6], []), (616, .aload_n 0, 1, [], []), (617, .iload 5, 2, [], []), (619, .iconst 2, 1, [], []), (620, .iadd, 1, [], []), (621, .iaload, 1, [6], []), (622, .invokevirtual 168, 3, [0, 2, 1, 9, 0, 1742], [m_X12_mayTalk])],
  [(625, .istore 7, 2, [], []), (627, .aload_n 2, 1, [], []), (628, .invokevirtual 140, 3, [0, 0, 1, 9, 0, 1542], [m_X12_thrown]), (631, .iload 6, 2, [], []), (633, .if_icmp .eq 5, 3, [638], []), (636, .iconst 0, 1, [], []), (637, .ireturn, 1, [6], []), (638, .iload 6, 2, [], [])],
  [(640, .ifCond .ne 22, 3, [662], []), (643, .aload_n 3, 1, [], []), (644, .iconst 0, 1, [], []), (645, .laload, 1, [], []), (646, .iload 7, 2, [], []), (648, .ifCond .eq 7, 3, [655], []), (651, .lconst 1, 1, [], []), (652, .goto 4, 3, [656], []), (655, .lconst 0, 1, [], [])],
  [(656, .lcmp, 1, [], []), (657, .ifCond .eq 5, 3, [662], []), (660, .iconst 0, 1, [], []), (661, .ireturn, 1, [6], []), (662, .goto 1996, 3, [2658], [])]]
theorem kl_590 : CdOk m_L_law cl_590 := ⟨by decide +kernel, allM_of ⟨o_L_mayTalk, ⟨o_X12_mayTalk, ⟨o_X12_thrown, trivial⟩⟩⟩⟩
def cl_665 : Cd := [
  [(665, .aload_n 1, 1, [], []), (666, .aload_n 0, 1, [], []), (667, .iload 5, 2, [], []), (669, .iconst 1, 1, [], []), (670, .iadd, 1, [], []), (671, .iaload, 1, [6], [])],
  [(672, .aload_n 3, 1, [], []), (673, .invokestatic 169, 3, [3, 3, 1, 0, 1, 1137], [m_L_readers]), (676, .istore 6, 2, [], []), (678, .aload_n 2, 1, [], []), (679, .aload_n 0, 1, [], []), (680, .iload 5, 2, [], []), (682, .iconst 1, 1, [], []), (683, .iadd, 1, [], []), (684, .iaload, 1, [6], []), (685, .invokevirtual 171, 3, [0, 1, 1, 9, 0, 1750], [m_X12_readers])],
  [(688, .istore 7, 2, [], []), (690, .aload_n 2, 1, [], []), (691, .invokevirtual 140, 3, [0, 0, 1, 9, 0, 1542], [m_X12_thrown]), (694, .iload 6, 2, [], []), (696, .if_icmp .eq 5, 3, [701], []), (699, .iconst 0, 1, [], []), (700, .ireturn, 1, [6], []), (701, .iload 6, 2, [], []), (703, .ifCond .ne 15, 3, [718], [])],
  [(706, .aload_n 3, 1, [], []), (707, .iconst 0, 1, [], []), (708, .laload, 1, [], []), (709, .iload 7, 2, [], []), (711, .i2l, 1, [], []), (712, .lcmp, 1, [], []), (713, .ifCond .eq 5, 3, [718], []), (716, .iconst 0, 1, [], []), (717, .ireturn, 1, [6], []), (718, .goto 1940, 3, [2658], [])]]
theorem kl_665 : CdOk m_L_law cl_665 := ⟨by decide +kernel, allM_of ⟨o_L_readers, ⟨o_X12_readers, ⟨o_X12_thrown, trivial⟩⟩⟩⟩
def cl_721 : Cd := [
  [(721, .aload_n 1, 1, [], []), (722, .aload_n 0, 1, [], []), (723, .iload 5, 2, [], []), (725, .iconst 1, 1, [], []), (726, .iadd, 1, [], []), (727, .iaload, 1, [6], []), (728, .aload_n 3, 1, [], []), (729, .invokestatic 172, 3, [3, 3, 1, 0, 1, 1148], [m_L_talkers]), (732, .istore 6, 2, [], []), (734, .aload_n 2, 1, [], []), (735, .aload_n 0, 1, [], [])],
  [(736, .iload 5, 2, [], []), (738, .iconst 1, 1, [], []), (739, .iadd, 1, [], []), (740, .iaload, 1, [6], []), (741, .invokevirtual 174, 3, [0, 1, 1, 9, 0, 1755], [m_X12_talkers]), (744, .istore 7, 2, [], []), (746, .aload_n 2, 1, [], []), (747, .invokevirtual 140, 3, [0, 0, 1, 9, 0, 1542], [m_X12_thrown]), (750, .iload 6, 2, [], [])],
  [(752, .if_icmp .eq 5, 3, [757], []), (755, .iconst 0, 1, [], []), (756, .ireturn, 1, [6], []), (757, .iload 6, 2, [], []), (759, .ifCond .ne 15, 3, [774], []), (762, .aload_n 3, 1, [], []), (763, .iconst 0, 1, [], []), (764, .laload, 1, [], []), (765, .iload 7, 2, [], []), (767, .i2l, 1, [], [])],
  [(768, .lcmp, 1, [], []), (769, .ifCond .eq 5, 3, [774], []), (772, .iconst 0, 1, [], []), (773, .ireturn, 1, [6], []), (774, .goto 1884, 3, [2658], [])]]
theorem kl_721 : CdOk m_L_law cl_721 := ⟨by decide +kernel, allM_of ⟨o_L_talkers, ⟨o_X12_talkers, ⟨o_X12_thrown, trivial⟩⟩⟩⟩
def cl_777 : Cd := [
  [(777, .aload_n 1, 1, [], []), (778, .aload_n 0, 1, [], []), (779, .iload 5, 2, [], []), (781, .iconst 1, 1, [], []), (782, .iadd, 1, [], []), (783, .iaload, 1, [6], [])],
  [(784, .aload_n 0, 1, [], []), (785, .iload 5, 2, [], []), (787, .iconst 2, 1, [], []), (788, .iadd, 1, [], []), (789, .iaload, 1, [6], []), (790, .aload_n 3, 1, [], []), (791, .invokestatic 175, 3, [3, 4, 1, 0, 2, 1155], [m_L_wayOf]), (794, .istore 6, 2, [], []), (796, .aload_n 2, 1, [], []), (797, .aload_n 0, 1, [], []), (798, .iload 5, 2, [], [])],
  [(800, .iconst 1, 1, [], []), (801, .iadd, 1, [], []), (802, .iaload, 1, [6], []), (803, .aload_n 0, 1, [], []), (804, .iload 5, 2, [], []), (806, .iconst 2, 1, [], []), (807, .iadd, 1, [], []), (808, .iaload, 1, [6], []), (809, .invokevirtual 177, 3, [0, 2, 1, 9, 0, 1759], [m_X12_wayOf]), (812, .istore 7, 2, [], []), (814, .aload_n 2, 1, [], []), (815, .invokevirtual 140, 3, [0, 0, 1, 9, 0, 1542], [m_X12_thrown])],
  [(818, .iload 6, 2, [], []), (820, .if_icmp .eq 5, 3, [825], []), (823, .iconst 0, 1, [], []), (824, .ireturn, 1, [6], []), (825, .iload 6, 2, [], []), (827, .ifCond .ne 15, 3, [842], []), (830, .aload_n 3, 1, [], []), (831, .iconst 0, 1, [], [])],
  [(832, .laload, 1, [], []), (833, .iload 7, 2, [], []), (835, .i2l, 1, [], []), (836, .lcmp, 1, [], []), (837, .ifCond .eq 5, 3, [842], []), (840, .iconst 0, 1, [], []), (841, .ireturn, 1, [6], []), (842, .goto 1816, 3, [2658], [])]]
theorem kl_777 : CdOk m_L_law cl_777 := ⟨by decide +kernel, allM_of ⟨o_L_wayOf, ⟨o_X12_wayOf, ⟨o_X12_thrown, trivial⟩⟩⟩⟩
def cl_845 : Cd := [
  [(845, .aload_n 1, 1, [], []), (846, .aload_n 0, 1, [], []), (847, .iload 5, 2, [], [])],
  [(849, .iconst 1, 1, [], []), (850, .iadd, 1, [], []), (851, .iaload, 1, [6], []), (852, .aload_n 0, 1, [], []), (853, .iload 5, 2, [], []), (855, .iconst 2, 1, [], []), (856, .iadd, 1, [], []), (857, .iaload, 1, [6], []), (858, .aload_n 3, 1, [], []), (859, .invokestatic 178, 3, [3, 4, 1, 0, 2, 1170], [m_L_nextOnWay]), (862, .istore 6, 2, [], [])],
  [(864, .aload_n 2, 1, [], []), (865, .aload_n 0, 1, [], []), (866, .iload 5, 2, [], []), (868, .iconst 1, 1, [], []), (869, .iadd, 1, [], []), (870, .iaload, 1, [6], []), (871, .aload_n 0, 1, [], []), (872, .iload 5, 2, [], []), (874, .iconst 2, 1, [], []), (875, .iadd, 1, [], []), (876, .iaload, 1, [6], []), (877, .invokevirtual 180, 3, [0, 2, 1, 9, 0, 1771], [m_X12_nextOnWay])],
  [(880, .istore 7, 2, [], []), (882, .aload_n 2, 1, [], []), (883, .invokevirtual 140, 3, [0, 0, 1, 9, 0, 1542], [m_X12_thrown]), (886, .iload 6, 2, [], []), (888, .if_icmp .eq 5, 3, [893], []), (891, .iconst 0, 1, [], []), (892, .ireturn, 1, [6], []), (893, .iload 6, 2, [], []), (895, .ifCond .ne 15, 3, [910], [])],
  [(898, .aload_n 3, 1, [], []), (899, .iconst 0, 1, [], []), (900, .laload, 1, [], []), (901, .iload 7, 2, [], []), (903, .i2l, 1, [], []), (904, .lcmp, 1, [], []), (905, .ifCond .eq 5, 3, [910], []), (908, .iconst 0, 1, [], []), (909, .ireturn, 1, [6], []), (910, .goto 1748, 3, [2658], [])]]
theorem kl_845 : CdOk m_L_law cl_845 := ⟨by decide +kernel, allM_of ⟨o_L_nextOnWay, ⟨o_X12_nextOnWay, ⟨o_X12_thrown, trivial⟩⟩⟩⟩
def cl_913 : Cd := [
  [(913, .aload_n 1, 1, [], []), (914, .aload_n 0, 1, [], []), (915, .iload 5, 2, [], []), (917, .iconst 1, 1, [], []), (918, .iadd, 1, [], []), (919, .iaload, 1, [6], []), (920, .aload_n 0, 1, [], []), (921, .iload 5, 2, [], []), (923, .iconst 2, 1, [], []), (924, .iadd, 1, [], []), (925, .iaload, 1, [6], []), (926, .aload_n 3, 1, [], []), (927, .invokestatic 181, 3, [3, 4, 1, 0, 2, 1182], [m_L_member])],
  [(930, .istore 6, 2, [], []), (932, .aload_n 2, 1, [], []), (933, .aload_n 0, 1, [], []), (934, .iload 5, 2, [], []), (936, .iconst 1, 1, [], []), (937, .iadd, 1, [], []), (938, .iaload, 1, [6], []), (939, .aload_n 0, 1, [], []), (940, .iload 5, 2, [], []), (942, .iconst 2, 1, [], []), (943, .iadd, 1, [], [])],
  [(944, .iaload, 1, [6], []), (945, .invokevirtual 183, 3, [0, 2, 1, 9, 0, 1775], [m_X12_member]), (948, .istore 7, 2, [], []), (950, .aload_n 2, 1, [], []), (951, .invokevirtual 140, 3, [0, 0, 1, 9, 0, 1542], [m_X12_thrown]), (954, .iload 6, 2, [], []), (956, .if_icmp .eq 5, 3, [961], []), (959, .iconst 0, 1, [], [])],
  [(960, .ireturn, 1, [6], []), (961, .iload 6, 2, [], []), (963, .ifCond .ne 15, 3, [978], []), (966, .aload_n 3, 1, [], []), (967, .iconst 0, 1, [], []), (968, .laload, 1, [], []), (969, .iload 7, 2, [], []), (971, .i2l, 1, [], []), (972, .lcmp, 1, [], []), (973, .ifCond .eq 5, 3, [978], [])],
  [(976, .iconst 0, 1, [], []), (977, .ireturn, 1, [6], []), (978, .goto 1680, 3, [2658], [])]]
theorem kl_913 : CdOk m_L_law cl_913 := ⟨by decide +kernel, allM_of ⟨o_L_member, ⟨o_X12_member, ⟨o_X12_thrown, trivial⟩⟩⟩⟩
def cl_981 : Cd := [
  [(981, .aload_n 1, 1, [], []), (982, .aload_n 0, 1, [], []), (983, .iload 5, 2, [], []), (985, .iconst 1, 1, [], []), (986, .iadd, 1, [], []), (987, .iaload, 1, [6], []), (988, .aload_n 3, 1, [], []), (989, .invokestatic 184, 3, [3, 3, 1, 0, 1, 1201], [m_L_partners])],
  [(992, .istore 6, 2, [], []), (994, .aload_n 2, 1, [], []), (995, .aload_n 0, 1, [], []), (996, .iload 5, 2, [], []), (998, .iconst 1, 1, [], []), (999, .iadd, 1, [], []), (1000, .iaload, 1, [6], []), (1001, .invokevirtual 186, 3, [0, 1, 1, 9, 0, 1788], [m_X12_partners]), (1004, .istore 7, 2, [], []), (1006, .aload_n 2, 1, [], []), (1007, .invokevirtual 140, 3, [0, 0, 1, 9, 0, 1542], [m_X12_thrown])],
  [(1010, .iload 6, 2, [], []), (1012, .if_icmp .eq 5, 3, [1017], []), (1015, .iconst 0, 1, [], []), (1016, .ireturn, 1, [6], []), (1017, .iload 6, 2, [], []), (1019, .ifCond .ne 15, 3, [1034], []), (1022, .aload_n 3, 1, [], []), (1023, .iconst 0, 1, [], [])],
  [(1024, .laload, 1, [], []), (1025, .iload 7, 2, [], []), (1027, .i2l, 1, [], []), (1028, .lcmp, 1, [], []), (1029, .ifCond .eq 5, 3, [1034], []), (1032, .iconst 0, 1, [], []), (1033, .ireturn, 1, [6], []), (1034, .goto 1624, 3, [2658], [])]]
theorem kl_981 : CdOk m_L_law cl_981 := ⟨by decide +kernel, allM_of ⟨o_L_partners, ⟨o_X12_partners, ⟨o_X12_thrown, trivial⟩⟩⟩⟩
def cl_1037 : Cd := [
  [(1037, .aload_n 1, 1, [], []), (1038, .aload_n 0, 1, [], []), (1039, .iload 5, 2, [], [])],
  [(1041, .iconst 1, 1, [], []), (1042, .iadd, 1, [], []), (1043, .iaload, 1, [6], []), (1044, .aload_n 3, 1, [], []), (1045, .invokestatic 187, 3, [3, 3, 1, 0, 1, 1208], [m_L_with]), (1048, .istore 6, 2, [], []), (1050, .aload_n 2, 1, [], []), (1051, .aload_n 0, 1, [], []), (1052, .iload 5, 2, [], []), (1054, .iconst 1, 1, [], []), (1055, .iadd, 1, [], [])],
  [(1056, .iaload, 1, [6], []), (1057, .invokevirtual 189, 3, [0, 1, 1, 9, 0, 1796], [m_X12_with]), (1060, .istore 7, 2, [], []), (1062, .aload_n 2, 1, [], []), (1063, .invokevirtual 140, 3, [0, 0, 1, 9, 0, 1542], [m_X12_thrown]), (1066, .iload 6, 2, [], []), (1068, .if_icmp .eq 5, 3, [1073], []), (1071, .iconst 0, 1, [], [])],
  [(1072, .ireturn, 1, [6], []), (1073, .iload 6, 2, [], []), (1075, .ifCond .ne 15, 3, [1090], []), (1078, .aload_n 3, 1, [], []), (1079, .iconst 0, 1, [], []), (1080, .laload, 1, [], []), (1081, .iload 7, 2, [], []), (1083, .i2l, 1, [], []), (1084, .lcmp, 1, [], []), (1085, .ifCond .eq 5, 3, [1090], [])],
  [(1088, .iconst 0, 1, [], []), (1089, .ireturn, 1, [6], []), (1090, .goto 1568, 3, [2658], [])]]
theorem kl_1037 : CdOk m_L_law cl_1037 := ⟨by decide +kernel, allM_of ⟨o_L_with, ⟨o_X12_with, ⟨o_X12_thrown, trivial⟩⟩⟩⟩
def cl_1093 : Cd := [
  [(1093, .aload_n 1, 1, [], []), (1094, .aload_n 0, 1, [], []), (1095, .iload 5, 2, [], []), (1097, .iconst 1, 1, [], []), (1098, .iadd, 1, [], []), (1099, .iaload, 1, [6], []), (1100, .aload_n 3, 1, [], []), (1101, .invokestatic 190, 3, [3, 3, 1, 0, 1, 1216], [m_L_down])],
  [(1104, .istore 6, 2, [], []), (1106, .aload_n 2, 1, [], []), (1107, .aload_n 0, 1, [], []), (1108, .iload 5, 2, [], []), (1110, .iconst 1, 1, [], []), (1111, .iadd, 1, [], []), (1112, .iaload, 1, [6], []), (1113, .invokevirtual 192, 3, [0, 1, 1, 9, 0, 1808], [m_X12_down]), (1116, .istore 7, 2, [], []), (1118, .aload_n 2, 1, [], []), (1119, .invokevirtual 140, 3, [0, 0, 1, 9, 0, 1542], [m_X12_thrown])],
  [(1122, .iload 6, 2, [], []), (1124, .if_icmp .eq 5, 3, [1129], []), (1127, .iconst 0, 1, [], []), (1128, .ireturn, 1, [6], []), (1129, .iload 6, 2, [], []), (1131, .ifCond .ne 15, 3, [1146], []), (1134, .aload_n 3, 1, [], []), (1135, .iconst 0, 1, [], [])],
  [(1136, .laload, 1, [], []), (1137, .iload 7, 2, [], []), (1139, .i2l, 1, [], []), (1140, .lcmp, 1, [], []), (1141, .ifCond .eq 5, 3, [1146], []), (1144, .iconst 0, 1, [], []), (1145, .ireturn, 1, [6], []), (1146, .goto 1512, 3, [2658], [])]]
theorem kl_1093 : CdOk m_L_law cl_1093 := ⟨by decide +kernel, allM_of ⟨o_L_down, ⟨o_X12_down, ⟨o_X12_thrown, trivial⟩⟩⟩⟩
def cl_1149 : Cd := [
  [(1149, .aload_n 1, 1, [], []), (1150, .invokevirtual 193, 3, [0, 0, 1, 8, 0, 408], [m_X11_skewNow])],
  [(1153, .aload_n 2, 1, [], []), (1154, .invokevirtual 196, 3, [0, 0, 1, 9, 0, 1820], [m_X12_skewNow]), (1157, .if_icmp .eq 1501, 3, [2658], []), (1160, .iconst 0, 1, [], []), (1161, .ireturn, 1, [6], [])]]
theorem kl_1149 : CdOk m_L_law cl_1149 := ⟨by decide +kernel, allM_of ⟨o_X11_skewNow, ⟨o_X12_skewNow, trivial⟩⟩⟩
def cl_1162 : Cd := [
  [(1162, .aload_n 1, 1, [], []), (1163, .aload_n 0, 1, [], []), (1164, .iload 5, 2, [], []), (1166, .iconst 1, 1, [], []), (1167, .iadd, 1, [], [])],
  [(1168, .iaload, 1, [6], []), (1169, .aload_n 0, 1, [], []), (1170, .iload 5, 2, [], []), (1172, .iconst 2, 1, [], []), (1173, .iadd, 1, [], []), (1174, .iaload, 1, [6], []), (1175, .aload_n 3, 1, [], []), (1176, .invokestatic 197, 3, [3, 4, 1, 0, 2, 1223], [m_L_reason]), (1179, .istore 6, 2, [], []), (1181, .aload_n 2, 1, [], []), (1182, .aload_n 0, 1, [], []), (1183, .iload 5, 2, [], [])],
  [(1185, .iconst 1, 1, [], []), (1186, .iadd, 1, [], []), (1187, .iaload, 1, [6], []), (1188, .aload_n 0, 1, [], []), (1189, .iload 5, 2, [], []), (1191, .iconst 2, 1, [], []), (1192, .iadd, 1, [], []), (1193, .iaload, 1, [6], []), (1194, .invokevirtual 199, 3, [0, 2, 1, 9, 0, 1832], [m_X12_reason]), (1197, .istore 7, 2, [], []), (1199, .aload_n 2, 1, [], [])],
  [(1200, .invokevirtual 140, 3, [0, 0, 1, 9, 0, 1542], [m_X12_thrown]), (1203, .iload 6, 2, [], []), (1205, .if_icmp .eq 5, 3, [1210], []), (1208, .iconst 0, 1, [], []), (1209, .ireturn, 1, [6], []), (1210, .iload 6, 2, [], []), (1212, .ifCond .ne 15, 3, [1227], []), (1215, .aload_n 3, 1, [], [])],
  [(1216, .iconst 0, 1, [], []), (1217, .laload, 1, [], []), (1218, .iload 7, 2, [], []), (1220, .i2l, 1, [], []), (1221, .lcmp, 1, [], []), (1222, .ifCond .eq 5, 3, [1227], []), (1225, .iconst 0, 1, [], []), (1226, .ireturn, 1, [6], []), (1227, .goto 1431, 3, [2658], [])]]
theorem kl_1162 : CdOk m_L_law cl_1162 := ⟨by decide +kernel, allM_of ⟨o_L_reason, ⟨o_X12_reason, ⟨o_X12_thrown, trivial⟩⟩⟩⟩
def cl_1230 : Cd := [
  [(1230, .aload_n 1, 1, [], []), (1231, .aload_n 0, 1, [], [])],
  [(1232, .iload 5, 2, [], []), (1234, .iconst 1, 1, [], []), (1235, .iadd, 1, [], []), (1236, .iaload, 1, [6], []), (1237, .aload_n 3, 1, [], []), (1238, .invokestatic 200, 3, [3, 3, 1, 0, 1, 1230], [m_L_open]), (1241, .istore 6, 2, [], []), (1243, .aload_n 2, 1, [], []), (1244, .aload_n 0, 1, [], []), (1245, .iload 5, 2, [], []), (1247, .iconst 1, 1, [], [])],
  [(1248, .iadd, 1, [], []), (1249, .iaload, 1, [6], []), (1250, .invokevirtual 202, 3, [0, 1, 1, 9, 0, 1855], [m_X12_open]), (1253, .istore 7, 2, [], []), (1255, .aload_n 2, 1, [], []), (1256, .invokevirtual 140, 3, [0, 0, 1, 9, 0, 1542], [m_X12_thrown]), (1259, .iload 6, 2, [], []), (1261, .if_icmp .eq 5, 3, [1266], [])],
  [(1264, .iconst 0, 1, [], []), (1265, .ireturn, 1, [6], []), (1266, .iload 6, 2, [], []), (1268, .ifCond .ne 15, 3, [1283], []), (1271, .aload_n 3, 1, [], []), (1272, .iconst 0, 1, [], []), (1273, .laload, 1, [], []), (1274, .iload 7, 2, [], []), (1276, .i2l, 1, [], []), (1277, .lcmp, 1, [], []), (1278, .ifCond .eq 5, 3, [1283], [])],
  [(1281, .iconst 0, 1, [], []), (1282, .ireturn, 1, [6], []), (1283, .goto 1375, 3, [2658], [])]]
theorem kl_1230 : CdOk m_L_law cl_1230 := ⟨by decide +kernel, allM_of ⟨o_L_open, ⟨o_X12_open, ⟨o_X12_thrown, trivial⟩⟩⟩⟩
def cl_1286 : Cd := [
  [(1286, .aload_n 1, 1, [], []), (1287, .aload_n 0, 1, [], []), (1288, .iload 5, 2, [], []), (1290, .iconst 1, 1, [], []), (1291, .iadd, 1, [], []), (1292, .iaload, 1, [6], []), (1293, .aload_n 0, 1, [], []), (1294, .iload 5, 2, [], [])],
  [(1296, .iconst 2, 1, [], []), (1297, .iadd, 1, [], []), (1298, .iaload, 1, [6], []), (1299, .aload_n 3, 1, [], []), (1300, .invokestatic 203, 3, [3, 4, 1, 0, 2, 1237], [m_L_against]), (1303, .istore 6, 2, [], []), (1305, .aload_n 2, 1, [], []), (1306, .aload_n 0, 1, [], []), (1307, .iload 5, 2, [], []), (1309, .iconst 1, 1, [], []), (1310, .iadd, 1, [], []), (1311, .iaload, 1, [6], [])],
  [(1312, .aload_n 0, 1, [], []), (1313, .iload 5, 2, [], []), (1315, .iconst 2, 1, [], []), (1316, .iadd, 1, [], []), (1317, .iaload, 1, [6], []), (1318, .invokevirtual 205, 3, [0, 2, 1, 9, 0, 1859], [m_X12_against]), (1321, .istore 7, 2, [], []), (1323, .aload_n 2, 1, [], []), (1324, .invokevirtual 140, 3, [0, 0, 1, 9, 0, 1542], [m_X12_thrown]), (1327, .iload 6, 2, [], [])],
  [(1329, .if_icmp .eq 5, 3, [1334], []), (1332, .iconst 0, 1, [], []), (1333, .ireturn, 1, [6], []), (1334, .iload 6, 2, [], []), (1336, .ifCond .ne 15, 3, [1351], []), (1339, .aload_n 3, 1, [], []), (1340, .iconst 0, 1, [], []), (1341, .laload, 1, [], []), (1342, .iload 7, 2, [], [])],
  [(1344, .i2l, 1, [], []), (1345, .lcmp, 1, [], []), (1346, .ifCond .eq 5, 3, [1351], []), (1349, .iconst 0, 1, [], []), (1350, .ireturn, 1, [6], []), (1351, .goto 1307, 3, [2658], [])]]
theorem kl_1286 : CdOk m_L_law cl_1286 := ⟨by decide +kernel, allM_of ⟨o_L_against, ⟨o_X12_against, ⟨o_X12_thrown, trivial⟩⟩⟩⟩
def cl_1354 : Cd := [
  [(1354, .aload_n 1, 1, [], []), (1355, .invokevirtual 206, 3, [0, 0, 1, 8, 0, 433], [m_X11_mixed]), (1358, .aload_n 2, 1, [], []), (1359, .invokevirtual 209, 3, [0, 0, 1, 9, 0, 1863], [m_X12_mixed])],
  [(1362, .if_icmp .eq 1296, 3, [2658], []), (1365, .iconst 0, 1, [], []), (1366, .ireturn, 1, [6], [])]]
theorem kl_1354 : CdOk m_L_law cl_1354 := ⟨by decide +kernel, allM_of ⟨o_X11_mixed, ⟨o_X12_mixed, trivial⟩⟩⟩
def cl_1367 : Cd := [
  [(1367, .aload_n 1, 1, [], []), (1368, .aload_n 0, 1, [], []), (1369, .iload 5, 2, [], []), (1371, .iconst 1, 1, [], []), (1372, .iadd, 1, [], []), (1373, .iaload, 1, [6], []), (1374, .aload_n 3, 1, [], []), (1375, .invokestatic 210, 3, [3, 3, 1, 0, 1, 1245], [m_L_plan])],
  [(1378, .istore 6, 2, [], []), (1380, .aload_n 2, 1, [], []), (1381, .aload_n 0, 1, [], []), (1382, .iload 5, 2, [], []), (1384, .iconst 1, 1, [], []), (1385, .iadd, 1, [], []), (1386, .iaload, 1, [6], []), (1387, .invokevirtual 212, 3, [0, 1, 1, 9, 0, 1880], [m_X12_plan]), (1390, .istore 7, 2, [], [])],
  [(1392, .aload_n 2, 1, [], []), (1393, .invokevirtual 140, 3, [0, 0, 1, 9, 0, 1542], [m_X12_thrown]), (1396, .iload 6, 2, [], []), (1398, .if_icmp .eq 5, 3, [1403], []), (1401, .iconst 0, 1, [], []), (1402, .ireturn, 1, [6], []), (1403, .iload 6, 2, [], []), (1405, .ifCond .ne 15, 3, [1420], [])],
  [(1408, .aload_n 3, 1, [], []), (1409, .iconst 0, 1, [], []), (1410, .laload, 1, [], []), (1411, .iload 7, 2, [], []), (1413, .i2l, 1, [], []), (1414, .lcmp, 1, [], []), (1415, .ifCond .eq 5, 3, [1420], []), (1418, .iconst 0, 1, [], []), (1419, .ireturn, 1, [6], []), (1420, .goto 1238, 3, [2658], [])]]
theorem kl_1367 : CdOk m_L_law cl_1367 := ⟨by decide +kernel, allM_of ⟨o_L_plan, ⟨o_X12_plan, ⟨o_X12_thrown, trivial⟩⟩⟩⟩
def cl_1423 : Cd := [
  [(1423, .aload_n 1, 1, [], [])],
  [(1424, .invokevirtual 213, 3, [0, 0, 1, 8, 0, 455], [m_X11_lagging]), (1427, .aload_n 2, 1, [], []), (1428, .invokevirtual 216, 3, [0, 0, 1, 9, 0, 1889], [m_X12_lagging]), (1431, .if_icmp .eq 1227, 3, [2658], []), (1434, .iconst 0, 1, [], []), (1435, .ireturn, 1, [6], [])]]
theorem kl_1423 : CdOk m_L_law cl_1423 := ⟨by decide +kernel, allM_of ⟨o_X11_lagging, ⟨o_X12_lagging, trivial⟩⟩⟩
def cl_1436 : Cd := [
  [(1436, .aload_n 1, 1, [], []), (1437, .invokevirtual 217, 3, [0, 0, 1, 8, 0, 471], [m_X11_blocked])],
  [(1440, .aload_n 2, 1, [], []), (1441, .invokevirtual 220, 3, [0, 0, 1, 9, 0, 1905], [m_X12_blocked]), (1444, .if_icmp .eq 1214, 3, [2658], []), (1447, .iconst 0, 1, [], []), (1448, .ireturn, 1, [6], [])]]
theorem kl_1436 : CdOk m_L_law cl_1436 := ⟨by decide +kernel, allM_of ⟨o_X11_blocked, ⟨o_X12_blocked, trivial⟩⟩⟩
def cl_1449 : Cd := [
  [(1449, .aload_n 1, 1, [], []), (1450, .aload_n 0, 1, [], []), (1451, .iload 5, 2, [], []), (1453, .iconst 1, 1, [], []), (1454, .iadd, 1, [], []), (1455, .iaload, 1, [6], [])],
  [(1456, .aload_n 3, 1, [], []), (1457, .invokestatic 221, 3, [3, 3, 1, 0, 1, 1256], [m_L_inWave]), (1460, .istore 6, 2, [], []), (1462, .aload_n 2, 1, [], []), (1463, .aload_n 0, 1, [], []), (1464, .iload 5, 2, [], []), (1466, .iconst 1, 1, [], []), (1467, .iadd, 1, [], []), (1468, .iaload, 1, [6], []), (1469, .invokevirtual 223, 3, [0, 1, 1, 9, 0, 1909], [m_X12_inWave])],
  [(1472, .istore 7, 2, [], []), (1474, .aload_n 2, 1, [], []), (1475, .invokevirtual 140, 3, [0, 0, 1, 9, 0, 1542], [m_X12_thrown]), (1478, .iload 6, 2, [], []), (1480, .if_icmp .eq 5, 3, [1485], []), (1483, .iconst 0, 1, [], []), (1484, .ireturn, 1, [6], []), (1485, .iload 6, 2, [], []), (1487, .ifCond .ne 15, 3, [1502], [])],
  [(1490, .aload_n 3, 1, [], []), (1491, .iconst 0, 1, [], []), (1492, .laload, 1, [], []), (1493, .iload 7, 2, [], []), (1495, .i2l, 1, [], []), (1496, .lcmp, 1, [], []), (1497, .ifCond .eq 5, 3, [1502], []), (1500, .iconst 0, 1, [], []), (1501, .ireturn, 1, [6], []), (1502, .goto 1156, 3, [2658], [])]]
theorem kl_1449 : CdOk m_L_law cl_1449 := ⟨by decide +kernel, allM_of ⟨o_L_inWave, ⟨o_X12_inWave, ⟨o_X12_thrown, trivial⟩⟩⟩⟩
def cl_1505 : Cd := [
  [(1505, .aload_n 1, 1, [], []), (1506, .aload_n 0, 1, [], []), (1507, .iload 5, 2, [], []), (1509, .iconst 1, 1, [], []), (1510, .iadd, 1, [], []), (1511, .iaload, 1, [6], []), (1512, .aload 4, 2, [], []), (1514, .invokestatic 224, 3, [3, 3, 1, 0, 1, 1263], [m_L_share]), (1517, .istore 6, 2, [], []), (1519, .aload_n 2, 1, [], [])],
  [(1520, .aload_n 0, 1, [], []), (1521, .iload 5, 2, [], []), (1523, .iconst 1, 1, [], []), (1524, .iadd, 1, [], []), (1525, .iaload, 1, [6], []), (1526, .invokevirtual 227, 3, [0, 1, 3, 9, 0, 1913], [m_X12_share]), (1529, .fstore 7, 2, [], []), (1531, .aload_n 2, 1, [], []), (1532, .invokevirtual 140, 3, [0, 0, 1, 9, 0, 1542], [m_X12_thrown]), (1535, .iload 6, 2, [], [])],
  [(1537, .if_icmp .eq 5, 3, [1542], []), (1540, .iconst 0, 1, [], []), (1541, .ireturn, 1, [6], []), (1542, .iload 6, 2, [], []), (1544, .ifCond .ne 36, 3, [1580], []), (1547, .aload 4, 2, [], []), (1549, .iconst 0, 1, [], []), (1550, .daload, 1, [], []), (1551, .fload 7, 2, [], [])],
  [(1553, .f2d, 1, [], []), (1554, .dcmp .l, 1, [], []), (1555, .ifCond .eq 25, 3, [1580], []), (1558, .aload 4, 2, [], []), (1560, .iconst 0, 1, [], []), (1561, .daload, 1, [], []), (1562, .aload 4, 2, [], []), (1564, .iconst 0, 1, [], []), (1565, .daload, 1, [], []), (1566, .dcmp .l, 1, [], []), (1567, .ifCond .eq 11, 3, [1578], [])],
  [(1570, .fload 7, 2, [], []), (1572, .fload 7, 2, [], []), (1574, .fcmp .l, 1, [], []), (1575, .ifCond .ne 5, 3, [1580], []), (1578, .iconst 0, 1, [], []), (1579, .ireturn, 1, [6], []), (1580, .goto 1078, 3, [2658], [])]]
theorem kl_1505 : CdOk m_L_law cl_1505 := ⟨by decide +kernel, allM_of ⟨o_L_share, ⟨o_X12_share, ⟨o_X12_thrown, trivial⟩⟩⟩⟩
def cl_1583 : Cd := [
  [(1583, .aload_n 1, 1, [], [])],
  [(1584, .invokevirtual 228, 3, [0, 0, 4, 8, 0, 499], [m_X11_meanMeasure]), (1587, .dstore 6, 2, [], []), (1589, .aload_n 2, 1, [], []), (1590, .invokevirtual 232, 3, [0, 0, 4, 9, 0, 1921], [m_X12_meanMeasure]), (1593, .dstore 8, 2, [], []), (1595, .dload 6, 2, [], []), (1597, .dload 8, 2, [], []), (1599, .dcmp .l, 1, [], [])],
  [(1600, .ifCond .eq 21, 3, [1621], []), (1603, .dload 6, 2, [], []), (1605, .dload 6, 2, [], []), (1607, .dcmp .l, 1, [], []), (1608, .ifCond .eq 11, 3, [1619], []), (1611, .dload 8, 2, [], []), (1613, .dload 8, 2, [], []), (1615, .dcmp .l, 1, [], [])],
  [(1616, .ifCond .ne 5, 3, [1621], []), (1619, .iconst 0, 1, [], []), (1620, .ireturn, 1, [6], []), (1621, .goto 1037, 3, [2658], [])]]
theorem kl_1583 : CdOk m_L_law cl_1583 := ⟨by decide +kernel, allM_of ⟨o_X11_meanMeasure, ⟨o_X12_meanMeasure, trivial⟩⟩⟩
def cl_1624 : Cd := [
  [(1624, .aload_n 1, 1, [], []), (1625, .aload_n 0, 1, [], []), (1626, .iload 5, 2, [], []), (1628, .iconst 1, 1, [], []), (1629, .iadd, 1, [], []), (1630, .iaload, 1, [6], []), (1631, .aload_n 3, 1, [], [])],
  [(1632, .invokestatic 233, 3, [3, 3, 1, 0, 1, 1271], [m_L_whyNotCommit]), (1635, .istore 6, 2, [], []), (1637, .aload_n 2, 1, [], []), (1638, .aload_n 0, 1, [], []), (1639, .iload 5, 2, [], []), (1641, .iconst 1, 1, [], []), (1642, .iadd, 1, [], []), (1643, .iaload, 1, [6], []), (1644, .invokevirtual 235, 3, [0, 1, 1, 9, 0, 1929], [m_X12_whyNotCommit]), (1647, .istore 7, 2, [], [])],
  [(1649, .aload_n 2, 1, [], []), (1650, .invokevirtual 140, 3, [0, 0, 1, 9, 0, 1542], [m_X12_thrown]), (1653, .iload 6, 2, [], []), (1655, .if_icmp .eq 5, 3, [1660], []), (1658, .iconst 0, 1, [], []), (1659, .ireturn, 1, [6], []), (1660, .iload 6, 2, [], []), (1662, .ifCond .ne 15, 3, [1677], [])],
  [(1665, .aload_n 3, 1, [], []), (1666, .iconst 0, 1, [], []), (1667, .laload, 1, [], []), (1668, .iload 7, 2, [], []), (1670, .i2l, 1, [], []), (1671, .lcmp, 1, [], []), (1672, .ifCond .eq 5, 3, [1677], []), (1675, .iconst 0, 1, [], []), (1676, .ireturn, 1, [6], []), (1677, .goto 981, 3, [2658], [])]]
theorem kl_1624 : CdOk m_L_law cl_1624 := ⟨by decide +kernel, allM_of ⟨o_L_whyNotCommit, ⟨o_X12_whyNotCommit, ⟨o_X12_thrown, trivial⟩⟩⟩⟩
def cl_1680 : Cd := [
  [(1680, .aload_n 1, 1, [], []), (1681, .invokevirtual 236, 3, [0, 0, 1, 8, 0, 517], [m_X11_highestFormat]), (1684, .aload_n 2, 1, [], []), (1685, .invokevirtual 239, 3, [0, 0, 1, 9, 0, 1941], [m_X12_highestFormat]), (1688, .if_icmp .eq 970, 3, [2658], []), (1691, .iconst 0, 1, [], []), (1692, .ireturn, 1, [6], [])]]
theorem kl_1680 : CdOk m_L_law cl_1680 := ⟨by decide +kernel, allM_of ⟨o_X11_highestFormat, ⟨o_X12_highestFormat, trivial⟩⟩⟩
def cl_1693 : Cd := [
  [(1693, .aload_n 1, 1, [], []), (1694, .invokevirtual 240, 3, [0, 0, 1, 8, 0, 530], [m_X11_wayBack])],
  [(1697, .aload_n 2, 1, [], []), (1698, .invokevirtual 243, 3, [0, 0, 1, 9, 0, 1945], [m_X12_wayBack]), (1701, .if_icmp .eq 957, 3, [2658], []), (1704, .iconst 0, 1, [], []), (1705, .ireturn, 1, [6], [])]]
theorem kl_1693 : CdOk m_L_law cl_1693 := ⟨by decide +kernel, allM_of ⟨o_X11_wayBack, ⟨o_X12_wayBack, trivial⟩⟩⟩
def cl_1706 : Cd := [
  [(1706, .aload_n 1, 1, [], []), (1707, .aload_n 0, 1, [], []), (1708, .iload 5, 2, [], []), (1710, .iconst 1, 1, [], []), (1711, .iadd, 1, [], [])],
  [(1712, .iaload, 1, [6], []), (1713, .aload_n 3, 1, [], []), (1714, .invokestatic 244, 3, [3, 3, 1, 0, 1, 1279], [m_L_minutesToEnd]), (1717, .istore 6, 2, [], []), (1719, .aload_n 2, 1, [], []), (1720, .aload_n 0, 1, [], []), (1721, .iload 5, 2, [], []), (1723, .iconst 1, 1, [], []), (1724, .iadd, 1, [], []), (1725, .iaload, 1, [6], []), (1726, .invokevirtual 246, 3, [0, 1, 1, 9, 0, 1949], [m_X12_minutesToEnd])],
  [(1729, .istore 7, 2, [], []), (1731, .aload_n 2, 1, [], []), (1732, .invokevirtual 140, 3, [0, 0, 1, 9, 0, 1542], [m_X12_thrown]), (1735, .iload 6, 2, [], []), (1737, .if_icmp .eq 5, 3, [1742], []), (1740, .iconst 0, 1, [], []), (1741, .ireturn, 1, [6], []), (1742, .iload 6, 2, [], [])],
  [(1744, .ifCond .ne 15, 3, [1759], []), (1747, .aload_n 3, 1, [], []), (1748, .iconst 0, 1, [], []), (1749, .laload, 1, [], []), (1750, .iload 7, 2, [], []), (1752, .i2l, 1, [], []), (1753, .lcmp, 1, [], []), (1754, .ifCond .eq 5, 3, [1759], []), (1757, .iconst 0, 1, [], []), (1758, .ireturn, 1, [6], []), (1759, .goto 899, 3, [2658], [])]]
theorem kl_1706 : CdOk m_L_law cl_1706 := ⟨by decide +kernel, allM_of ⟨o_L_minutesToEnd, ⟨o_X12_minutesToEnd, ⟨o_X12_thrown, trivial⟩⟩⟩⟩
def cl_1762 : Cd := [
  [(1762, .aload_n 1, 1, [], []), (1763, .aload_n 0, 1, [], []), (1764, .iload 5, 2, [], []), (1766, .iconst 1, 1, [], []), (1767, .iadd, 1, [], []), (1768, .iaload, 1, [6], []), (1769, .aload_n 3, 1, [], []), (1770, .invokestatic 247, 3, [3, 3, 1, 0, 1, 1289], [m_L_minutesIfFree]), (1773, .istore 6, 2, [], []), (1775, .aload_n 2, 1, [], [])],
  [(1776, .aload_n 0, 1, [], []), (1777, .iload 5, 2, [], []), (1779, .iconst 1, 1, [], []), (1780, .iadd, 1, [], []), (1781, .iaload, 1, [6], []), (1782, .invokevirtual 249, 3, [0, 1, 1, 9, 0, 2010], [m_X12_minutesIfFree]), (1785, .istore 7, 2, [], []), (1787, .aload_n 2, 1, [], []), (1788, .invokevirtual 140, 3, [0, 0, 1, 9, 0, 1542], [m_X12_thrown]), (1791, .iload 6, 2, [], [])],
  [(1793, .if_icmp .eq 5, 3, [1798], []), (1796, .iconst 0, 1, [], []), (1797, .ireturn, 1, [6], []), (1798, .iload 6, 2, [], []), (1800, .ifCond .ne 15, 3, [1815], []), (1803, .aload_n 3, 1, [], []), (1804, .iconst 0, 1, [], []), (1805, .laload, 1, [], []), (1806, .iload 7, 2, [], [])],
  [(1808, .i2l, 1, [], []), (1809, .lcmp, 1, [], []), (1810, .ifCond .eq 5, 3, [1815], []), (1813, .iconst 0, 1, [], []), (1814, .ireturn, 1, [6], []), (1815, .goto 843, 3, [2658], [])]]
theorem kl_1762 : CdOk m_L_law cl_1762 := ⟨by decide +kernel, allM_of ⟨o_L_minutesIfFree, ⟨o_X12_minutesIfFree, ⟨o_X12_thrown, trivial⟩⟩⟩⟩
def cl_1818 : Cd := [
  [(1818, .aload_n 1, 1, [], []), (1819, .invokevirtual 250, 3, [0, 0, 1, 8, 0, 540], [m_X11_bestToFree]), (1822, .aload_n 2, 1, [], []), (1823, .invokevirtual 253, 3, [0, 0, 1, 9, 0, 2018], [m_X12_bestToFree])],
  [(1826, .if_icmp .eq 832, 3, [2658], []), (1829, .iconst 0, 1, [], []), (1830, .ireturn, 1, [6], [])]]
theorem kl_1818 : CdOk m_L_law cl_1818 := ⟨by decide +kernel, allM_of ⟨o_X11_bestToFree, ⟨o_X12_bestToFree, trivial⟩⟩⟩
def cl_1831 : Cd := [
  [(1831, .aload_n 1, 1, [], []), (1832, .aload_n 0, 1, [], []), (1833, .iload 5, 2, [], []), (1835, .iconst 1, 1, [], []), (1836, .iadd, 1, [], []), (1837, .iaload, 1, [6], []), (1838, .aload_n 3, 1, [], []), (1839, .invokestatic 254, 3, [3, 3, 1, 0, 1, 1296], [m_L_changesIn])],
  [(1842, .istore 6, 2, [], []), (1844, .aload_n 2, 1, [], []), (1845, .aload_n 0, 1, [], []), (1846, .iload 5, 2, [], []), (1848, .iconst 1, 1, [], []), (1849, .iadd, 1, [], []), (1850, .iaload, 1, [6], []), (1851, .invokevirtual 256, 3, [0, 1, 1, 9, 0, 2022], [m_X12_changesIn]), (1854, .istore 7, 2, [], [])],
  [(1856, .aload_n 2, 1, [], []), (1857, .invokevirtual 140, 3, [0, 0, 1, 9, 0, 1542], [m_X12_thrown]), (1860, .iload 6, 2, [], []), (1862, .if_icmp .eq 5, 3, [1867], []), (1865, .iconst 0, 1, [], []), (1866, .ireturn, 1, [6], []), (1867, .iload 6, 2, [], []), (1869, .ifCond .ne 15, 3, [1884], [])],
  [(1872, .aload_n 3, 1, [], []), (1873, .iconst 0, 1, [], []), (1874, .laload, 1, [], []), (1875, .iload 7, 2, [], []), (1877, .i2l, 1, [], []), (1878, .lcmp, 1, [], []), (1879, .ifCond .eq 5, 3, [1884], []), (1882, .iconst 0, 1, [], []), (1883, .ireturn, 1, [6], []), (1884, .goto 774, 3, [2658], [])]]
theorem kl_1831 : CdOk m_L_law cl_1831 := ⟨by decide +kernel, allM_of ⟨o_L_changesIn, ⟨o_X12_changesIn, ⟨o_X12_thrown, trivial⟩⟩⟩⟩
def cl_1887 : Cd := [
  [(1887, .aload_n 1, 1, [], [])],
  [(1888, .aload_n 0, 1, [], []), (1889, .iload 5, 2, [], []), (1891, .iconst 1, 1, [], []), (1892, .iadd, 1, [], []), (1893, .iaload, 1, [6], []), (1894, .aload_n 0, 1, [], []), (1895, .iload 5, 2, [], []), (1897, .iconst 2, 1, [], []), (1898, .iadd, 1, [], []), (1899, .iaload, 1, [6], []), (1900, .aload_n 3, 1, [], []), (1901, .invokestatic 257, 3, [3, 4, 1, 0, 2, 1307], [m_L_wouldStop])],
  [(1904, .istore 6, 2, [], []), (1906, .aload_n 2, 1, [], []), (1907, .aload_n 0, 1, [], []), (1908, .iload 5, 2, [], []), (1910, .iconst 1, 1, [], []), (1911, .iadd, 1, [], []), (1912, .iaload, 1, [6], []), (1913, .aload_n 0, 1, [], []), (1914, .iload 5, 2, [], []), (1916, .iconst 2, 1, [], []), (1917, .iadd, 1, [], []), (1918, .iaload, 1, [6], []), (1919, .invokevirtual 259, 3, [0, 2, 1, 9, 0, 2026], [m_X12_wouldStop])],
  [(1922, .istore 7, 2, [], []), (1924, .aload_n 2, 1, [], []), (1925, .invokevirtual 140, 3, [0, 0, 1, 9, 0, 1542], [m_X12_thrown]), (1928, .iload 6, 2, [], []), (1930, .if_icmp .eq 5, 3, [1935], []), (1933, .iconst 0, 1, [], []), (1934, .ireturn, 1, [6], []), (1935, .iload 6, 2, [], [])],
  [(1937, .ifCond .ne 22, 3, [1959], []), (1940, .aload_n 3, 1, [], []), (1941, .iconst 0, 1, [], []), (1942, .laload, 1, [], []), (1943, .iload 7, 2, [], []), (1945, .ifCond .eq 7, 3, [1952], []), (1948, .lconst 1, 1, [], []), (1949, .goto 4, 3, [1953], [])],
  [(1952, .lconst 0, 1, [], []), (1953, .lcmp, 1, [], []), (1954, .ifCond .eq 5, 3, [1959], []), (1957, .iconst 0, 1, [], []), (1958, .ireturn, 1, [6], []), (1959, .goto 699, 3, [2658], [])]]
theorem kl_1887 : CdOk m_L_law cl_1887 := ⟨by decide +kernel, allM_of ⟨o_L_wouldStop, ⟨o_X12_wouldStop, ⟨o_X12_thrown, trivial⟩⟩⟩⟩
def cl_1962 : Cd := [
  [(1962, .aload_n 1, 1, [], []), (1963, .invokevirtual 260, 3, [0, 0, 1, 8, 0, 621], [m_X11_events]), (1966, .aload_n 2, 1, [], []), (1967, .invokevirtual 263, 3, [0, 0, 1, 9, 0, 1867], [m_X12_events])],
  [(1970, .if_icmp .eq 688, 3, [2658], []), (1973, .iconst 0, 1, [], []), (1974, .ireturn, 1, [6], [])]]
theorem kl_1962 : CdOk m_L_law cl_1962 := ⟨by decide +kernel, allM_of ⟨o_X11_events, ⟨o_X12_events, trivial⟩⟩⟩
def cl_1975 : Cd := [
  [(1975, .aload_n 1, 1, [], []), (1976, .aload_n 0, 1, [], []), (1977, .iload 5, 2, [], []), (1979, .iconst 1, 1, [], []), (1980, .iadd, 1, [], []), (1981, .iaload, 1, [6], []), (1982, .aload_n 0, 1, [], []), (1983, .iload 5, 2, [], [])],
  [(1985, .iconst 2, 1, [], []), (1986, .iadd, 1, [], []), (1987, .iaload, 1, [6], []), (1988, .aload_n 3, 1, [], []), (1989, .invokestatic 264, 3, [3, 4, 1, 0, 1, 1319], [m_L_event]), (1992, .istore 6, 2, [], []), (1994, .aload_n 2, 1, [], []), (1995, .aload_n 0, 1, [], []), (1996, .iload 5, 2, [], []), (1998, .iconst 1, 1, [], []), (1999, .iadd, 1, [], [])],
  [(2000, .iaload, 1, [6], []), (2001, .aload_n 0, 1, [], []), (2002, .iload 5, 2, [], []), (2004, .iconst 2, 1, [], []), (2005, .iadd, 1, [], []), (2006, .iaload, 1, [6], []), (2007, .invokevirtual 266, 3, [0, 2, 1, 9, 0, 1875], [m_X12_event]), (2010, .istore 7, 2, [], []), (2012, .aload_n 2, 1, [], []), (2013, .invokevirtual 140, 3, [0, 0, 1, 9, 0, 1542], [m_X12_thrown])],
  [(2016, .iload 6, 2, [], []), (2018, .if_icmp .eq 5, 3, [2023], []), (2021, .iconst 0, 1, [], []), (2022, .ireturn, 1, [6], []), (2023, .iload 6, 2, [], []), (2025, .ifCond .ne 15, 3, [2040], []), (2028, .aload_n 3, 1, [], []), (2029, .iconst 0, 1, [], []), (2030, .laload, 1, [], []), (2031, .iload 7, 2, [], [])],
  [(2033, .i2l, 1, [], []), (2034, .lcmp, 1, [], []), (2035, .ifCond .eq 5, 3, [2040], []), (2038, .iconst 0, 1, [], []), (2039, .ireturn, 1, [6], []), (2040, .goto 618, 3, [2658], [])]]
theorem kl_1975 : CdOk m_L_law cl_1975 := ⟨by decide +kernel, allM_of ⟨o_L_event, ⟨o_X12_event, ⟨o_X12_thrown, trivial⟩⟩⟩⟩
def cl_2043 : Cd := [
  [(2043, .aload_n 1, 1, [], []), (2044, .aload_n 0, 1, [], []), (2045, .iload 5, 2, [], []), (2047, .iconst 1, 1, [], [])],
  [(2048, .iadd, 1, [], []), (2049, .iaload, 1, [6], []), (2050, .aload_n 3, 1, [], []), (2051, .invokestatic 267, 3, [3, 3, 1, 0, 1, 1331], [m_L_pass]), (2054, .istore 6, 2, [], []), (2056, .aload_n 2, 1, [], []), (2057, .aload_n 0, 1, [], []), (2058, .iload 5, 2, [], []), (2060, .iconst 1, 1, [], []), (2061, .iadd, 1, [], []), (2062, .iaload, 1, [6], []), (2063, .invokevirtual 269, 3, [0, 1, 1, 9, 0, 2031], [m_X12_pass])],
  [(2066, .istore 7, 2, [], []), (2068, .aload_n 2, 1, [], []), (2069, .invokevirtual 140, 3, [0, 0, 1, 9, 0, 1542], [m_X12_thrown]), (2072, .iload 6, 2, [], []), (2074, .if_icmp .eq 5, 3, [2079], []), (2077, .iconst 0, 1, [], []), (2078, .ireturn, 1, [6], []), (2079, .iload 6, 2, [], [])],
  [(2081, .ifCond .ne 15, 3, [2096], []), (2084, .aload_n 3, 1, [], []), (2085, .iconst 0, 1, [], []), (2086, .laload, 1, [], []), (2087, .iload 7, 2, [], []), (2089, .i2l, 1, [], []), (2090, .lcmp, 1, [], []), (2091, .ifCond .eq 5, 3, [2096], []), (2094, .iconst 0, 1, [], []), (2095, .ireturn, 1, [6], [])],
  [(2096, .goto 562, 3, [2658], [])]]
theorem kl_2043 : CdOk m_L_law cl_2043 := ⟨by decide +kernel, allM_of ⟨o_L_pass, ⟨o_X12_pass, ⟨o_X12_thrown, trivial⟩⟩⟩⟩
def cl_2099 : Cd := [
  [(2099, .aload_n 1, 1, [], []), (2100, .aload_n 0, 1, [], []), (2101, .iload 5, 2, [], []), (2103, .iconst 1, 1, [], []), (2104, .iadd, 1, [], []), (2105, .iaload, 1, [6], []), (2106, .aload_n 3, 1, [], []), (2107, .invokestatic 270, 3, [3, 3, 1, 0, 2, 1340], [m_L_start]), (2110, .istore 6, 2, [], [])],
  [(2112, .aload_n 2, 1, [], []), (2113, .aload_n 0, 1, [], []), (2114, .iload 5, 2, [], []), (2116, .iconst 1, 1, [], []), (2117, .iadd, 1, [], []), (2118, .iaload, 1, [6], []), (2119, .invokevirtual 272, 3, [0, 1, 1, 9, 0, 2051], [m_X12_start]), (2122, .istore 7, 2, [], []), (2124, .aload_n 2, 1, [], []), (2125, .invokevirtual 140, 3, [0, 0, 1, 9, 0, 1542], [m_X12_thrown])],
  [(2128, .iload 6, 2, [], []), (2130, .if_icmp .eq 5, 3, [2135], []), (2133, .iconst 0, 1, [], []), (2134, .ireturn, 1, [6], []), (2135, .iload 6, 2, [], []), (2137, .ifCond .ne 15, 3, [2152], []), (2140, .aload_n 3, 1, [], []), (2141, .iconst 0, 1, [], []), (2142, .laload, 1, [], []), (2143, .iload 7, 2, [], [])],
  [(2145, .i2l, 1, [], []), (2146, .lcmp, 1, [], []), (2147, .ifCond .eq 5, 3, [2152], []), (2150, .iconst 0, 1, [], []), (2151, .ireturn, 1, [6], []), (2152, .goto 506, 3, [2658], [])]]
theorem kl_2099 : CdOk m_L_law cl_2099 := ⟨by decide +kernel, allM_of ⟨o_L_start, ⟨o_X12_start, ⟨o_X12_thrown, trivial⟩⟩⟩⟩
def cl_2155 : Cd := [
  [(2155, .aload_n 1, 1, [], []), (2156, .aload_n 3, 1, [], []), (2157, .invokestatic 273, 3, [3, 2, 1, 0, 1, 1349], [m_L_stop])],
  [(2160, .istore 6, 2, [], []), (2162, .aload_n 2, 1, [], []), (2163, .invokevirtual 275, 3, [0, 0, 1, 9, 0, 2063], [m_X12_stop]), (2166, .istore 7, 2, [], []), (2168, .aload_n 2, 1, [], []), (2169, .invokevirtual 140, 3, [0, 0, 1, 9, 0, 1542], [m_X12_thrown]), (2172, .iload 6, 2, [], []), (2174, .if_icmp .eq 5, 3, [2179], [])],
  [(2177, .iconst 0, 1, [], []), (2178, .ireturn, 1, [6], []), (2179, .iload 6, 2, [], []), (2181, .ifCond .ne 15, 3, [2196], []), (2184, .aload_n 3, 1, [], []), (2185, .iconst 0, 1, [], []), (2186, .laload, 1, [], []), (2187, .iload 7, 2, [], []), (2189, .i2l, 1, [], []), (2190, .lcmp, 1, [], []), (2191, .ifCond .eq 5, 3, [2196], [])],
  [(2194, .iconst 0, 1, [], []), (2195, .ireturn, 1, [6], []), (2196, .goto 462, 3, [2658], [])]]
theorem kl_2155 : CdOk m_L_law cl_2155 := ⟨by decide +kernel, allM_of ⟨o_L_stop, ⟨o_X12_stop, ⟨o_X12_thrown, trivial⟩⟩⟩⟩
def cl_2199 : Cd := [
  [(2199, .aload_n 1, 1, [], []), (2200, .aload_n 3, 1, [], []), (2201, .invokestatic 276, 3, [3, 2, 1, 0, 1, 1357], [m_L_go]), (2204, .istore 6, 2, [], []), (2206, .aload_n 2, 1, [], []), (2207, .invokevirtual 278, 3, [0, 0, 1, 9, 0, 2067], [m_X12_go])],
  [(2210, .istore 7, 2, [], []), (2212, .aload_n 2, 1, [], []), (2213, .invokevirtual 140, 3, [0, 0, 1, 9, 0, 1542], [m_X12_thrown]), (2216, .iload 6, 2, [], []), (2218, .if_icmp .eq 5, 3, [2223], []), (2221, .iconst 0, 1, [], []), (2222, .ireturn, 1, [6], []), (2223, .iload 6, 2, [], [])],
  [(2225, .ifCond .ne 15, 3, [2240], []), (2228, .aload_n 3, 1, [], []), (2229, .iconst 0, 1, [], []), (2230, .laload, 1, [], []), (2231, .iload 7, 2, [], []), (2233, .i2l, 1, [], []), (2234, .lcmp, 1, [], []), (2235, .ifCond .eq 5, 3, [2240], []), (2238, .iconst 0, 1, [], []), (2239, .ireturn, 1, [6], [])],
  [(2240, .goto 418, 3, [2658], [])]]
theorem kl_2199 : CdOk m_L_law cl_2199 := ⟨by decide +kernel, allM_of ⟨o_L_go, ⟨o_X12_go, ⟨o_X12_thrown, trivial⟩⟩⟩⟩
def cl_2243 : Cd := [
  [(2243, .aload_n 1, 1, [], []), (2244, .aload_n 0, 1, [], []), (2245, .iload 5, 2, [], []), (2247, .iconst 1, 1, [], []), (2248, .iadd, 1, [], []), (2249, .iaload, 1, [6], []), (2250, .aload_n 0, 1, [], []), (2251, .iload 5, 2, [], []), (2253, .iconst 2, 1, [], []), (2254, .iadd, 1, [], []), (2255, .iaload, 1, [6], [])],
  [(2256, .ifCond .eq 7, 3, [2263], []), (2259, .iconst 1, 1, [], []), (2260, .goto 4, 3, [2264], []), (2263, .iconst 0, 1, [], []), (2264, .aload_n 3, 1, [], []), (2265, .invokestatic 279, 3, [3, 4, 1, 0, 2, 1365], [m_L_hold]), (2268, .istore 6, 2, [], []), (2270, .aload_n 2, 1, [], []), (2271, .aload_n 0, 1, [], [])],
  [(2272, .iload 5, 2, [], []), (2274, .iconst 1, 1, [], []), (2275, .iadd, 1, [], []), (2276, .iaload, 1, [6], []), (2277, .aload_n 0, 1, [], []), (2278, .iload 5, 2, [], []), (2280, .iconst 2, 1, [], []), (2281, .iadd, 1, [], []), (2282, .iaload, 1, [6], []), (2283, .ifCond .eq 7, 3, [2290], []), (2286, .iconst 1, 1, [], []), (2287, .goto 4, 3, [2291], [])],
  [(2290, .iconst 0, 1, [], []), (2291, .invokevirtual 282, 3, [0, 2, 1, 9, 0, 2075], [m_X12_hold]), (2294, .istore 7, 2, [], []), (2296, .aload_n 2, 1, [], []), (2297, .invokevirtual 140, 3, [0, 0, 1, 9, 0, 1542], [m_X12_thrown]), (2300, .iload 6, 2, [], []), (2302, .if_icmp .eq 5, 3, [2307], [])],
  [(2305, .iconst 0, 1, [], []), (2306, .ireturn, 1, [6], []), (2307, .iload 6, 2, [], []), (2309, .ifCond .ne 15, 3, [2324], []), (2312, .aload_n 3, 1, [], []), (2313, .iconst 0, 1, [], []), (2314, .laload, 1, [], []), (2315, .iload 7, 2, [], []), (2317, .i2l, 1, [], []), (2318, .lcmp, 1, [], []), (2319, .ifCond .eq 5, 3, [2324], [])],
  [(2322, .iconst 0, 1, [], []), (2323, .ireturn, 1, [6], []), (2324, .goto 334, 3, [2658], [])]]
theorem kl_2243 : CdOk m_L_law cl_2243 := ⟨by decide +kernel, allM_of ⟨o_L_hold, ⟨o_X12_hold, ⟨o_X12_thrown, trivial⟩⟩⟩⟩
def cl_2327 : Cd := [
  [(2327, .aload_n 1, 1, [], []), (2328, .aload_n 0, 1, [], []), (2329, .iload 5, 2, [], []), (2331, .iconst 1, 1, [], []), (2332, .iadd, 1, [], []), (2333, .iaload, 1, [6], []), (2334, .aload_n 0, 1, [], []), (2335, .iload 5, 2, [], [])],
  [(2337, .iconst 2, 1, [], []), (2338, .iadd, 1, [], []), (2339, .iaload, 1, [6], []), (2340, .aload_n 3, 1, [], []), (2341, .invokestatic 283, 3, [3, 4, 1, 0, 3, 1373], [m_L_report]), (2344, .istore 6, 2, [], []), (2346, .aload_n 2, 1, [], []), (2347, .aload_n 0, 1, [], []), (2348, .iload 5, 2, [], []), (2350, .iconst 1, 1, [], []), (2351, .iadd, 1, [], [])],
  [(2352, .iaload, 1, [6], []), (2353, .aload_n 0, 1, [], []), (2354, .iload 5, 2, [], []), (2356, .iconst 2, 1, [], []), (2357, .iadd, 1, [], []), (2358, .iaload, 1, [6], []), (2359, .invokevirtual 285, 3, [0, 2, 1, 9, 0, 2083], [m_X12_report]), (2362, .istore 7, 2, [], []), (2364, .aload_n 2, 1, [], []), (2365, .invokevirtual 140, 3, [0, 0, 1, 9, 0, 1542], [m_X12_thrown])],
  [(2368, .iload 6, 2, [], []), (2370, .if_icmp .eq 5, 3, [2375], []), (2373, .iconst 0, 1, [], []), (2374, .ireturn, 1, [6], []), (2375, .iload 6, 2, [], []), (2377, .ifCond .ne 15, 3, [2392], []), (2380, .aload_n 3, 1, [], []), (2381, .iconst 0, 1, [], []), (2382, .laload, 1, [], []), (2383, .iload 7, 2, [], [])],
  [(2385, .i2l, 1, [], []), (2386, .lcmp, 1, [], []), (2387, .ifCond .eq 5, 3, [2392], []), (2390, .iconst 0, 1, [], []), (2391, .ireturn, 1, [6], []), (2392, .goto 266, 3, [2658], [])]]
theorem kl_2327 : CdOk m_L_law cl_2327 := ⟨by decide +kernel, allM_of ⟨o_L_report, ⟨o_X12_report, ⟨o_X12_thrown, trivial⟩⟩⟩⟩
def cl_2395 : Cd := [
  [(2395, .aload_n 1, 1, [], []), (2396, .aload_n 0, 1, [], []), (2397, .iload 5, 2, [], []), (2399, .iconst 1, 1, [], [])],
  [(2400, .iadd, 1, [], []), (2401, .iaload, 1, [6], []), (2402, .aload_n 0, 1, [], []), (2403, .iload 5, 2, [], []), (2405, .iconst 2, 1, [], []), (2406, .iadd, 1, [], []), (2407, .iaload, 1, [6], []), (2408, .aload_n 3, 1, [], []), (2409, .invokestatic 286, 3, [3, 4, 1, 0, 3, 1381], [m_L_change]), (2412, .istore 6, 2, [], []), (2414, .aload_n 2, 1, [], []), (2415, .aload_n 0, 1, [], [])],
  [(2416, .iload 5, 2, [], []), (2418, .iconst 1, 1, [], []), (2419, .iadd, 1, [], []), (2420, .iaload, 1, [6], []), (2421, .aload_n 0, 1, [], []), (2422, .iload 5, 2, [], []), (2424, .iconst 2, 1, [], []), (2425, .iadd, 1, [], []), (2426, .iaload, 1, [6], []), (2427, .invokevirtual 288, 3, [0, 2, 1, 9, 0, 2091], [m_X12_change]), (2430, .istore 7, 2, [], [])],
  [(2432, .aload_n 2, 1, [], []), (2433, .invokevirtual 140, 3, [0, 0, 1, 9, 0, 1542], [m_X12_thrown]), (2436, .iload 6, 2, [], []), (2438, .if_icmp .eq 5, 3, [2443], []), (2441, .iconst 0, 1, [], []), (2442, .ireturn, 1, [6], []), (2443, .iload 6, 2, [], []), (2445, .ifCond .ne 15, 3, [2460], [])],
  [(2448, .aload_n 3, 1, [], []), (2449, .iconst 0, 1, [], []), (2450, .laload, 1, [], []), (2451, .iload 7, 2, [], []), (2453, .i2l, 1, [], []), (2454, .lcmp, 1, [], []), (2455, .ifCond .eq 5, 3, [2460], []), (2458, .iconst 0, 1, [], []), (2459, .ireturn, 1, [6], []), (2460, .goto 198, 3, [2658], [])]]
theorem kl_2395 : CdOk m_L_law cl_2395 := ⟨by decide +kernel, allM_of ⟨o_L_change, ⟨o_X12_change, ⟨o_X12_thrown, trivial⟩⟩⟩⟩
def cl_2463 : Cd := [
  [(2463, .aload_n 1, 1, [], [])],
  [(2464, .aload_n 0, 1, [], []), (2465, .iload 5, 2, [], []), (2467, .iconst 1, 1, [], []), (2468, .iadd, 1, [], []), (2469, .iaload, 1, [6], []), (2470, .aload_n 3, 1, [], []), (2471, .invokestatic 289, 3, [3, 3, 1, 0, 2, 1389], [m_L_commit]), (2474, .istore 6, 2, [], []), (2476, .aload_n 2, 1, [], []), (2477, .aload_n 0, 1, [], []), (2478, .iload 5, 2, [], [])],
  [(2480, .iconst 1, 1, [], []), (2481, .iadd, 1, [], []), (2482, .iaload, 1, [6], []), (2483, .invokevirtual 291, 3, [0, 1, 1, 9, 0, 2099], [m_X12_commit]), (2486, .istore 7, 2, [], []), (2488, .aload_n 2, 1, [], []), (2489, .invokevirtual 140, 3, [0, 0, 1, 9, 0, 1542], [m_X12_thrown]), (2492, .iload 6, 2, [], []), (2494, .if_icmp .eq 5, 3, [2499], [])],
  [(2497, .iconst 0, 1, [], []), (2498, .ireturn, 1, [6], []), (2499, .iload 6, 2, [], []), (2501, .ifCond .ne 15, 3, [2516], []), (2504, .aload_n 3, 1, [], []), (2505, .iconst 0, 1, [], []), (2506, .laload, 1, [], []), (2507, .iload 7, 2, [], []), (2509, .i2l, 1, [], []), (2510, .lcmp, 1, [], []), (2511, .ifCond .eq 5, 3, [2516], [])],
  [(2514, .iconst 0, 1, [], []), (2515, .ireturn, 1, [6], []), (2516, .goto 142, 3, [2658], [])]]
theorem kl_2463 : CdOk m_L_law cl_2463 := ⟨by decide +kernel, allM_of ⟨o_L_commit, ⟨o_X12_commit, ⟨o_X12_thrown, trivial⟩⟩⟩⟩
def cl_2519 : Cd := [
  [(2519, .aload_n 1, 1, [], []), (2520, .invokevirtual 292, 3, [0, 0, 1, 8, 0, 625], [m_X11_writeReport]), (2523, .aload_n 2, 1, [], []), (2524, .invokevirtual 295, 3, [0, 0, 1, 9, 0, 2145], [m_X12_writeReport]), (2527, .if_icmp .eq 131, 3, [2658], [])],
  [(2530, .iconst 0, 1, [], []), (2531, .ireturn, 1, [6], [])]]
theorem kl_2519 : CdOk m_L_law cl_2519 := ⟨by decide +kernel, allM_of ⟨o_X11_writeReport, ⟨o_X12_writeReport, trivial⟩⟩⟩
def cl_2532 : Cd := [
  [(2532, .aload_n 1, 1, [], []), (2533, .aload_n 0, 1, [], []), (2534, .iload 5, 2, [], []), (2536, .iconst 1, 1, [], []), (2537, .iadd, 1, [], []), (2538, .iaload, 1, [6], []), (2539, .aload_n 3, 1, [], []), (2540, .invokestatic 296, 3, [3, 3, 1, 0, 1, 1397], [m_L_reportByte]), (2543, .istore 6, 2, [], [])],
  [(2545, .aload_n 2, 1, [], []), (2546, .aload_n 0, 1, [], []), (2547, .iload 5, 2, [], []), (2549, .iconst 1, 1, [], []), (2550, .iadd, 1, [], []), (2551, .iaload, 1, [6], []), (2552, .invokevirtual 298, 3, [0, 1, 1, 9, 0, 2158], [m_X12_reportByte]), (2555, .istore 7, 2, [], []), (2557, .aload_n 2, 1, [], []), (2558, .invokevirtual 140, 3, [0, 0, 1, 9, 0, 1542], [m_X12_thrown])],
  [(2561, .iload 6, 2, [], []), (2563, .if_icmp .eq 5, 3, [2568], []), (2566, .iconst 0, 1, [], []), (2567, .ireturn, 1, [6], []), (2568, .iload 6, 2, [], []), (2570, .ifCond .ne 15, 3, [2585], []), (2573, .aload_n 3, 1, [], []), (2574, .iconst 0, 1, [], []), (2575, .laload, 1, [], [])],
  [(2576, .iload 7, 2, [], []), (2578, .i2l, 1, [], []), (2579, .lcmp, 1, [], []), (2580, .ifCond .eq 5, 3, [2585], []), (2583, .iconst 0, 1, [], []), (2584, .ireturn, 1, [6], []), (2585, .goto 73, 3, [2658], [])]]
theorem kl_2532 : CdOk m_L_law cl_2532 := ⟨by decide +kernel, allM_of ⟨o_L_reportByte, ⟨o_X12_reportByte, ⟨o_X12_thrown, trivial⟩⟩⟩⟩
def cl_2588 : Cd := [
  [(2588, .aload_n 1, 1, [], []), (2589, .invokevirtual 299, 3, [0, 0, 1, 8, 0, 642], [m_X11_undo])],
  [(2592, .aload_n 2, 1, [], []), (2593, .invokevirtual 302, 3, [0, 0, 1, 9, 0, 1576], [m_X12_undo]), (2596, .if_icmp .eq 62, 3, [2658], []), (2599, .iconst 0, 1, [], []), (2600, .ireturn, 1, [6], [])]]
theorem kl_2588 : CdOk m_L_law cl_2588 := ⟨by decide +kernel, allM_of ⟨o_X11_undo, ⟨o_X12_undo, trivial⟩⟩⟩
def cl_2601 : Cd := [
  [(2601, .aload_n 1, 1, [], []), (2602, .invokevirtual 303, 3, [0, 0, 1, 8, 0, 654], [m_X11_save]), (2605, .aload_n 2, 1, [], []), (2606, .invokevirtual 306, 3, [0, 0, 1, 9, 0, 1580], [m_X12_save])],
  [(2609, .if_icmp .eq 49, 3, [2658], []), (2612, .iconst 0, 1, [], []), (2613, .ireturn, 1, [6], [])]]
theorem kl_2601 : CdOk m_L_law cl_2601 := ⟨by decide +kernel, allM_of ⟨o_X11_save, ⟨o_X12_save, trivial⟩⟩⟩
def cl_2614 : Cd := [
  [(2614, .aload_n 1, 1, [], []), (2615, .aload_n 3, 1, [], []), (2616, .invokestatic 307, 3, [3, 2, 1, 0, 1, 1404], [m_L_restore]), (2619, .istore 6, 2, [], []), (2621, .aload_n 2, 1, [], []), (2622, .invokevirtual 309, 3, [0, 0, 1, 9, 0, 1584], [m_X12_restore])],
  [(2625, .istore 7, 2, [], []), (2627, .aload_n 2, 1, [], []), (2628, .invokevirtual 140, 3, [0, 0, 1, 9, 0, 1542], [m_X12_thrown]), (2631, .iload 6, 2, [], []), (2633, .if_icmp .eq 5, 3, [2638], []), (2636, .iconst 0, 1, [], []), (2637, .ireturn, 1, [6], []), (2638, .iload 6, 2, [], [])],
  [(2640, .ifCond .ne 15, 3, [2655], []), (2643, .aload_n 3, 1, [], []), (2644, .iconst 0, 1, [], []), (2645, .laload, 1, [], []), (2646, .iload 7, 2, [], []), (2648, .i2l, 1, [], []), (2649, .lcmp, 1, [], []), (2650, .ifCond .eq 5, 3, [2655], []), (2653, .iconst 0, 1, [], []), (2654, .ireturn, 1, [6], []), (2655, .goto 3, 3, [2658], [])]]
theorem kl_2614 : CdOk m_L_law cl_2614 := ⟨by decide +kernel, allM_of ⟨o_L_restore, ⟨o_X12_restore, ⟨o_X12_thrown, trivial⟩⟩⟩⟩
def cl_2658 : Cd := [
  [(2658, .iinc 5 6, 3, [], []), (2661, .goto (-2633), 3, [28], [])]]
theorem kl_2658 : CdOk m_L_law cl_2658 := ⟨by decide +kernel, allM_of trivial⟩
