/-! ===== tables ===== -/
theorem tbG_atS {p : Nat} {w : Jvm.Cond} (h : (decide ((k2_sels lw_privs)[p]? = some w) && goodWord w) = true) : w ∈ tbG := by
  simp only [Bool.and_eq_true, decide_eq_true_eq] at h
  exact List.mem_filter.mpr ⟨List.mem_append_left _ (List.mem_of_getElem? h.1), h.2⟩
theorem MOKi {M : MI} (h1 : headM M ∈ tbG) (h2 : Cond.initialized M.y.cls ∈ tbG) (h3 : plainName M.y.cls = true) (h4 : M.sk = 0) (h5 : M.hh = []) (h6 : Cond.instanceMethod M.y ∈ tbG) (h7 : Cond.selects M.y.cls M.y M.y ∈ tbG) : MOK M := ⟨h1, h2, h3, by rw [h4]; exact ⟨h5, h6, h7⟩⟩
theorem MOKs {M : MI} (h1 : headM M ∈ tbG) (h2 : Cond.initialized M.y.cls ∈ tbG) (h3 : plainName M.y.cls = true) (h4 : M.sk = 1) (h5 : M.hh = []) (h6 : Cond.static M.y ∈ tbG) : MOK M := ⟨h1, h2, h3, by rw [h4]; exact ⟨h5, h6⟩⟩
theorem MOKh {M : MI} (h1 : headM M ∈ tbG) (h2 : Cond.initialized M.y.cls ∈ tbG) (h3 : plainName M.y.cls = true) (h4 : M.sk = 2) (h5 : M.hh ≠ []) (h6 : Cond.static M.y ∈ tbG) : MOK M := ⟨h1, h2, h3, by rw [h4]; exact ⟨h5, h6⟩⟩
def allM : List MI → Prop
  | [] => True
  | M :: r => MOK M ∧ allM r
theorem allM_of {l : List MI} (h : allM l) : ∀ M ∈ l, MOK M := by
  induction l with
  | nil => intro M hM; cases hM
  | cons a r ih =>
    intro M hM
    rcases List.mem_cons.mp hM with rfl | hM
    · exact h.1
    · exact ih h.2 M hM
def m_X11_isIn : MI := (yX11_isIn, cX11_isIn, 2, some .boolean, 0, 0, 0, [], 1)
def m_X8_isUp : MI := (yX8_isUp, cX8_isUp, 2, some .boolean, 0, 0, 0, [], 0)
def m_X5_isReader : MI := (yX5_isReader, cX5_isReader, 3, some .boolean, 0, 0, 0, [], 0)
def m_X5_neighboursOf : MI := (yX5_neighboursOf, cX5_neighboursOf, 3, some .int, 0, 0, 0, [], 0)
def m_J6_bitCount_0f7a4 : MI := (yJ6_bitCount_0f7a4, cJ6_bitCount_0f7a4, 1, some .int, 0, 0, 0, [], 1)
def m_X5_talkersOf : MI := (yX5_talkersOf, cX5_talkersOf, 2, some .int, 0, 0, 0, [], 0)
def m_X8_opponents : MI := (yX8_opponents, cX8_opponents, 6, some .int, 1, 21, 0, [], 0)
def m_X8_whyNotBegin : MI := (yX8_whyNotBegin, cX8_whyNotBegin, 5, some .int, 2, 60, 0, [], 0)
def m_X3_add : MI := (yX3_add, cX3_add, 6, none, 1, 60, 0, [], 0)
theorem o_X11_isIn : MOK m_X11_isIn := MOKs (tbG_at (p := 422) (by decide +kernel)) (tbG_at (p := 1) (by decide +kernel)) (by decide +kernel) rfl rfl (tbG_at (p := 421) (by decide +kernel))
theorem o_X8_isUp : MOK m_X8_isUp := MOKi (tbG_at (p := 444) (by decide +kernel)) (tbG_at (p := 3) (by decide +kernel)) (by decide +kernel) rfl rfl (tbG_at (p := 442) (by decide +kernel)) (tbG_at (p := 443) (by decide +kernel))
theorem o_X5_isReader : MOK m_X5_isReader := MOKi (tbG_at (p := 483) (by decide +kernel)) (tbG_at (p := 4) (by decide +kernel)) (by decide +kernel) rfl rfl (tbG_at (p := 481) (by decide +kernel)) (tbG_at (p := 482) (by decide +kernel))
theorem o_X5_neighboursOf : MOK m_X5_neighboursOf := MOKi (tbG_at (p := 487) (by decide +kernel)) (tbG_at (p := 4) (by decide +kernel)) (by decide +kernel) rfl rfl (tbG_at (p := 485) (by decide +kernel)) (tbG_at (p := 486) (by decide +kernel))
theorem o_J6_bitCount_0f7a4 : MOK m_J6_bitCount_0f7a4 := MOKs (tbG_at (p := 451) (by decide +kernel)) (tbG_at (p := 26) (by decide +kernel)) (by decide +kernel) rfl rfl (tbG_at (p := 450) (by decide +kernel))
theorem o_X5_talkersOf : MOK m_X5_talkersOf := MOKi (tbG_at (p := 498) (by decide +kernel)) (tbG_at (p := 4) (by decide +kernel)) (by decide +kernel) rfl rfl (tbG_at (p := 496) (by decide +kernel)) (tbG_at (p := 497) (by decide +kernel))
theorem o_X8_opponents : MOK m_X8_opponents := MOKi (tbG_at (p := 494) (by decide +kernel)) (tbG_at (p := 3) (by decide +kernel)) (by decide +kernel) rfl rfl (tbG_at (p := 492) (by decide +kernel)) (tbG_at (p := 493) (by decide +kernel))
theorem o_X8_whyNotBegin : MOK m_X8_whyNotBegin := MOKi (tbG_at (p := 479) (by decide +kernel)) (tbG_at (p := 3) (by decide +kernel)) (by decide +kernel) rfl rfl (tbG_at (p := 477) (by decide +kernel)) (tbG_at (p := 478) (by decide +kernel))
theorem o_X3_add : MOK m_X3_add := MOKi (tbG_at (p := 583) (by decide +kernel)) (tbG_at (p := 6) (by decide +kernel)) (by decide +kernel) rfl rfl (tbG_at (p := 581) (by decide +kernel)) (tbG_at (p := 582) (by decide +kernel))
def c_X11_isIn : Cd := [
  [(0, .iload_n 0, 1, [], []), (1, .iload_n 1, 1, [], []), (2, .ishr, 1, [], []), (3, .iconst 1, 1, [], []), (4, .iand, 1, [], []), (5, .ifCond .eq 7, 3, [12], []), (8, .iconst 1, 1, [], []), (9, .goto 4, 3, [13], []), (12, .iconst 0, 1, [], []), (13, .ireturn, 1, [6], [])]]
theorem k_X11_isIn : CdOk m_X11_isIn c_X11_isIn := ⟨by decide +kernel, allM_of trivial⟩
def c_X8_isUp : Cd := [
  [(0, .aload_n 0, 1, [], []), (1, .getfield 18, 3, [6, 5, 3, 234], []), (4, .iload_n 1, 1, [], []), (5, .iaload, 1, [], []), (6, .iconst (-1), 1, [], []), (7, .if_icmp .ne 7, 3, [14], []), (10, .iconst 1, 1, [], []), (11, .goto 4, 3, [15], []), (14, .iconst 0, 1, [], []), (15, .ireturn, 1, [6], [])]]
theorem k_X8_isUp : CdOk m_X8_isUp c_X8_isUp := ⟨by decide +kernel, allM_of trivial⟩
def c_X5_isReader : Cd := [
  [(0, .iload_n 1, 1, [], []), (1, .ifCond .lt 38, 3, [39], []), (4, .iload_n 1, 1, [], []), (5, .aload_n 0, 1, [], []), (6, .getfield 14, 3, [3, 0, 3, 106], []), (9, .getfield 54, 3, [4, 1, 0, 92], []), (12, .if_icmp .ge 27, 3, [39], []), (15, .aload_n 0, 1, [], [])],
  [(16, .getfield 20, 3, [3, 1, 3, 111], []), (19, .iload_n 1, 1, [], []), (20, .iaload, 1, [], []), (21, .iload_n 2, 1, [], []), (22, .if_icmp .gt 17, 3, [39], []), (25, .iload_n 2, 1, [], []), (26, .aload_n 0, 1, [], []), (27, .getfield 24, 3, [3, 2, 3, 112], []), (30, .iload_n 1, 1, [], []), (31, .iaload, 1, [], [])],
  [(32, .if_icmp .gt 7, 3, [39], []), (35, .iconst 1, 1, [], []), (36, .goto 4, 3, [40], []), (39, .iconst 0, 1, [], []), (40, .ireturn, 1, [6], [])]]
theorem k_X5_isReader : CdOk m_X5_isReader c_X5_isReader := ⟨by decide +kernel, allM_of trivial⟩
def c_X5_neighboursOf : Cd := [
  [(0, .aload_n 0, 1, [], []), (1, .getfield 45, 3, [3, 9, 3, 129], []), (4, .iload_n 1, 1, [], []), (5, .iaload, 1, [], []), (6, .istore_n 2, 1, [], []), (7, .iload_n 2, 1, [], []), (8, .ifCond .lt 23, 3, [31], []), (11, .iload_n 2, 1, [], []), (12, .aload_n 0, 1, [], []), (13, .getfield 30, 3, [3, 4, 3, 114], [])],
  [(16, .getfield 54, 3, [4, 1, 0, 92], []), (19, .if_icmp .ge 12, 3, [31], []), (22, .aload_n 0, 1, [], []), (23, .getfield 36, 3, [3, 6, 3, 119], []), (26, .iload_n 2, 1, [], []), (27, .iaload, 1, [], []), (28, .goto 4, 3, [32], []), (31, .iconst 0, 1, [], [])],
  [(32, .ireturn, 1, [1], [])]]
theorem k_X5_neighboursOf : CdOk m_X5_neighboursOf c_X5_neighboursOf := ⟨by decide +kernel, allM_of trivial⟩
def c_J6_bitCount_0f7a4 : Cd := [
  [(0, .iload_n 0, 1, [], []), (1, .iload_n 0, 1, [], []), (2, .iconst 1, 1, [], []), (3, .iushr, 1, [], []), (4, .ldc_w 265, 3, [1431655765, 452], []), (7, .iand, 1, [], []), (8, .isub, 1, [], []), (9, .istore_n 0, 1, [], []), (10, .iload_n 0, 1, [], []), (11, .ldc_w 266, 3, [858993459, 453], []), (14, .iand, 1, [], []), (15, .iload_n 0, 1, [], [])],
  [(16, .iconst 2, 1, [], []), (17, .iushr, 1, [], []), (18, .ldc_w 266, 3, [858993459, 453], []), (21, .iand, 1, [], []), (22, .iadd, 1, [], []), (23, .istore_n 0, 1, [], []), (24, .iload_n 0, 1, [], []), (25, .iload_n 0, 1, [], []), (26, .iconst 4, 1, [], []), (27, .iushr, 1, [], []), (28, .iadd, 1, [], []), (29, .ldc_w 267, 3, [252645135, 454], [])],
  [(32, .iand, 1, [], []), (33, .istore_n 0, 1, [], []), (34, .iload_n 0, 1, [], []), (35, .iload_n 0, 1, [], []), (36, .bipush 8, 2, [], []), (38, .iushr, 1, [], []), (39, .iadd, 1, [], []), (40, .istore_n 0, 1, [], []), (41, .iload_n 0, 1, [], []), (42, .iload_n 0, 1, [], []), (43, .bipush 16, 2, [], []), (45, .iushr, 1, [], []), (46, .iadd, 1, [], []), (47, .istore_n 0, 1, [], [])],
  [(48, .iload_n 0, 1, [], []), (49, .bipush 63, 2, [], []), (51, .iand, 1, [], []), (52, .ireturn, 1, [1], [])]]
theorem k_J6_bitCount_0f7a4 : CdOk m_J6_bitCount_0f7a4 c_J6_bitCount_0f7a4 := sorry
def c_X5_talkersOf : Cd := [
  [(0, .iload_n 1, 1, [], []), (1, .ifCond .lt 23, 3, [24], []), (4, .iload_n 1, 1, [], []), (5, .aload_n 0, 1, [], []), (6, .getfield 14, 3, [3, 0, 3, 106], []), (9, .getfield 54, 3, [4, 1, 0, 92], []), (12, .if_icmp .ge 12, 3, [24], []), (15, .aload_n 0, 1, [], [])],
  [(16, .getfield 27, 3, [3, 3, 3, 113], []), (19, .iload_n 1, 1, [], []), (20, .iaload, 1, [], []), (21, .goto 4, 3, [25], []), (24, .iconst 0, 1, [], []), (25, .ireturn, 1, [1], [])]]
theorem k_X5_talkersOf : CdOk m_X5_talkersOf c_X5_talkersOf := ⟨by decide +kernel, allM_of trivial⟩
def c_X8_opponents : Cd := [
  [(0, .aload_n 0, 1, [], []), (1, .getfield 31, 3, [6, 0, 3, 223], []), (4, .iload_n 2, 1, [], []), (5, .invokevirtual 100, 3, [0, 1, 1, 3, 0, 495], [m_X5_talkersOf]), (8, .istore_n 3, 1, [], []), (9, .aload_n 0, 1, [], []), (10, .getfield 31, 3, [6, 0, 3, 223], []), (13, .getfield 162, 3, [3, 10, 3, 135], [])],
  [(16, .iload_n 1, 1, [], []), (17, .iaload, 1, [], []), (18, .istore 4, 2, [], []), (20, .iconst 0, 1, [], []), (21, .istore 5, 2, [], []), (23, .iload 5, 2, [], []), (25, .aload_n 0, 1, [], []), (26, .getfield 31, 3, [6, 0, 3, 223], []), (29, .getfield 89, 3, [3, 8, 3, 127], [])],
  [(32, .getfield 93, 3, [4, 1, 0, 95], []), (35, .if_icmp .ge 34, 3, [69], []), (38, .iload_n 3, 1, [], []), (39, .aload_n 0, 1, [], []), (40, .getfield 15, 3, [6, 4, 3, 232], []), (43, .iload 5, 2, [], []), (45, .iaload, 1, [], []), (46, .invokestatic 119, 3, [2, 2, 1, 0, 0, 0], [m_X11_isIn])],
  [(49, .ifCond .eq 14, 3, [63], []), (52, .iload 4, 2, [], []), (54, .iconst 1, 1, [], []), (55, .iload 5, 2, [], []), (57, .ishl, 1, [], []), (58, .iconst (-1), 1, [], []), (59, .ixor, 1, [], []), (60, .iand, 1, [], []), (61, .istore 4, 2, [], []), (63, .iinc 5 1, 3, [], [])],
  [(66, .goto (-43), 3, [23], []), (69, .iload 4, 2, [], []), (71, .ireturn, 1, [1], [])]]
theorem k_X8_opponents : CdOk m_X8_opponents c_X8_opponents := ⟨by decide +kernel, allM_of ⟨o_X5_talkersOf, ⟨o_X11_isIn, trivial⟩⟩⟩
def c_X8_whyNotBegin : Cd := [
  [(0, .aload_n 0, 1, [], []), (1, .getfield 48, 3, [6, 8, 0, 239], []), (4, .iload_n 1, 1, [], []), (5, .invokestatic 119, 3, [2, 2, 1, 0, 0, 0], [m_X11_isIn]), (8, .ifCond .eq 5, 3, [13], []), (11, .iconst 1, 1, [], []), (12, .ireturn, 1, [1], []), (13, .aload_n 0, 1, [], []), (14, .iload_n 1, 1, [], []), (15, .invokevirtual 135, 3, [0, 1, 1, 6, 0, 441], [m_X8_isUp])],
  [(18, .ifCond .ne 5, 3, [23], []), (21, .iconst 2, 1, [], []), (22, .ireturn, 1, [1], []), (23, .aload_n 0, 1, [], []), (24, .getfield 9, 3, [6, 3, 3, 229], []), (27, .iload_n 1, 1, [], []), (28, .iaload, 1, [], []), (29, .iload_n 2, 1, [], []), (30, .if_icmp .ne 5, 3, [35], [])],
  [(33, .iconst 3, 1, [], []), (34, .ireturn, 1, [1], []), (35, .aload_n 0, 1, [], []), (36, .getfield 31, 3, [6, 0, 3, 223], []), (39, .iload_n 2, 1, [], []), (40, .aload_n 0, 1, [], []), (41, .getfield 42, 3, [6, 2, 0, 226], []), (44, .invokevirtual 104, 3, [0, 2, 1, 3, 0, 480], [m_X5_isReader]), (47, .ifCond .ne 5, 3, [52], [])],
  [(50, .iconst 4, 1, [], []), (51, .ireturn, 1, [1], []), (52, .aload_n 0, 1, [], []), (53, .getfield 31, 3, [6, 0, 3, 223], []), (56, .iload_n 1, 1, [], []), (57, .invokevirtual 148, 3, [0, 1, 1, 3, 0, 484], [m_X5_neighboursOf]), (60, .aload_n 0, 1, [], []), (61, .getfield 45, 3, [6, 7, 0, 237], [])],
  [(64, .iand, 1, [], []), (65, .istore_n 3, 1, [], []), (66, .iload_n 3, 1, [], []), (67, .invokestatic 151, 3, [1, 1, 1, 0, 0, 449], [m_J6_bitCount_0f7a4]), (70, .aload_n 0, 1, [], []), (71, .getfield 31, 3, [6, 0, 3, 223], []), (74, .getfield 156, 3, [3, 14, 0, 147], []), (77, .if_icmp .lt 5, 3, [82], [])],
  [(80, .iconst 5, 1, [], []), (81, .ireturn, 1, [1], []), (82, .iconst 0, 1, [], []), (83, .istore 4, 2, [], []), (85, .iload 4, 2, [], []), (87, .aload_n 0, 1, [], []), (88, .getfield 31, 3, [6, 0, 3, 223], []), (91, .getfield 89, 3, [3, 8, 3, 127], []), (94, .getfield 93, 3, [4, 1, 0, 95], [])],
  [(97, .if_icmp .ge 40, 3, [137], []), (100, .iload 4, 2, [], []), (102, .iload_n 1, 1, [], []), (103, .if_icmp .eq 28, 3, [131], []), (106, .aload_n 0, 1, [], []), (107, .getfield 15, 3, [6, 4, 3, 232], []), (110, .iload 4, 2, [], [])],
  [(112, .iaload, 1, [], []), (113, .iload_n 2, 1, [], []), (114, .isub, 1, [], []), (115, .invokestatic 108, 3, [12, 488], []), (118, .aload_n 0, 1, [], []), (119, .getfield 31, 3, [6, 0, 3, 223], []), (122, .getfield 113, 3, [3, 13, 0, 143], []), (125, .if_icmp .le 6, 3, [131], [])],
  [(128, .bipush 6, 2, [], []), (130, .ireturn, 1, [1], []), (131, .iinc 4 1, 3, [], []), (134, .goto (-49), 3, [85], []), (137, .aload_n 0, 1, [], []), (138, .iload_n 1, 1, [], []), (139, .iload_n 2, 1, [], []), (140, .invokevirtual 159, 3, [0, 2, 1, 6, 0, 491], [m_X8_opponents]), (143, .ifCond .ne 7, 3, [150], [])],
  [(146, .iconst 0, 1, [], []), (147, .goto 5, 3, [152], []), (150, .bipush 7, 2, [], []), (152, .ireturn, 1, [1], [])]]
theorem k_X8_whyNotBegin : CdOk m_X8_whyNotBegin c_X8_whyNotBegin := ⟨by decide +kernel, allM_of ⟨o_X11_isIn, ⟨o_X8_isUp, ⟨o_X5_isReader, ⟨o_X5_neighboursOf, ⟨o_J6_bitCount_0f7a4, ⟨o_X8_opponents, trivial⟩⟩⟩⟩⟩⟩⟩
def c_X3_add : Cd := [
  [(0, .aload_n 0, 1, [], []), (1, .aload_n 0, 1, [], []), (2, .getfield 19, 3, [1, 2, 0, 209], []), (5, .iconst 1, 1, [], []), (6, .iadd, 1, [], []), (7, .bipush 30, 2, [], []), (9, .irem, 1, [], []), (10, .putfield 19, 3, [1, 2, 0, 209], []), (13, .aload_n 0, 1, [], []), (14, .getfield 19, 3, [1, 2, 0, 209], [])],
  [(17, .iconst 4, 1, [], []), (18, .imul, 1, [], []), (19, .istore 5, 2, [], []), (21, .aload_n 0, 1, [], []), (22, .getfield 11, 3, [1, 0, 3, 205], []), (25, .iload 5, 2, [], []), (27, .iload_n 1, 1, [], []), (28, .iastore, 1, [], []), (29, .aload_n 0, 1, [], []), (30, .getfield 11, 3, [1, 0, 3, 205], [])],
  [(33, .iload 5, 2, [], []), (35, .iconst 1, 1, [], []), (36, .iadd, 1, [], []), (37, .iload_n 2, 1, [], []), (38, .iastore, 1, [], []), (39, .aload_n 0, 1, [], []), (40, .getfield 11, 3, [1, 0, 3, 205], []), (43, .iload 5, 2, [], []), (45, .iconst 2, 1, [], []), (46, .iadd, 1, [], []), (47, .iload_n 3, 1, [], [])],
  [(48, .iastore, 1, [], []), (49, .aload_n 0, 1, [], []), (50, .getfield 11, 3, [1, 0, 3, 205], []), (53, .iload 5, 2, [], []), (55, .iconst 3, 1, [], []), (56, .iadd, 1, [], []), (57, .iload 4, 2, [], []), (59, .iastore, 1, [], []), (60, .aload_n 0, 1, [], []), (61, .aload_n 0, 1, [], []), (62, .getfield 15, 3, [1, 1, 0, 206], [])],
  [(65, .iconst 1, 1, [], []), (66, .iadd, 1, [], []), (67, .bipush 30, 2, [], []), (69, .invokestatic 26, 3, [10, 584], []), (72, .putfield 15, 3, [1, 1, 0, 206], []), (75, .return_, 1, [], [])]]
theorem k_X3_add : CdOk m_X3_add c_X3_add := ⟨by decide +kernel, allM_of trivial⟩
