/-! ===== the constructors, by number ===== -/
def bm_X1_init : MI := (yX1_init, cX1_init, 3, none, 1, 20, 0, [], 1)
def bm_X3_init : MI := (yX3_init, cX3_init, 1, none, 1, 20, 21, [], 1)
def bm_X4_init : MI := (yX4_init, cX4_init, 3, none, 3, 61, 224, [], 1)
def bm_X5_init : MI := (yX5_init, cX5_init, 1, none, 2, 41, 27, [], 1)
def bm_X5_reset : MI := (yX5_reset, cX5_reset, 1, none, 0, 0, 0, [], 1)
def bm_X6_init : MI := (yX6_init, cX6_init, 2, none, 1, 20, 3, [], 1)
def bm_X7_init : MI := (yX7_init, cX7_init, 1, none, 1, 20, 32, [], 1)
def bm_X8_init : MI := (yX8_init, cX8_init, 2, none, 2, 40, 34, [], 1)
def bm_X8_reset : MI := (yX8_reset, cX8_reset, 1, none, 0, 0, 0, [], 1)
def bm_X10_init : MI := (yX10_init, cX10_init, 1, none, 1, 20, 151, [], 1)
def bm_X11_init : MI := (yX11_init, cX11_init, 1, none, 4, 83, 711, [], 1)
def be_X1_init : List BE := [(0, .aload_n 0, 1, []), (1, .invokespecial 3, 3, [307]), (4, .aload_n 0, 1, []), (5, .iconst 0, 1, []), (6, .putfield 9, 3, [0, 3, 0, 311]), (9, .aload_n 0, 1, []), (10, .aload_n 1, 1, []), (11, .putfield 15, 3, [0, 0, 3, 308]), (14, .aload_n 0, 1, []), (15, .aload_n 2, 1, []), (16, .putfield 19, 3, [0, 1, 3, 309]), (19, .aload_n 0, 1, []), (20, .aload_n 2, 1, []), (21, .getfield 23, 3, [6, 0, 223]), (24, .putfield 29, 3, [0, 2, 3, 310]), (27, .return_, 1, [])]
def be_X3_init : List BE := [(0, .aload_n 0, 1, []), (1, .invokespecial 3, 3, [206]), (4, .aload_n 0, 1, []), (5, .bipush 120, 2, []), (7, .newarray .int, 2, [0, 196]), (9, .putfield 11, 3, [1, 0, 3, 207]), (12, .aload_n 0, 1, []), (13, .iconst 0, 1, []), (14, .putfield 15, 3, [1, 1, 0, 208]), (17, .aload_n 0, 1, []), (18, .iconst 0, 1, []), (19, .putfield 19, 3, [1, 2, 0, 211]), (22, .return_, 1, [])]
def be_X4_init : List BE := [(0, .aload_n 0, 1, []), (1, .invokespecial 3, 3, [287]), (4, .aload_n 0, 1, []), (5, .bipush 6, 2, []), (7, .anewarray 9, 3, [4, 288]), (10, .putfield 11, 3, [2, 0, 3, 291]), (13, .aload_n 0, 1, []), (14, .iconst 0, 1, []), (15, .putfield 17, 3, [2, 1, 0, 292]), (18, .aload_n 0, 1, []), (19, .iconst 0, 1, []), (20, .putfield 21, 3, [2, 2, 0, 294]), (23, .iconst 0, 1, []), (24, .istore_n 2, 1, []), (25, .iload_n 2, 1, []), (26, .aload_n 0, 1, []), (27, .getfield 11, 3, [2, 0, 291]), (30, .arraylength, 1, []), (31, .if_icmp .ge 23, 3, [54]), (34, .aload_n 0, 1, []), (35, .getfield 11, 3, [2, 0, 291]), (38, .iload_n 2, 1, []), (39, .new 9, 3, [6, 288, 84, 22]), (42, .dup, 1, []), (43, .aload_n 1, 1, []), (44, .invokespecial 24, 3, [7, 1, 290]), (47, .aastore, 1, []), (48, .iinc 2 1, 3, []), (51, .goto (-26), 3, [25]), (54, .return_, 1, [])]
def be_X5_init : List BE := [(0, .aload_n 0, 1, []), (1, .invokespecial 3, 3, [90]), (4, .aload_n 0, 1, []), (5, .new 9, 3, [4, 91, 92, 24]), (8, .dup, 1, []), (9, .bipush 8, 2, []), (11, .invokespecial 11, 3, [5, 1, 93]), (14, .putfield 14, 3, [3, 0, 3, 113]), (17, .aload_n 0, 1, []), (18, .bipush 8, 2, []), (20, .newarray .int, 2, [0, 196]), (22, .putfield 20, 3, [3, 1, 3, 116]), (25, .aload_n 0, 1, []), (26, .bipush 8, 2, []), (28, .newarray .int, 2, [0, 196]), (30, .putfield 24, 3, [3, 2, 3, 117]), (33, .aload_n 0, 1, []), (34, .bipush 8, 2, []), (36, .newarray .int, 2, [0, 196]), (38, .putfield 27, 3, [3, 3, 3, 118]), (41, .aload_n 0, 1, []), (42, .new 9, 3, [4, 91, 92, 24]), (45, .dup, 1, []), (46, .iconst 5, 1, []), (47, .invokespecial 11, 3, [5, 1, 93]), (50, .putfield 30, 3, [3, 4, 3, 119]), (53, .aload_n 0, 1, []), (54, .iconst 5, 1, []), (55, .newarray .int, 2, [0, 196]), (57, .putfield 33, 3, [3, 5, 3, 122]), (60, .aload_n 0, 1, []), (61, .iconst 5, 1, []), (62, .newarray .int, 2, [0, 196]), (64, .putfield 36, 3, [3, 6, 3, 124]), (67, .aload_n 0, 1, []), (68, .iconst 5, 1, []), (69, .newarray .int, 2, [0, 196]), (71, .putfield 39, 3, [3, 7, 3, 126]), (74, .aload_n 0, 1, []), (75, .new 9, 3, [4, 91, 92, 24]), (78, .dup, 1, []), (79, .bipush 12, 2, []), (81, .invokespecial 11, 3, [5, 1, 93]), (84, .putfield 42, 3, [3, 8, 3, 128]), (87, .aload_n 0, 1, []), (88, .bipush 12, 2, []), (90, .newarray .int, 2, [0, 196]), (92, .putfield 45, 3, [3, 9, 3, 132]), (95, .aload_n 0, 1, []), (96, .bipush 12, 2, []), (98, .newarray .int, 2, [0, 196]), (100, .putfield 48, 3, [3, 10, 3, 135]), (103, .aload_n 0, 1, []), (104, .invokevirtual 51, 3, [4, 0, 109]), (107, .return_, 1, [])]
def be_X5_reset : List BE := [(0, .aload_n 0, 1, []), (1, .getfield 14, 3, [3, 0, 113]), (4, .iconst 0, 1, []), (5, .putfield 54, 3, [4, 1, 0, 99]), (8, .aload_n 0, 1, []), (9, .getfield 30, 3, [3, 4, 119]), (12, .iconst 0, 1, []), (13, .putfield 54, 3, [4, 1, 0, 99]), (16, .aload_n 0, 1, []), (17, .getfield 42, 3, [3, 8, 128]), (20, .iconst 0, 1, []), (21, .putfield 54, 3, [4, 1, 0, 99]), (24, .aload_n 0, 1, []), (25, .iconst 0, 1, []), (26, .putfield 58, 3, [3, 11, 0, 139]), (29, .aload_n 0, 1, []), (30, .iconst 0, 1, []), (31, .putfield 61, 3, [3, 12, 0, 141]), (34, .aload_n 0, 1, []), (35, .iconst 1, 1, []), (36, .putfield 64, 3, [3, 13, 0, 144]), (39, .aload_n 0, 1, []), (40, .iconst 1, 1, []), (41, .putfield 67, 3, [3, 14, 0, 147]), (44, .aload_n 0, 1, []), (45, .iconst 5, 1, []), (46, .putfield 70, 3, [3, 15, 0, 150]), (49, .aload_n 0, 1, []), (50, .bipush 10, 2, []), (52, .putfield 73, 3, [3, 16, 0, 153]), (55, .aload_n 0, 1, []), (56, .bipush 50, 2, []), (58, .putfield 76, 3, [3, 17, 0, 156]), (61, .return_, 1, [])]
def be_X6_init : List BE := [(0, .aload_n 0, 1, []), (1, .invokespecial 3, 3, [96]), (4, .aload_n 0, 1, []), (5, .iconst 0, 1, []), (6, .putfield 9, 3, [4, 1, 0, 98]), (9, .aload_n 0, 1, []), (10, .iload_n 1, 1, []), (11, .newarray .long, 2, [2, 108]), (13, .putfield 15, 3, [4, 0, 3, 97]), (16, .return_, 1, [])]
def be_X7_init : List BE := [(0, .aload_n 0, 1, []), (1, .invokespecial 3, 3, [326]), (4, .aload_n 0, 1, []), (5, .bipush 30, 2, []), (7, .anewarray 9, 3, [5, 327]), (10, .putfield 11, 3, [5, 0, 3, 329]), (13, .aload_n 0, 1, []), (14, .bipush 30, 2, []), (16, .newarray .int, 2, [0, 196]), (18, .putfield 17, 3, [5, 1, 3, 330]), (21, .aload_n 0, 1, []), (22, .bipush 30, 2, []), (24, .newarray .int, 2, [0, 196]), (26, .putfield 21, 3, [5, 2, 3, 331]), (29, .aload_n 0, 1, []), (30, .bipush 30, 2, []), (32, .newarray .int, 2, [0, 196]), (34, .putfield 24, 3, [5, 3, 3, 332]), (37, .aload_n 0, 1, []), (38, .bipush 30, 2, []), (40, .newarray .int, 2, [0, 196]), (42, .putfield 27, 3, [5, 4, 3, 333]), (45, .aload_n 0, 1, []), (46, .iconst 0, 1, []), (47, .putfield 30, 3, [5, 5, 0, 334]), (50, .aload_n 0, 1, []), (51, .iconst 2, 1, []), (52, .newarray .int, 2, [0, 196]), (54, .putfield 34, 3, [5, 6, 3, 335]), (57, .aload_n 0, 1, []), (58, .iconst 2, 1, []), (59, .newarray .int, 2, [0, 196]), (61, .putfield 37, 3, [5, 7, 3, 336]), (64, .aload_n 0, 1, []), (65, .iconst 0, 1, []), (66, .putfield 40, 3, [5, 8, 0, 337]), (69, .aload_n 0, 1, []), (70, .iconst 0, 1, []), (71, .putfield 43, 3, [5, 9, 0, 338]), (74, .return_, 1, [])]
def be_X8_init : List BE := [(0, .aload_n 0, 1, []), (1, .invokespecial 3, 3, [200]), (4, .aload_n 0, 1, []), (5, .bipush 12, 2, []), (7, .newarray .int, 2, [0, 196]), (9, .putfield 9, 3, [6, 3, 3, 231]), (12, .aload_n 0, 1, []), (13, .bipush 12, 2, []), (15, .newarray .int, 2, [0, 196]), (17, .putfield 15, 3, [6, 4, 3, 233]), (20, .aload_n 0, 1, []), (21, .bipush 12, 2, []), (23, .newarray .int, 2, [0, 196]), (25, .putfield 18, 3, [6, 5, 3, 234]), (28, .aload_n 0, 1, []), (29, .bipush 12, 2, []), (31, .newarray .int, 2, [0, 196]), (33, .putfield 21, 3, [6, 6, 3, 235]), (36, .aload_n 0, 1, []), (37, .new 24, 3, [1, 201, 202, 25]), (40, .dup, 1, []), (41, .invokespecial 26, 3, [1, 0, 90001]), (44, .putfield 27, 3, [6, 15, 3, 247]), (47, .aload_n 0, 1, []), (48, .aload_n 1, 1, []), (49, .putfield 31, 3, [6, 0, 3, 225]), (52, .aload_n 0, 1, []), (53, .invokevirtual 35, 3, [8, 0, 219]), (56, .return_, 1, [])]
def be_X8_reset : List BE := [(0, .aload_n 0, 1, []), (1, .iconst 0, 1, []), (2, .putfield 38, 3, [6, 1, 0, 226]), (5, .aload_n 0, 1, []), (6, .iconst 1, 1, []), (7, .putfield 42, 3, [6, 2, 0, 228]), (10, .aload_n 0, 1, []), (11, .iconst 0, 1, []), (12, .putfield 45, 3, [6, 7, 0, 236]), (15, .aload_n 0, 1, []), (16, .iconst 0, 1, []), (17, .putfield 48, 3, [6, 8, 0, 238]), (20, .aload_n 0, 1, []), (21, .iconst 0, 1, []), (22, .putfield 51, 3, [6, 9, 0, 240]), (25, .aload_n 0, 1, []), (26, .iconst (-1), 1, []), (27, .putfield 54, 3, [6, 10, 0, 242]), (30, .aload_n 0, 1, []), (31, .iconst (-1), 1, []), (32, .putfield 57, 3, [6, 11, 0, 243]), (35, .aload_n 0, 1, []), (36, .iconst 0, 1, []), (37, .putfield 60, 3, [6, 12, 1, 244]), (40, .aload_n 0, 1, []), (41, .iconst (-1), 1, []), (42, .putfield 64, 3, [6, 13, 0, 245]), (45, .aload_n 0, 1, []), (46, .iconst (-1), 1, []), (47, .putfield 67, 3, [6, 14, 0, 246]), (50, .aload_n 0, 1, []), (51, .getfield 27, 3, [6, 15, 247]), (54, .iconst 0, 1, []), (55, .putfield 70, 3, [1, 1, 0, 209]), (58, .return_, 1, [])]
def be_X10_init : List BE := [(0, .aload_n 0, 1, []), (1, .invokespecial 3, 3, [51]), (4, .aload_n 0, 1, []), (5, .sipush 900, 3, []), (8, .newarray .byte, 2, [1, 82]), (10, .putfield 9, 3, [7, 0, 3, 52]), (13, .aload_n 0, 1, []), (14, .iconst 0, 1, []), (15, .putfield 15, 3, [7, 1, 0, 53]), (18, .aload_n 0, 1, []), (19, .iconst 0, 1, []), (20, .putfield 19, 3, [7, 2, 0, 55]), (23, .aload_n 0, 1, []), (24, .iconst (-1), 1, []), (25, .putfield 22, 3, [7, 3, 0, 56]), (28, .aload_n 0, 1, []), (29, .iconst 0, 1, []), (30, .putfield 25, 3, [7, 4, 0, 57]), (33, .aload_n 0, 1, []), (34, .iconst 0, 1, []), (35, .putfield 28, 3, [7, 5, 0, 59]), (38, .aload_n 0, 1, []), (39, .lconst 0, 1, []), (40, .putfield 31, 3, [7, 6, 2, 60]), (43, .aload_n 0, 1, []), (44, .iconst 0, 1, []), (45, .putfield 35, 3, [7, 7, 0, 61]), (48, .aload_n 0, 1, []), (49, .iconst 0, 1, []), (50, .putfield 38, 3, [7, 8, 0, 62]), (53, .return_, 1, [])]
def be_X11_init : List BE := [(0, .aload_n 0, 1, []), (1, .invokespecial 1, 3, [43]), (4, .aload_n 0, 1, []), (5, .new 7, 3, [7, 46, 47, 21]), (8, .dup, 1, []), (9, .invokespecial 9, 3, [9, 0, 90000]), (12, .putfield 10, 3, [8, 0, 3, 360]), (15, .aload_n 0, 1, []), (16, .new 16, 3, [6, 83, 84, 22]), (19, .dup, 1, []), (20, .new 18, 3, [3, 85, 86, 23]), (23, .dup, 1, []), (24, .invokespecial 20, 3, [3, 0, 87]), (27, .invokespecial 21, 3, [7, 1, 197]), (30, .putfield 24, 3, [8, 1, 3, 361]), (33, .aload_n 0, 1, []), (34, .new 16, 3, [6, 83, 84, 22]), (37, .dup, 1, []), (38, .aload_n 0, 1, []), (39, .getfield 24, 3, [8, 1, 361]), (42, .getfield 28, 3, [6, 0, 224]), (45, .invokespecial 21, 3, [7, 1, 197]), (48, .putfield 32, 3, [8, 2, 3, 362]), (51, .aload_n 0, 1, []), (52, .new 16, 3, [6, 83, 84, 22]), (55, .dup, 1, []), (56, .new 18, 3, [3, 85, 86, 23]), (59, .dup, 1, []), (60, .invokespecial 20, 3, [3, 0, 87]), (63, .invokespecial 21, 3, [7, 1, 197]), (66, .putfield 35, 3, [8, 3, 3, 363]), (69, .aload_n 0, 1, []), (70, .new 16, 3, [6, 83, 84, 22]), (73, .dup, 1, []), (74, .new 18, 3, [3, 85, 86, 23]), (77, .dup, 1, []), (78, .invokespecial 20, 3, [3, 0, 87]), (81, .invokespecial 21, 3, [7, 1, 197]), (84, .putfield 38, 3, [8, 4, 3, 364]), (87, .aload_n 0, 1, []), (88, .iconst 0, 1, []), (89, .putfield 41, 3, [8, 5, 1, 365]), (92, .aload_n 0, 1, []), (93, .new 45, 3, [2, 282, 283, 26]), (96, .dup, 1, []), (97, .aload_n 0, 1, []), (98, .getfield 24, 3, [8, 1, 361]), (101, .getfield 28, 3, [6, 0, 224]), (104, .invokespecial 47, 3, [2, 1, 284]), (107, .putfield 48, 3, [8, 6, 3, 366]), (110, .aload_n 0, 1, []), (111, .new 52, 3, [0, 302, 303, 27]), (114, .dup, 1, []), (115, .aload_n 0, 1, []), (116, .getfield 10, 3, [8, 0, 360]), (119, .aload_n 0, 1, []), (120, .getfield 35, 3, [8, 3, 363]), (123, .invokespecial 54, 3, [0, 2, 304]), (126, .putfield 57, 3, [8, 7, 3, 367]), (129, .aload_n 0, 1, []), (130, .new 61, 3, [5, 321, 322, 28]), (133, .dup, 1, []), (134, .invokespecial 63, 3, [6, 0, 90002]), (137, .putfield 64, 3, [8, 8, 3, 368]), (140, .aload_n 0, 1, []), (141, .sipush 336, 3, []), (144, .newarray .byte, 2, [1, 82]), (146, .putfield 68, 3, [8, 9, 3, 369]), (149, .aload_n 0, 1, []), (150, .iconst 0, 1, []), (151, .putfield 72, 3, [8, 10, 0, 370]), (154, .return_, 1, [])]
def bTc : BTab := fun k => match k with
  | 0 => (bm_X1_init, be_X1_init)
  | 1 => (bm_X3_init, be_X3_init)
  | 2 => (bm_X4_init, be_X4_init)
  | 3 => (bm_X5_init, be_X5_init)
  | 4 => (bm_X5_reset, be_X5_reset)
  | 5 => (bm_X6_init, be_X6_init)
  | 6 => (bm_X7_init, be_X7_init)
  | 7 => (bm_X8_init, be_X8_init)
  | 8 => (bm_X8_reset, be_X8_reset)
  | 9 => (bm_X10_init, be_X10_init)
  | _ => (bm_X11_init, be_X11_init)
theorem bk_0 : (bTc 0).2.all (okB bTc 0) = true := by decide +kernel
theorem bk_1 : (bTc 1).2.all (okB bTc 1) = true := by decide +kernel
theorem bk_2 : (bTc 2).2.all (okB bTc 2) = true := by decide +kernel
theorem bk_3 : (bTc 3).2.all (okB bTc 3) = true := by decide +kernel
theorem bk_4 : (bTc 4).2.all (okB bTc 4) = true := by decide +kernel
theorem bk_5 : (bTc 5).2.all (okB bTc 5) = true := by decide +kernel
theorem bk_6 : (bTc 6).2.all (okB bTc 6) = true := by decide +kernel
theorem bk_7 : (bTc 7).2.all (okB bTc 7) = true := by decide +kernel
theorem bk_8 : (bTc 8).2.all (okB bTc 8) = true := by decide +kernel
theorem bk_9 : (bTc 9).2.all (okB bTc 9) = true := by decide +kernel
theorem bk_10 : (bTc 10).2.all (okB bTc 10) = true := by decide +kernel
theorem bmk {M : MI} (h1 : headM M ∈ tbG) (h2 : Cond.initialized M.y.cls ∈ tbG) (h3 : plainName M.y.cls = true) (h4 : M.hh = []) (h5 : M.ret = none) (h6 : Cond.instanceMethod M.y ∈ tbG) (h7 : M.y.name = "<init>") : BMok M := ⟨h1, h2, h3, h4, h5, h6, fun h => absurd h7 h⟩
theorem bo_X1_init : BMok bm_X1_init := bmk (tbG_at (p := 306) (by decide +kernel)) (tbG_at (p := 27) (by decide +kernel)) (by decide +kernel) rfl rfl (tbG_at (p := 305) (by decide +kernel)) rfl
theorem bo_X3_init : BMok bm_X3_init := bmk (tbG_at (p := 205) (by decide +kernel)) (tbG_at (p := 25) (by decide +kernel)) (by decide +kernel) rfl rfl (tbG_at (p := 204) (by decide +kernel)) rfl
theorem bo_X4_init : BMok bm_X4_init := bmk (tbG_at (p := 286) (by decide +kernel)) (tbG_at (p := 26) (by decide +kernel)) (by decide +kernel) rfl rfl (tbG_at (p := 285) (by decide +kernel)) rfl
theorem bo_X5_init : BMok bm_X5_init := bmk (tbG_at (p := 89) (by decide +kernel)) (tbG_at (p := 23) (by decide +kernel)) (by decide +kernel) rfl rfl (tbG_at (p := 88) (by decide +kernel)) rfl
theorem bo_X5_reset : BMok bm_X5_reset := ⟨o_X5_reset.1, o_X5_reset.2.1, o_X5_reset.2.2.1, rfl, rfl, o_X5_reset.2.2.2.2.1, fun _ => o_X5_reset.2.2.2.2.2⟩
theorem bo_X6_init : BMok bm_X6_init := bmk (tbG_at (p := 95) (by decide +kernel)) (tbG_at (p := 24) (by decide +kernel)) (by decide +kernel) rfl rfl (tbG_at (p := 94) (by decide +kernel)) rfl
theorem bo_X7_init : BMok bm_X7_init := bmk (tbG_at (p := 325) (by decide +kernel)) (tbG_at (p := 28) (by decide +kernel)) (by decide +kernel) rfl rfl (tbG_at (p := 324) (by decide +kernel)) rfl
theorem bo_X8_init : BMok bm_X8_init := bmk (tbG_at (p := 199) (by decide +kernel)) (tbG_at (p := 22) (by decide +kernel)) (by decide +kernel) rfl rfl (tbG_at (p := 198) (by decide +kernel)) rfl
theorem bo_X8_reset : BMok bm_X8_reset := ⟨o_X8_reset.1, o_X8_reset.2.1, o_X8_reset.2.2.1, rfl, rfl, o_X8_reset.2.2.2.2.1, fun _ => o_X8_reset.2.2.2.2.2⟩
theorem bo_X10_init : BMok bm_X10_init := bmk (tbG_at (p := 50) (by decide +kernel)) (tbG_at (p := 21) (by decide +kernel)) (by decide +kernel) rfl rfl (tbG_at (p := 49) (by decide +kernel)) rfl
theorem bo_X11_init : BMok bm_X11_init := bmk (tbG_at (p := 42) (by decide +kernel)) (tbG_at (p := 20) (by decide +kernel)) (by decide +kernel) rfl rfl (tbG_at (p := 41) (by decide +kernel)) rfl
theorem bTc_ok : BTok bTc := by
  refine ⟨fun k hk => ?_, fun k hk => ?_⟩
  · match k, hk with
    | 0, _ => exact bk_0
    | 1, _ => exact bk_1
    | 2, _ => exact bk_2
    | 3, _ => exact bk_3
    | 4, _ => exact bk_4
    | 5, _ => exact bk_5
    | 6, _ => exact bk_6
    | 7, _ => exact bk_7
    | 8, _ => exact bk_8
    | 9, _ => exact bk_9
    | 10, _ => exact bk_10
  · match k, hk with
    | 0, _ => exact bo_X1_init
    | 1, _ => exact bo_X3_init
    | 2, _ => exact bo_X4_init
    | 3, _ => exact bo_X5_init
    | 4, _ => exact bo_X5_reset
    | 5, _ => exact bo_X6_init
    | 6, _ => exact bo_X7_init
    | 7, _ => exact bo_X8_init
    | 8, _ => exact bo_X8_reset
    | 9, _ => exact bo_X10_init
    | 10, _ => exact bo_X11_init
