def bX0_bedCount_0 : CD := [(0, .iconst (0)), (1, .istore 1), (2, .iconst (0)), (3, .istore 2), (4, .goto_w 100004)]
def bX0_bedCount_1 : CD := [(4, .iload 2), (5, .aload 0), (6, .getfield 4), (9, .if_icmp .ge 2), (12, .iload 1), (13, .aload 0), (14, .getstatic 3), (17, .iload 2), (18, .iaload), (19, .iadd), (20, .istore 1), (21, .iinc 2 (1)), (24, .goto 100004)]
def bX0_bedCount_2 : CD := [(27, .iload 1), (28, .ireturn)]
def bX0_bedCount : List CD := [bX0_bedCount_0, bX0_bedCount_1, bX0_bedCount_2]
theorem kX0_bedCount : bX0_bedCount.all (chkL 0 false cX0_bedCount bX0_bedCount) = true := by decide +kernel
theorem mX0_bedCount : MB 5 bX0_bedCount 1 3 := ⟨by decide, by decide +kernel, kX0_bedCount, rfl, rfl⟩
def bX0_lyingIn_0 : CD := [(0, .iconst (0)), (1, .istore 2), (2, .iconst (0)), (3, .istore 3), (4, .goto_w 100004)]
def bX0_lyingIn_1 : CD := [(4, .iload 3), (5, .aload 0), (6, .getfield 1), (9, .if_icmp .ge 3), (12, .aload 0), (13, .getstatic 0), (16, .iload 3), (17, .aaload), (18, .getfield 104), (21, .iload 1), (22, .if_icmp .ne 2), (25, .iinc 2 (1)), (28, .goto_w 2)]
def bX0_lyingIn_2 : CD := [(28, .iinc 3 (1)), (31, .goto 100004)]
def bX0_lyingIn_3 : CD := [(34, .iload 2), (35, .ireturn)]
def bX0_lyingIn : List CD := [bX0_lyingIn_0, bX0_lyingIn_1, bX0_lyingIn_2, bX0_lyingIn_3]
theorem kX0_lyingIn : bX0_lyingIn.all (chkL 0 false cX0_lyingIn bX0_lyingIn) = true := by decide +kernel
theorem mX0_lyingIn : MB 6 bX0_lyingIn 1 4 := ⟨by decide, by decide +kernel, kX0_lyingIn, rfl, rfl⟩
def bX1_begin_0 : CD := [(0, .aload 0), (1, .iload 1), (2, .putfield 100), (5, .aload 0), (6, .iload 2), (7, .putfield 101), (10, .aload 0), (11, .iload 3), (12, .instanceof 102), (15, .aload 0), (16, .iconst (0)), (17, .putfield 103), (20, .aload 0), (21, .iconst (-1)), (22, .putfield 104), (25, .aload 0), (26, .iconst (0)), (27, .putfield 105), (30, .aload 0), (31, .iconst (10)), (33, .putfield 106), (36, .aload 0), (37, .iconst (0)), (38, .putfield 107), (41, .aload 0), (42, .iconst (-1)), (43, .putfield 108), (46, .aload 0), (47, .iconst (10)), (49, .putfield 109), (52, .aload 0), (53, .iconst (0)), (54, .putfield 110), (57, .aload 0), (58, .iconst (0)), (59, .putfield 111), (62, .aload 0), (63, .iconst (0)), (64, .instanceof 112), (67, .aload 0), (68, .iconst (-1)), (69, .putfield 113), (72, .aload 0), (73, .iconst (0)), (74, .instanceof 114), (77, .aload 0), (78, .iconst (0)), (79, .putfield 115), (82, .aload 0), (83, .iconst (0)), (84, .putfield 116), (87, .return_)]
def bX1_begin : List CD := [bX1_begin_0]
theorem kX1_begin : bX1_begin.all (chkL 1 false cX1_begin bX1_begin) = true := by decide +kernel
theorem mX1_begin : MB 11 bX1_begin 0 4 := ⟨by decide, by decide +kernel, kX1_begin, rfl, rfl⟩
def bX1_isBarredFrom_0 : CD := [(0, .aload 0), (1, .getfield 103), (4, .iload 1), (5, .ishr), (6, .iconst (1)), (7, .iand), (8, .ifCond .eq 1), (11, .iconst (1)), (12, .goto 2)]
def bX1_isBarredFrom_1 : CD := [(15, .iconst (0)), (16, .goto_w 2)]
def bX1_isBarredFrom_2 : CD := [(16, .ireturn)]
def bX1_isBarredFrom : List CD := [bX1_isBarredFrom_0, bX1_isBarredFrom_1, bX1_isBarredFrom_2]
theorem kX1_isBarredFrom : bX1_isBarredFrom.all (chkL 1 false cX1_isBarredFrom bX1_isBarredFrom) = true := by decide +kernel
theorem mX1_isBarredFrom : MB 13 bX1_isBarredFrom 2 2 := ⟨by decide, by decide +kernel, kX1_isBarredFrom, rfl, rfl⟩
def bX6_costOfAll_0 : CD := [(0, .iconst (0)), (1, .istore 1), (2, .iconst (0)), (3, .istore 2), (4, .goto_w 100004)]
def bX6_costOfAll_1 : CD := [(4, .iload 2), (5, .aload 0), (6, .getstatic 600), (9, .getfield 4), (12, .if_icmp .ge 2), (15, .iload 1), (16, .aload 0), (17, .iload 2), (18, .invokeinterface 44 7021), (21, .iadd), (22, .istore 1), (23, .iinc 2 (1)), (26, .goto 100004)]
def bX6_costOfAll_2 : CD := [(29, .iload 1), (30, .ireturn)]
def bX6_costOfAll : List CD := [bX6_costOfAll_0, bX6_costOfAll_1, bX6_costOfAll_2]
theorem kX6_costOfAll : bX6_costOfAll.all (chkL 6 false cX6_costOfAll bX6_costOfAll) = true := by decide +kernel
theorem mX6_costOfAll : MB 43 bX6_costOfAll 1 3 := ⟨by decide, by decide +kernel, kX6_costOfAll, rfl, rfl⟩
def bX6_costOf_0 : CD := [(0, .iconst (0)), (1, .istore 2), (2, .iconst (0)), (3, .istore 3), (4, .iconst (0)), (5, .istore 4), (7, .goto_w 100007)]
def bX6_costOf_1 : CD := [(7, .iload 4), (9, .aload 0), (10, .getstatic 600), (13, .getfield 1), (16, .if_icmp .ge 3), (19, .aload 0), (20, .getstatic 600), (23, .getstatic 0), (26, .iload 4), (28, .aaload), (29, .getfield 104), (32, .iload 1), (33, .if_icmp .ne 2), (36, .iload 3), (37, .aload 0), (38, .iload 4), (40, .invokeinterface 47 7021), (43, .iadd), (44, .istore 3), (45, .iload 2), (46, .aload 0), (47, .iload 4), (49, .iload 1), (50, .invokeinterface 45 7031), (53, .iadd), (54, .istore 2), (55, .goto_w 2)]
def bX6_costOf_2 : CD := [(55, .iinc 4 (1)), (58, .goto 100007)]
def bX6_costOf_3 : CD := [(61, .iload 2), (62, .iload 3), (63, .invokeinterface 48 11), (66, .iadd), (67, .ireturn)]
def bX6_costOf : List CD := [bX6_costOf_0, bX6_costOf_1, bX6_costOf_2, bX6_costOf_3]
theorem kX6_costOf : bX6_costOf.all (chkL 6 false cX6_costOf bX6_costOf) = true := by decide +kernel
theorem mX6_costOf : MB 44 bX6_costOf 1 5 := ⟨by decide, by decide +kernel, kX6_costOf, rfl, rfl⟩
def bX6_costBehind_0 : CD := [(0, .iconst (0)), (1, .istore 3), (2, .iload 1), (3, .iconst (1)), (4, .iadd), (5, .istore 4), (7, .goto_w 100007)]
def bX6_costBehind_1 : CD := [(7, .iload 4), (9, .aload 0), (10, .getstatic 600), (13, .getfield 1), (16, .if_icmp .ge 3), (19, .aload 0), (20, .getstatic 600), (23, .getstatic 0), (26, .iload 4), (28, .aaload), (29, .getfield 104), (32, .iload 2), (33, .if_icmp .ne 2), (36, .iload 3), (37, .aload 0), (38, .iload 1), (39, .iload 4), (41, .invokeinterface 46 7031), (44, .iadd), (45, .istore 3), (46, .goto_w 2)]
def bX6_costBehind_2 : CD := [(46, .iinc 4 (1)), (49, .goto 100007)]
def bX6_costBehind_3 : CD := [(52, .iload 3), (53, .ireturn)]
def bX6_costBehind : List CD := [bX6_costBehind_0, bX6_costBehind_1, bX6_costBehind_2, bX6_costBehind_3]
theorem kX6_costBehind : bX6_costBehind.all (chkL 6 false cX6_costBehind bX6_costBehind) = true := by decide +kernel
theorem mX6_costBehind : MB 45 bX6_costBehind 1 5 := ⟨by decide, by decide +kernel, kX6_costBehind, rfl, rfl⟩
def bX6_between_0 : CD := [(0, .aload 0), (1, .getstatic 600), (4, .getstatic 0), (7, .iload 1), (8, .aaload), (9, .astore 3), (10, .aload 0), (11, .getstatic 600), (14, .getstatic 0), (17, .iload 2), (18, .aaload), (19, .astore 4), (21, .aload 3), (22, .getfield 100), (25, .aload 4), (27, .getfield 100), (30, .if_icmp .ne 1), (33, .iconst (30)), (35, .goto 2)]
def bX6_between_1 : CD := [(38, .iconst (0)), (39, .goto_w 2)]
def bX6_between_2 : CD := [(39, .istore 5), (41, .aload 3), (42, .iload 2), (43, .invokeinterface 13 2021), (46, .ifCond .eq 3), (49, .iinc 5 (300)), (55, .goto_w 3)]
def bX6_between_3 : CD := [(55, .iload 5), (57, .iconst (5)), (58, .iconst (0)), (59, .aload 3), (60, .getfield 101), (63, .aload 4), (65, .getfield 101), (68, .isub), (69, .fneg), (72, .iconst (2)), (73, .isub), (74, .fadd), (77, .imul), (78, .iadd), (79, .ireturn)]
def bX6_between : List CD := [bX6_between_0, bX6_between_1, bX6_between_2, bX6_between_3]
theorem kX6_between : bX6_between.all (chkL 6 false cX6_between bX6_between) = true := by decide +kernel
theorem mX6_between : MB 46 bX6_between 1 6 := ⟨by decide, by decide +kernel, kX6_between, rfl, rfl⟩
def bX6_shyness_0 : CD := [(0, .aload 0), (1, .getstatic 600), (4, .getstatic 0), (7, .iload 1), (8, .aaload), (9, .getfield 102), (12, .ifCond .eq 1), (15, .iconst (1)), (16, .goto 2)]
def bX6_shyness_1 : CD := [(19, .iconst (0)), (20, .goto_w 2)]
def bX6_shyness_2 : CD := [(20, .ireturn)]
def bX6_shyness : List CD := [bX6_shyness_0, bX6_shyness_1, bX6_shyness_2]
theorem kX6_shyness : bX6_shyness.all (chkL 6 false cX6_shyness bX6_shyness) = true := by decide +kernel
theorem mX6_shyness : MB 47 bX6_shyness 1 2 := ⟨by decide, by decide +kernel, kX6_shyness, rfl, rfl⟩
def bX6_lonely_0 : CD := [(0, .iload 0), (1, .iconst (1)), (2, .if_icmp .ne 1), (5, .iconst (12)), (7, .goto 2)]
def bX6_lonely_1 : CD := [(10, .iconst (0)), (11, .goto_w 2)]
def bX6_lonely_2 : CD := [(11, .ireturn)]
def bX6_lonely : List CD := [bX6_lonely_0, bX6_lonely_1, bX6_lonely_2]
theorem kX6_lonely : bX6_lonely.all (chkL 6 false cX6_lonely bX6_lonely) = true := by decide +kernel
theorem mX6_lonely : MB 48 bX6_lonely 1 1 := ⟨by decide, by decide +kernel, kX6_lonely, rfl, rfl⟩
def bX10_within_0 : CD := [(0, .iload 0), (1, .iload 1), (2, .if_icmp .lt 1), (5, .iload 0), (6, .iload 2), (7, .if_icmp .gt 1), (10, .iconst (1)), (11, .goto 2)]
def bX10_within_1 : CD := [(14, .iconst (0)), (15, .goto_w 2)]
def bX10_within_2 : CD := [(15, .ireturn)]
def bX10_within : List CD := [bX10_within_0, bX10_within_1, bX10_within_2]
theorem kX10_within : bX10_within.all (chkL 10 false cX10_within bX10_within) = true := by decide +kernel
theorem mX10_within : MB 99 bX10_within 2 3 := ⟨by decide, by decide +kernel, kX10_within, rfl, rfl⟩
def bX10_child_0 : CD := [(0, .aload 0), (1, .getstatic 1000), (4, .getfield 1), (7, .iconst (24)), (9, .if_icmp .ge 1), (12, .iload 1), (13, .iconst (0)), (14, .iconst (5)), (15, .invokeinterface 99 31), (18, .ifCond .eq 1), (21, .iload 2), (22, .iconst (8)), (24, .iconst (17)), (26, .invokeinterface 99 31), (29, .ifCond .ne 2), (32, .goto_w 1)]
def bX10_child_1 : CD := [(32, .iconst (-1)), (33, .ireturn)]
def bX10_child_2 : CD := [(34, .aload 0), (35, .getstatic 1000), (38, .getfield 1), (41, .istore 4), (43, .aload 0), (44, .getstatic 1000), (47, .getstatic 0), (50, .iload 4), (52, .aaload), (53, .iload 1), (54, .iload 2), (55, .iload 3), (56, .invokeinterface 11 2040), (59, .aload 0), (60, .getstatic 1000), (63, .iload 4), (65, .iconst (1)), (66, .iadd), (67, .putfield 1), (70, .iload 4), (72, .ireturn)]
def bX10_child : List CD := [bX10_child_0, bX10_child_1, bX10_child_2]
theorem kX10_child : bX10_child.all (chkL 10 false cX10_child bX10_child) = true := by decide +kernel
theorem mX10_child : MB 100 bX10_child 1 5 := ⟨by decide, by decide +kernel, kX10_child, rfl, rfl⟩
def bX11_in_0 : CD := [(0, .iload 0), (1, .iload 1), (2, .if_icmp .lt 1), (5, .iload 0), (6, .iload 2), (7, .if_icmp .gt 1), (10, .iconst (1)), (11, .goto 2)]
def bX11_in_1 : CD := [(14, .iconst (0)), (15, .goto_w 2)]
def bX11_in_2 : CD := [(15, .ireturn)]
def bX11_in : List CD := [bX11_in_0, bX11_in_1, bX11_in_2]
theorem kX11_in : bX11_in.all (chkL 11 false cX11_in bX11_in) = true := by decide +kernel
theorem mX11_in : MB 136 bX11_in 2 3 := ⟨by decide, by decide +kernel, kX11_in, rfl, rfl⟩
def bX11_child_0 : CD := [(0, .aload 0), (1, .iconst (0)), (2, .putfield 1100), (5, .aload 0), (6, .getstatic 1105), (9, .iconst (0)), (10, .iaload), (11, .iconst (24)), (13, .if_icmp .eq 1), (16, .iload 1), (17, .iconst (0)), (18, .iconst (5)), (19, .invokeinterface 136 31), (22, .ifCond .eq 1), (25, .iload 2), (26, .iconst (8)), (28, .iconst (17)), (30, .invokeinterface 136 31), (33, .ifCond .ne 2), (36, .goto_w 1)]
def bX11_child_1 : CD := [(36, .iconst (-1)), (37, .ireturn)]
def bX11_child_2 : CD := [(38, .aload 0), (39, .getstatic 1105), (42, .iconst (0)), (43, .iaload), (44, .istore 4), (46, .aload 0), (47, .getstatic 1105), (50, .iconst (0)), (51, .dup2), (52, .iaload), (53, .iconst (1)), (54, .iadd), (55, .iastore), (56, .aload 0), (57, .getstatic 1106), (60, .iload 4), (62, .iload 1), (63, .iastore), (64, .aload 0), (65, .getstatic 1107), (68, .iload 4), (70, .iload 2), (71, .iastore), (72, .aload 0), (73, .getstatic 1108), (76, .iload 4), (78, .iload 3), (79, .bastore), (80, .aload 0), (81, .getstatic 1109), (84, .iload 4), (86, .iconst (-1)), (87, .iastore), (88, .aload 0), (89, .getstatic 1110), (92, .iload 4), (94, .iconst (0)), (95, .iastore), (96, .aload 0), (97, .getstatic 1111), (100, .iload 4), (102, .iconst (10)), (104, .iastore), (105, .aload 0), (106, .getstatic 1112), (109, .iload 4), (111, .iconst (0)), (112, .iastore), (113, .aload 0), (114, .getstatic 1113), (117, .iload 4), (119, .iconst (-1)), (120, .iastore), (121, .aload 0), (122, .getstatic 1114), (125, .iload 4), (127, .iconst (10)), (129, .iastore), (130, .aload 0), (131, .getstatic 1115), (134, .iload 4), (136, .iconst (0)), (137, .iastore), (138, .aload 0), (139, .getstatic 1116), (142, .iload 4), (144, .iconst (0)), (145, .iastore), (146, .aload 0), (147, .getstatic 1117), (150, .iload 4), (152, .iconst (0)), (153, .bastore), (154, .aload 0), (155, .getstatic 1118), (158, .iload 4), (160, .iconst (-1)), (161, .iastore), (162, .aload 0), (163, .getstatic 1120), (166, .iload 4), (168, .iconst (0)), (169, .iastore), (170, .aload 0), (171, .getstatic 1138), (174, .iload 4), (176, .iconst (0)), (177, .bastore), (178, .iconst (0)), (179, .istore 5), (181, .goto_w 100181)]
def bX11_child_3 : CD := [(181, .iload 5), (183, .iconst (8)), (185, .if_icmp .ge 4), (188, .aload 0), (189, .getstatic 1137), (192, .iconst (24)), (194, .iload 5), (196, .imul), (197, .iload 4), (199, .iadd), (200, .iconst (0)), (201, .iastore), (202, .iinc 5 (1)), (205, .goto 100181)]
def bX11_child_4 : CD := [(208, .iload 4), (210, .ireturn)]
def bX11_child : List CD := [bX11_child_0, bX11_child_1, bX11_child_2, bX11_child_3, bX11_child_4]
theorem kX11_child : bX11_child.all (chkL 11 false cX11_child bX11_child) = true := by decide +kernel
theorem mX11_child : MB 142 bX11_child 1 6 := ⟨by decide, by decide +kernel, kX11_child, rfl, rfl⟩
