def bX0_hasChild_0 : CD := [(0, .iload 1), (1, .ifCond .lt 1), (4, .iload 1), (5, .aload 0), (6, .getfield 1), (9, .if_icmp .ge 1), (12, .iconst (1)), (13, .goto 2)]
def bX0_hasChild_1 : CD := [(16, .iconst (0)), (17, .goto_w 2)]
def bX0_hasChild_2 : CD := [(17, .ireturn)]
def bX0_hasChild : List CD := [bX0_hasChild_0, bX0_hasChild_1, bX0_hasChild_2]
theorem kX0_hasChild : bX0_hasChild.all (chkL 0 false cX0_hasChild bX0_hasChild) = true := by decide +kernel
theorem mX0_hasChild : MB 2 bX0_hasChild 2 2 := ⟨by decide, by decide +kernel, kX0_hasChild, rfl, rfl⟩
def bX0_hasCabin_0 : CD := [(0, .iload 1), (1, .ifCond .lt 1), (4, .iload 1), (5, .aload 0), (6, .getfield 4), (9, .if_icmp .ge 1), (12, .iconst (1)), (13, .goto 2)]
def bX0_hasCabin_1 : CD := [(16, .iconst (0)), (17, .goto_w 2)]
def bX0_hasCabin_2 : CD := [(17, .ireturn)]
def bX0_hasCabin : List CD := [bX0_hasCabin_0, bX0_hasCabin_1, bX0_hasCabin_2]
theorem kX0_hasCabin : bX0_hasCabin.all (chkL 0 false cX0_hasCabin bX0_hasCabin) = true := by decide +kernel
theorem mX0_hasCabin : MB 3 bX0_hasCabin 2 2 := ⟨by decide, by decide +kernel, kX0_hasCabin, rfl, rfl⟩
def bX0_hasHost_0 : CD := [(0, .iload 1), (1, .ifCond .lt 1), (4, .iload 1), (5, .aload 0), (6, .getfield 8), (9, .if_icmp .ge 1), (12, .iconst (1)), (13, .goto 2)]
def bX0_hasHost_1 : CD := [(16, .iconst (0)), (17, .goto_w 2)]
def bX0_hasHost_2 : CD := [(17, .ireturn)]
def bX0_hasHost : List CD := [bX0_hasHost_0, bX0_hasHost_1, bX0_hasHost_2]
theorem kX0_hasHost : bX0_hasHost.all (chkL 0 false cX0_hasHost bX0_hasHost) = true := by decide +kernel
theorem mX0_hasHost : MB 4 bX0_hasHost 2 2 := ⟨by decide, by decide +kernel, kX0_hasHost, rfl, rfl⟩
def bX0_bedCount_0 : CD := [(0, .iconst (0)), (1, .istore 1), (2, .iconst (0)), (3, .istore 2), (4, .goto_w 100004)]
def bX0_bedCount_1 : CD := [(4, .iload 2), (5, .aload 0), (6, .getfield 4), (9, .if_icmp .ge 2), (12, .iload 1), (13, .aload 0), (14, .getstatic 3), (17, .iload 2), (18, .iaload), (19, .iadd), (20, .istore 1), (21, .iinc 2 (1)), (24, .goto 100004)]
def bX0_bedCount_2 : CD := [(27, .iload 1), (28, .ireturn)]
def bX0_bedCount : List CD := [bX0_bedCount_0, bX0_bedCount_1, bX0_bedCount_2]
theorem kX0_bedCount : bX0_bedCount.all (chkL 0 false cX0_bedCount bX0_bedCount) = true := by decide +kernel
theorem mX0_bedCount : MB 5 bX0_bedCount 1 3 := ⟨by decide, by decide +kernel, kX0_bedCount, rfl, rfl⟩
def bX0_lyingIn_0 : CD := [(0, .iconst (0)), (1, .istore 2), (2, .iconst (0)), (3, .istore 3), (4, .goto_w 100004)]
def bX0_lyingIn_1 : CD := [(4, .iload 3), (5, .aload 0), (6, .getfield 1), (9, .if_icmp .ge 3), (12, .aload 0), (13, .getstatic 0), (16, .iload 3), (17, .aaload), (18, .getfield 104), (21, .iload 1), (22, .if_icmp .ne 2), (25, .iinc 2 (1)), (28, .goto_w 2)]
def bX0_lyingIn_2 : CD := [(28, .iinc 3 (1)), (31, .goto 100004)]
def bX0_lyingIn_3 : CD := [(34, .iload 2), (35, .ireturn)]
def bX0_lyingIn : List CD := [bX0_lyingIn_0, bX0_lyingIn_1, bX0_lyingIn_2, bX0_lyingIn_3]
theorem kX0_lyingIn : bX0_lyingIn.all (chkL 0 false cX0_lyingIn bX0_lyingIn) = true := by decide +kernel
theorem mX0_lyingIn : MB 6 bX0_lyingIn 1 4 := ⟨by decide, by decide +kernel, kX0_lyingIn, rfl, rfl⟩
def bX0_addToTape_0 : CD := [(0, .iconst (24)), (2, .istore 2), (3, .goto_w 100003)]
def bX0_addToTape_1 : CD := [(3, .iload 2), (4, .ifCond .lt 2), (7, .aload 0), (8, .getfield 13), (11, .iconst (500)), (14, .if_icmp .ge 2), (17, .aload 0), (18, .getstatic 12), (21, .aload 0), (22, .getfield 13), (25, .iload 1), (26, .iload 2), (27, .ishr), (28, .i2b), (29, .bastore), (30, .aload 0), (31, .dup), (32, .getfield 13), (35, .iconst (1)), (36, .iadd), (37, .putfield 13), (40, .iinc 2 (-8)), (43, .goto 100003)]
def bX0_addToTape_2 : CD := [(46, .return_)]
def bX0_addToTape : List CD := [bX0_addToTape_0, bX0_addToTape_1, bX0_addToTape_2]
theorem kX0_addToTape : bX0_addToTape.all (chkL 0 false cX0_addToTape bX0_addToTape) = true := by decide +kernel
theorem mX0_addToTape : MB 9 bX0_addToTape 0 3 := ⟨by decide, by decide +kernel, kX0_addToTape, rfl, rfl⟩
def bX1_begin_0 : CD := [(0, .aload 0), (1, .iload 1), (2, .putfield 100), (5, .aload 0), (6, .iload 2), (7, .putfield 101), (10, .aload 0), (11, .iload 3), (12, .instanceof 102), (15, .aload 0), (16, .iconst (0)), (17, .putfield 103), (20, .aload 0), (21, .iconst (-1)), (22, .putfield 104), (25, .aload 0), (26, .iconst (0)), (27, .putfield 105), (30, .aload 0), (31, .iconst (10)), (33, .putfield 106), (36, .aload 0), (37, .iconst (0)), (38, .putfield 107), (41, .aload 0), (42, .iconst (-1)), (43, .putfield 108), (46, .aload 0), (47, .iconst (10)), (49, .putfield 109), (52, .aload 0), (53, .iconst (0)), (54, .putfield 110), (57, .aload 0), (58, .iconst (0)), (59, .putfield 111), (62, .aload 0), (63, .iconst (0)), (64, .instanceof 112), (67, .aload 0), (68, .iconst (-1)), (69, .putfield 113), (72, .aload 0), (73, .iconst (0)), (74, .instanceof 114), (77, .aload 0), (78, .iconst (0)), (79, .putfield 115), (82, .aload 0), (83, .iconst (0)), (84, .putfield 116), (87, .return_)]
def bX1_begin : List CD := [bX1_begin_0]
theorem kX1_begin : bX1_begin.all (chkL 1 false cX1_begin bX1_begin) = true := by decide +kernel
theorem mX1_begin : MB 11 bX1_begin 0 4 := ⟨by decide, by decide +kernel, kX1_begin, rfl, rfl⟩
def bX1_isBarredFrom_0 : CD := [(0, .aload 0), (1, .getfield 103), (4, .iload 1), (5, .ishr), (6, .iconst (1)), (7, .iand), (8, .ifCond .eq 1), (11, .iconst (1)), (12, .goto 2)]
def bX1_isBarredFrom_1 : CD := [(15, .iconst (0)), (16, .goto_w 2)]
def bX1_isBarredFrom_2 : CD := [(16, .ireturn)]
def bX1_isBarredFrom : List CD := [bX1_isBarredFrom_0, bX1_isBarredFrom_1, bX1_isBarredFrom_2]
theorem kX1_isBarredFrom : bX1_isBarredFrom.all (chkL 1 false cX1_isBarredFrom bX1_isBarredFrom) = true := by decide +kernel
theorem mX1_isBarredFrom : MB 13 bX1_isBarredFrom 2 2 := ⟨by decide, by decide +kernel, kX1_isBarredFrom, rfl, rfl⟩
def bX1_tryTask_0 : CD := [(0, .iload 2), (1, .ifCond .eq 1), (4, .aload 0), (5, .aload 0), (6, .getfield 105), (9, .iload 1), (10, .fadd), (13, .putfield 105), (16, .goto 2)]
def bX1_tryTask_1 : CD := [(19, .aload 0), (20, .aload 0), (21, .getfield 106), (24, .iload 1), (25, .iconst (1)), (26, .isub), (27, .fsub), (30, .putfield 106), (33, .goto_w 2)]
def bX1_tryTask_2 : CD := [(33, .aload 0), (34, .getfield 105), (37, .aload 0), (38, .getfield 106), (41, .if_icmp .le 3), (44, .aload 0), (45, .iload 1), (46, .iconst (1)), (47, .isub), (48, .putfield 105), (51, .aload 0), (52, .iload 1), (53, .putfield 106), (56, .aload 0), (57, .dup), (58, .getfield 107), (61, .iconst (1)), (62, .iadd), (63, .putfield 107), (66, .goto_w 3)]
def bX1_tryTask_3 : CD := [(66, .return_)]
def bX1_tryTask : List CD := [bX1_tryTask_0, bX1_tryTask_1, bX1_tryTask_2, bX1_tryTask_3]
theorem kX1_tryTask : bX1_tryTask.all (chkL 1 false cX1_tryTask bX1_tryTask) = true := by decide +kernel
theorem mX1_tryTask : MB 14 bX1_tryTask 0 3 := ⟨by decide, by decide +kernel, kX1_tryTask, rfl, rfl⟩
def bX1_nextHardness_0 : CD := [(0, .aload 0), (1, .getfield 105), (4, .aload 0), (5, .getfield 106), (8, .if_icmp .ge 1), (11, .aload 0), (12, .getfield 105), (15, .aload 0), (16, .getfield 106), (19, .iadd), (20, .iconst (1)), (21, .iadd), (22, .iconst (2)), (23, .idiv), (24, .goto 2)]
def bX1_nextHardness_1 : CD := [(27, .iconst (-1)), (28, .goto_w 2)]
def bX1_nextHardness_2 : CD := [(28, .ireturn)]
def bX1_nextHardness : List CD := [bX1_nextHardness_0, bX1_nextHardness_1, bX1_nextHardness_2]
theorem kX1_nextHardness : bX1_nextHardness.all (chkL 1 false cX1_nextHardness bX1_nextHardness) = true := by decide +kernel
theorem mX1_nextHardness : MB 15 bX1_nextHardness 1 1 := ⟨by decide, by decide +kernel, kX1_nextHardness, rfl, rfl⟩
def bX6_costOfAll_0 : CD := [(0, .iconst (0)), (1, .istore 1), (2, .iconst (0)), (3, .istore 2), (4, .goto_w 100004)]
def bX6_costOfAll_1 : CD := [(4, .iload 2), (5, .aload 0), (6, .getstatic 600), (9, .getfield 4), (12, .if_icmp .ge 2), (15, .iload 1), (16, .aload 0), (17, .iload 2), (18, .invokeinterface 44 7021), (21, .iadd), (22, .istore 1), (23, .iinc 2 (1)), (26, .goto 100004)]
def bX6_costOfAll_2 : CD := [(29, .iload 1), (30, .ireturn)]
def bX6_costOfAll : List CD := [bX6_costOfAll_0, bX6_costOfAll_1, bX6_costOfAll_2]
theorem kX6_costOfAll : bX6_costOfAll.all (chkL 6 false cX6_costOfAll bX6_costOfAll) = true := by decide +kernel
theorem mX6_costOfAll : MB 43 bX6_costOfAll 1 3 := ⟨by decide, by decide +kernel, kX6_costOfAll, rfl, rfl⟩
def bX6_costOf_0 : CD := [(0, .iconst (0)), (1, .istore 2), (2, .iconst (0)), (3, .istore 3), (4, .iconst (0)), (5, .istore 4), (7, .goto_w 100007)]
def bX6_costOf_1 : CD := [(7, .iload 4), (9, .aload 0), (10, .getstatic 600), (13, .getfield 1), (16, .if_icmp .ge 3), (19, .aload 0), (20, .getstatic 600), (23, .getstatic 0), (26, .iload 4), (28, .aaload), (29, .getfield 104), (32, .iload 1), (33, .if_icmp .ne 2), (36, .iload 3), (37, .aload 0), (38, .iload 4), (40, .invokeinterface 47 7021), (43, .iadd), (44, .istore 3), (45, .iload 2), (46, .aload 0), (47, .iload 4), (49, .iload 1), (50, .invokeinterface 45 7031), (53, .iadd), (54, .istore 2), (55, .goto_w 2)]
def bX6_costOf_2 : CD := [(55, .iinc 4 (1)), (58, .goto 100007)]
def bX6_costOf_3 : CD := [(61, .iload 2), (62, .iload 3), (63, .invokeinterface 48 11), (66, .iadd), (67, .ireturn)]
def bX6_costOf : List CD := [bX6_costOf_0, bX6_costOf_1, bX6_costOf_2, bX6_costOf_3]
theorem kX6_costOf : bX6_costOf.all (chkL 6 false cX6_costOf bX6_costOf) = true := by decide +kernel
theorem mX6_costOf : MB 44 bX6_costOf 1 5 := ⟨by decide, by decide +kernel, kX6_costOf, rfl, rfl⟩
def bX6_costBehind_0 : CD := [(0, .iconst (0)), (1, .istore 3), (2, .iload 1), (3, .iconst (1)), (4, .iadd), (5, .istore 4), (7, .goto_w 100007)]
def bX6_costBehind_1 : CD := [(7, .iload 4), (9, .aload 0), (10, .getstatic 600), (13, .getfield 1), (16, .if_icmp .ge 3), (19, .aload 0), (20, .getstatic 600), (23, .getstatic 0), (26, .iload 4), (28, .aaload), (29, .getfield 104), (32, .iload 2), (33, .if_icmp .ne 2), (36, .iload 3), (37, .aload 0), (38, .iload 1), (39, .iload 4), (41, .invokeinterface 46 7031), (44, .iadd), (45, .istore 3), (46, .goto_w 2)]
def bX6_costBehind_2 : CD := [(46, .iinc 4 (1)), (49, .goto 100007)]
def bX6_costBehind_3 : CD := [(52, .iload 3), (53, .ireturn)]
def bX6_costBehind : List CD := [bX6_costBehind_0, bX6_costBehind_1, bX6_costBehind_2, bX6_costBehind_3]
theorem kX6_costBehind : bX6_costBehind.all (chkL 6 false cX6_costBehind bX6_costBehind) = true := by decide +kernel
theorem mX6_costBehind : MB 45 bX6_costBehind 1 5 := ⟨by decide, by decide +kernel, kX6_costBehind, rfl, rfl⟩
def bX6_between_0 : CD := [(0, .aload 0), (1, .getstatic 600), (4, .getstatic 0), (7, .iload 1), (8, .aaload), (9, .astore 3), (10, .aload 0), (11, .getstatic 600), (14, .getstatic 0), (17, .iload 2), (18, .aaload), (19, .astore 4), (21, .aload 3), (22, .getfield 100), (25, .aload 4), (27, .getfield 100), (30, .if_icmp .ne 1), (33, .iconst (30)), (35, .goto 2)]
def bX6_between_1 : CD := [(38, .iconst (0)), (39, .goto_w 2)]
def bX6_between_2 : CD := [(39, .istore 5), (41, .aload 3), (42, .iload 2), (43, .invokeinterface 13 2021), (46, .ifCond .eq 3), (49, .iinc 5 (300)), (55, .goto_w 3)]
def bX6_between_3 : CD := [(55, .iload 5), (57, .iconst (5)), (58, .iconst (0)), (59, .aload 3), (60, .getfield 101), (63, .aload 4), (65, .getfield 101), (68, .isub), (69, .fneg), (72, .iconst (2)), (73, .isub), (74, .fadd), (77, .imul), (78, .iadd), (79, .ireturn)]
def bX6_between : List CD := [bX6_between_0, bX6_between_1, bX6_between_2, bX6_between_3]
theorem kX6_between : bX6_between.all (chkL 6 false cX6_between bX6_between) = true := by decide +kernel
theorem mX6_between : MB 46 bX6_between 1 6 := ⟨by decide, by decide +kernel, kX6_between, rfl, rfl⟩
def bX6_shyness_0 : CD := [(0, .aload 0), (1, .getstatic 600), (4, .getstatic 0), (7, .iload 1), (8, .aaload), (9, .getfield 102), (12, .ifCond .eq 1), (15, .iconst (1)), (16, .goto 2)]
def bX6_shyness_1 : CD := [(19, .iconst (0)), (20, .goto_w 2)]
def bX6_shyness_2 : CD := [(20, .ireturn)]
def bX6_shyness : List CD := [bX6_shyness_0, bX6_shyness_1, bX6_shyness_2]
theorem kX6_shyness : bX6_shyness.all (chkL 6 false cX6_shyness bX6_shyness) = true := by decide +kernel
theorem mX6_shyness : MB 47 bX6_shyness 1 2 := ⟨by decide, by decide +kernel, kX6_shyness, rfl, rfl⟩
def bX6_lonely_0 : CD := [(0, .iload 0), (1, .iconst (1)), (2, .if_icmp .ne 1), (5, .iconst (12)), (7, .goto 2)]
def bX6_lonely_1 : CD := [(10, .iconst (0)), (11, .goto_w 2)]
def bX6_lonely_2 : CD := [(11, .ireturn)]
def bX6_lonely : List CD := [bX6_lonely_0, bX6_lonely_1, bX6_lonely_2]
theorem kX6_lonely : bX6_lonely.all (chkL 6 false cX6_lonely bX6_lonely) = true := by decide +kernel
theorem mX6_lonely : MB 48 bX6_lonely 1 1 := ⟨by decide, by decide +kernel, kX6_lonely, rfl, rfl⟩
def bX10_within_0 : CD := [(0, .iload 0), (1, .iload 1), (2, .if_icmp .lt 1), (5, .iload 0), (6, .iload 2), (7, .if_icmp .gt 1), (10, .iconst (1)), (11, .goto 2)]
def bX10_within_1 : CD := [(14, .iconst (0)), (15, .goto_w 2)]
def bX10_within_2 : CD := [(15, .ireturn)]
def bX10_within : List CD := [bX10_within_0, bX10_within_1, bX10_within_2]
theorem kX10_within : bX10_within.all (chkL 10 false cX10_within bX10_within) = true := by decide +kernel
theorem mX10_within : MB 99 bX10_within 2 3 := ⟨by decide, by decide +kernel, kX10_within, rfl, rfl⟩
def bX10_child_0 : CD := [(0, .aload 0), (1, .getstatic 1000), (4, .getfield 1), (7, .iconst (24)), (9, .if_icmp .ge 1), (12, .iload 1), (13, .iconst (0)), (14, .iconst (5)), (15, .invokeinterface 99 31), (18, .ifCond .eq 1), (21, .iload 2), (22, .iconst (8)), (24, .iconst (17)), (26, .invokeinterface 99 31), (29, .ifCond .ne 2), (32, .goto_w 1)]
def bX10_child_1 : CD := [(32, .iconst (-1)), (33, .ireturn)]
def bX10_child_2 : CD := [(34, .aload 0), (35, .getstatic 1000), (38, .getfield 1), (41, .istore 4), (43, .aload 0), (44, .getstatic 1000), (47, .getstatic 0), (50, .iload 4), (52, .aaload), (53, .iload 1), (54, .iload 2), (55, .iload 3), (56, .invokeinterface 11 2040), (59, .aload 0), (60, .getstatic 1000), (63, .iload 4), (65, .iconst (1)), (66, .iadd), (67, .putfield 1), (70, .iload 4), (72, .ireturn)]
def bX10_child : List CD := [bX10_child_0, bX10_child_1, bX10_child_2]
theorem kX10_child : bX10_child.all (chkL 10 false cX10_child bX10_child) = true := by decide +kernel
theorem mX10_child : MB 100 bX10_child 1 5 := ⟨by decide, by decide +kernel, kX10_child, rfl, rfl⟩
def bX10_bar_0 : CD := [(0, .aload 0), (1, .getstatic 1000), (4, .iload 1), (5, .invokeinterface 2 1021), (8, .ifCond .eq 1), (11, .aload 0), (12, .getstatic 1000), (15, .iload 2), (16, .invokeinterface 2 1021), (19, .ifCond .eq 1), (22, .iload 1), (23, .iload 2), (24, .if_icmp .ne 2), (27, .goto_w 1)]
def bX10_bar_1 : CD := [(27, .iconst (0)), (28, .ireturn)]
def bX10_bar_2 : CD := [(29, .aload 0), (30, .getstatic 1000), (33, .getstatic 0), (36, .iload 1), (37, .aaload), (38, .astore 3), (39, .aload 0), (40, .getstatic 1000), (43, .getstatic 0), (46, .iload 2), (47, .aaload), (48, .astore 4), (50, .aload 3), (51, .iload 2), (52, .invokeinterface 13 2021), (55, .ifCond .ne 3), (58, .aload 0), (59, .getstatic 1000), (62, .getfield 2), (65, .iconst (30)), (67, .if_icmp .lt 4), (70, .goto_w 3)]
def bX10_bar_3 : CD := [(70, .iconst (0)), (71, .ireturn)]
def bX10_bar_4 : CD := [(72, .aload 3), (73, .dup), (74, .getfield 103), (77, .iconst (1)), (78, .iload 2), (79, .ishl), (80, .ior), (81, .putfield 103), (84, .aload 4), (86, .dup), (87, .getfield 103), (90, .iconst (1)), (91, .iload 1), (92, .ishl), (93, .ior), (94, .putfield 103), (97, .aload 0), (98, .getstatic 1000), (101, .dup), (102, .getfield 2), (105, .iconst (1)), (106, .iadd), (107, .putfield 2), (110, .iconst (1)), (111, .ireturn)]
def bX10_bar : List CD := [bX10_bar_0, bX10_bar_1, bX10_bar_2, bX10_bar_3, bX10_bar_4]
theorem kX10_bar : bX10_bar.all (chkL 10 false cX10_bar bX10_bar) = true := by decide +kernel
theorem mX10_bar : MB 101 bX10_bar 2 5 := ⟨by decide, by decide +kernel, kX10_bar, rfl, rfl⟩
def bX10_cabin_0 : CD := [(0, .aload 0), (1, .getstatic 1000), (4, .getfield 4), (7, .iconst (6)), (9, .if_icmp .ge 1), (12, .iload 1), (13, .iconst (1)), (14, .iconst (8)), (16, .invokeinterface 99 31), (19, .ifCond .ne 2), (22, .goto_w 1)]
def bX10_cabin_1 : CD := [(22, .iconst (-1)), (23, .ireturn)]
def bX10_cabin_2 : CD := [(24, .aload 0), (25, .getstatic 1000), (28, .getfield 4), (31, .istore 2), (32, .aload 0), (33, .getstatic 1000), (36, .getstatic 3), (39, .iload 2), (40, .iload 1), (41, .iastore), (42, .aload 0), (43, .getstatic 1000), (46, .iload 2), (47, .iconst (1)), (48, .iadd), (49, .putfield 4), (52, .iload 2), (53, .ireturn)]
def bX10_cabin : List CD := [bX10_cabin_0, bX10_cabin_1, bX10_cabin_2]
theorem kX10_cabin : bX10_cabin.all (chkL 10 false cX10_cabin bX10_cabin) = true := by decide +kernel
theorem mX10_cabin : MB 102 bX10_cabin 1 3 := ⟨by decide, by decide +kernel, kX10_cabin, rfl, rfl⟩
def bX10_lie_0 : CD := [(0, .aload 0), (1, .getstatic 1000), (4, .iload 1), (5, .invokeinterface 2 1021), (8, .ifCond .eq 1), (11, .iload 2), (12, .iconst (-1)), (13, .if_icmp .eq 2), (16, .aload 0), (17, .getstatic 1000), (20, .iload 2), (21, .invokeinterface 3 1021), (24, .ifCond .ne 2), (27, .goto_w 1)]
def bX10_lie_1 : CD := [(27, .iconst (0)), (28, .ireturn)]
def bX10_lie_2 : CD := [(29, .aload 0), (30, .getstatic 1000), (33, .getstatic 0), (36, .iload 1), (37, .aaload), (38, .astore 3), (39, .aload 3), (40, .getfield 104), (43, .iload 2), (44, .if_icmp .eq 3), (47, .iload 2), (48, .iconst (-1)), (49, .if_icmp .eq 4), (52, .aload 0), (53, .getstatic 1000), (56, .iload 2), (57, .invokeinterface 6 1021), (60, .aload 0), (61, .getstatic 1000), (64, .getstatic 3), (67, .iload 2), (68, .iaload), (69, .if_icmp .lt 4), (72, .goto_w 3)]
def bX10_lie_3 : CD := [(72, .iconst (0)), (73, .ireturn)]
def bX10_lie_4 : CD := [(74, .aload 3), (75, .iload 2), (76, .putfield 104), (79, .iconst (1)), (80, .ireturn)]
def bX10_lie : List CD := [bX10_lie_0, bX10_lie_1, bX10_lie_2, bX10_lie_3, bX10_lie_4]
theorem kX10_lie : bX10_lie.all (chkL 10 false cX10_lie bX10_lie) = true := by decide +kernel
theorem mX10_lie : MB 103 bX10_lie 2 4 := ⟨by decide, by decide +kernel, kX10_lie, rfl, rfl⟩
def bX10_task_0 : CD := [(0, .aload 0), (1, .getstatic 1000), (4, .iload 1), (5, .invokeinterface 2 1021), (8, .ifCond .eq 1), (11, .iload 2), (12, .iconst (1)), (13, .iconst (10)), (15, .invokeinterface 99 31), (18, .ifCond .ne 2), (21, .goto_w 1)]
def bX10_task_1 : CD := [(21, .iconst (-1)), (22, .ireturn)]
def bX10_task_2 : CD := [(23, .aload 0), (24, .getstatic 1000), (27, .getstatic 0), (30, .iload 1), (31, .aaload), (32, .astore 4), (34, .aload 4), (36, .iload 2), (37, .iload 3), (38, .invokeinterface 14 2030), (41, .aload 4), (43, .getfield 106), (46, .aload 4), (48, .getfield 105), (51, .isub), (52, .ireturn)]
def bX10_task : List CD := [bX10_task_0, bX10_task_1, bX10_task_2]
theorem kX10_task : bX10_task.all (chkL 10 false cX10_task bX10_task) = true := by decide +kernel
theorem mX10_task : MB 109 bX10_task 1 5 := ⟨by decide, by decide +kernel, kX10_task, rfl, rfl⟩
def bX10_feed_0 : CD := [(0, .aload 0), (1, .getstatic 1000), (4, .getfield 13), (7, .iconst (20)), (9, .iadd), (10, .iconst (500)), (13, .if_icmp .le 1), (16, .iconst (-1)), (17, .ireturn)]
def bX10_feed_1 : CD := [(18, .aload 0), (19, .getstatic 1000), (22, .iload 1), (23, .invokeinterface 9 1020), (26, .aload 0), (27, .getstatic 1000), (30, .iload 2), (31, .invokeinterface 9 1020), (34, .aload 0), (35, .getstatic 1000), (38, .iload 3), (39, .invokeinterface 9 1020), (42, .aload 0), (43, .getstatic 1000), (46, .iload 4), (48, .invokeinterface 9 1020), (51, .aload 0), (52, .getstatic 1000), (55, .iload 5), (57, .invokeinterface 9 1020), (60, .aload 0), (61, .getstatic 1000), (64, .getfield 13), (67, .ireturn)]
def bX10_feed : List CD := [bX10_feed_0, bX10_feed_1]
theorem kX10_feed : bX10_feed.all (chkL 10 false cX10_feed bX10_feed) = true := by decide +kernel
theorem mX10_feed : MB 111 bX10_feed 1 6 := ⟨by decide, by decide +kernel, kX10_feed, rfl, rfl⟩
def bX10_end_0 : CD := [(0, .iload 1), (1, .iconst (0)), (2, .aload 0), (3, .getstatic 1000), (6, .getfield 13), (9, .invokeinterface 99 31), (12, .ifCond .ne 1), (15, .iconst (-1)), (16, .ireturn)]
def bX10_end_1 : CD := [(17, .aload 0), (18, .getstatic 1000), (21, .iload 1), (22, .putfield 13), (25, .iload 1), (26, .ireturn)]
def bX10_end : List CD := [bX10_end_0, bX10_end_1]
theorem kX10_end : bX10_end.all (chkL 10 false cX10_end bX10_end) = true := by decide +kernel
theorem mX10_end : MB 112 bX10_end 1 2 := ⟨by decide, by decide +kernel, kX10_end, rfl, rfl⟩
def bX10_host_0 : CD := [(0, .aload 0), (1, .getstatic 1000), (4, .getfield 8), (7, .iconst (8)), (9, .if_icmp .lt 1), (12, .iconst (-1)), (13, .ireturn)]
def bX10_host_1 : CD := [(14, .aload 0), (15, .getstatic 1000), (18, .getfield 8), (21, .istore 1), (22, .aload 0), (23, .getstatic 1000), (26, .iload 1), (27, .iconst (1)), (28, .iadd), (29, .putfield 8), (32, .iload 1), (33, .ireturn)]
def bX10_host : List CD := [bX10_host_0, bX10_host_1]
theorem kX10_host : bX10_host.all (chkL 10 false cX10_host bX10_host) = true := by decide +kernel
theorem mX10_host : MB 127 bX10_host 1 2 := ⟨by decide, by decide +kernel, kX10_host, rfl, rfl⟩
def bX10_like_0 : CD := [(0, .aload 0), (1, .getstatic 1000), (4, .iload 1), (5, .invokeinterface 4 1021), (8, .ifCond .eq 1), (11, .aload 0), (12, .getstatic 1000), (15, .iload 2), (16, .invokeinterface 2 1021), (19, .ifCond .eq 1), (22, .iload 3), (23, .iconst (-1)), (24, .iconst (9)), (26, .invokeinterface 99 31), (29, .ifCond .ne 2), (32, .goto_w 1)]
def bX10_like_1 : CD := [(32, .iconst (0)), (33, .ireturn)]
def bX10_like_2 : CD := [(34, .aload 0), (35, .getstatic 1000), (38, .getstatic 7), (41, .iload 1), (42, .iconst (24)), (44, .imul), (45, .iload 2), (46, .iadd), (47, .iload 3), (48, .iastore), (49, .iconst (1)), (50, .ireturn)]
def bX10_like : List CD := [bX10_like_0, bX10_like_1, bX10_like_2]
theorem kX10_like : bX10_like.all (chkL 10 false cX10_like bX10_like) = true := by decide +kernel
theorem mX10_like : MB 128 bX10_like 2 4 := ⟨by decide, by decide +kernel, kX10_like, rfl, rfl⟩
def bX11_in_0 : CD := [(0, .iload 0), (1, .iload 1), (2, .if_icmp .lt 1), (5, .iload 0), (6, .iload 2), (7, .if_icmp .gt 1), (10, .iconst (1)), (11, .goto 2)]
def bX11_in_1 : CD := [(14, .iconst (0)), (15, .goto_w 2)]
def bX11_in_2 : CD := [(15, .ireturn)]
def bX11_in : List CD := [bX11_in_0, bX11_in_1, bX11_in_2]
theorem kX11_in : bX11_in.all (chkL 11 false cX11_in bX11_in) = true := by decide +kernel
theorem mX11_in : MB 136 bX11_in 2 3 := ⟨by decide, by decide +kernel, kX11_in, rfl, rfl⟩
def bX11_isChild_0 : CD := [(0, .iload 1), (1, .iconst (0)), (2, .aload 0), (3, .getstatic 1105), (6, .iconst (0)), (7, .iaload), (8, .iconst (1)), (9, .isub), (10, .invokeinterface 136 31), (13, .ireturn)]
def bX11_isChild : List CD := [bX11_isChild_0]
theorem kX11_isChild : bX11_isChild.all (chkL 11 false cX11_isChild bX11_isChild) = true := by decide +kernel
theorem mX11_isChild : MB 140 bX11_isChild 2 2 := ⟨by decide, by decide +kernel, kX11_isChild, rfl, rfl⟩
def bX11_isCabin_0 : CD := [(0, .iload 1), (1, .iconst (0)), (2, .aload 0), (3, .getstatic 1121), (6, .iconst (0)), (7, .iaload), (8, .iconst (1)), (9, .isub), (10, .invokeinterface 136 31), (13, .ireturn)]
def bX11_isCabin : List CD := [bX11_isCabin_0]
theorem kX11_isCabin : bX11_isCabin.all (chkL 11 false cX11_isCabin bX11_isCabin) = true := by decide +kernel
theorem mX11_isCabin : MB 141 bX11_isCabin 2 2 := ⟨by decide, by decide +kernel, kX11_isCabin, rfl, rfl⟩
def bX11_child_0 : CD := [(0, .aload 0), (1, .iconst (0)), (2, .putfield 1100), (5, .aload 0), (6, .getstatic 1105), (9, .iconst (0)), (10, .iaload), (11, .iconst (24)), (13, .if_icmp .eq 1), (16, .iload 1), (17, .iconst (0)), (18, .iconst (5)), (19, .invokeinterface 136 31), (22, .ifCond .eq 1), (25, .iload 2), (26, .iconst (8)), (28, .iconst (17)), (30, .invokeinterface 136 31), (33, .ifCond .ne 2), (36, .goto_w 1)]
def bX11_child_1 : CD := [(36, .iconst (-1)), (37, .ireturn)]
def bX11_child_2 : CD := [(38, .aload 0), (39, .getstatic 1105), (42, .iconst (0)), (43, .iaload), (44, .istore 4), (46, .aload 0), (47, .getstatic 1105), (50, .iconst (0)), (51, .dup2), (52, .iaload), (53, .iconst (1)), (54, .iadd), (55, .iastore), (56, .aload 0), (57, .getstatic 1106), (60, .iload 4), (62, .iload 1), (63, .iastore), (64, .aload 0), (65, .getstatic 1107), (68, .iload 4), (70, .iload 2), (71, .iastore), (72, .aload 0), (73, .getstatic 1108), (76, .iload 4), (78, .iload 3), (79, .bastore), (80, .aload 0), (81, .getstatic 1109), (84, .iload 4), (86, .iconst (-1)), (87, .iastore), (88, .aload 0), (89, .getstatic 1110), (92, .iload 4), (94, .iconst (0)), (95, .iastore), (96, .aload 0), (97, .getstatic 1111), (100, .iload 4), (102, .iconst (10)), (104, .iastore), (105, .aload 0), (106, .getstatic 1112), (109, .iload 4), (111, .iconst (0)), (112, .iastore), (113, .aload 0), (114, .getstatic 1113), (117, .iload 4), (119, .iconst (-1)), (120, .iastore), (121, .aload 0), (122, .getstatic 1114), (125, .iload 4), (127, .iconst (10)), (129, .iastore), (130, .aload 0), (131, .getstatic 1115), (134, .iload 4), (136, .iconst (0)), (137, .iastore), (138, .aload 0), (139, .getstatic 1116), (142, .iload 4), (144, .iconst (0)), (145, .iastore), (146, .aload 0), (147, .getstatic 1117), (150, .iload 4), (152, .iconst (0)), (153, .bastore), (154, .aload 0), (155, .getstatic 1118), (158, .iload 4), (160, .iconst (-1)), (161, .iastore), (162, .aload 0), (163, .getstatic 1120), (166, .iload 4), (168, .iconst (0)), (169, .iastore), (170, .aload 0), (171, .getstatic 1138), (174, .iload 4), (176, .iconst (0)), (177, .bastore), (178, .iconst (0)), (179, .istore 5), (181, .goto_w 100181)]
def bX11_child_3 : CD := [(181, .iload 5), (183, .iconst (8)), (185, .if_icmp .ge 4), (188, .aload 0), (189, .getstatic 1137), (192, .iconst (24)), (194, .iload 5), (196, .imul), (197, .iload 4), (199, .iadd), (200, .iconst (0)), (201, .iastore), (202, .iinc 5 (1)), (205, .goto 100181)]
def bX11_child_4 : CD := [(208, .iload 4), (210, .ireturn)]
def bX11_child : List CD := [bX11_child_0, bX11_child_1, bX11_child_2, bX11_child_3, bX11_child_4]
theorem kX11_child : bX11_child.all (chkL 11 false cX11_child bX11_child) = true := by decide +kernel
theorem mX11_child : MB 142 bX11_child 1 6 := ⟨by decide, by decide +kernel, kX11_child, rfl, rfl⟩
def bX11_areBarred_0 : CD := [(0, .aload 0), (1, .getstatic 1120), (4, .iload 1), (5, .iaload), (6, .iload 2), (7, .ishr), (8, .iconst (1)), (9, .iand), (10, .ifCond .eq 1), (13, .iconst (1)), (14, .goto 2)]
def bX11_areBarred_1 : CD := [(17, .iconst (0)), (18, .goto_w 2)]
def bX11_areBarred_2 : CD := [(18, .ireturn)]
def bX11_areBarred : List CD := [bX11_areBarred_0, bX11_areBarred_1, bX11_areBarred_2]
theorem kX11_areBarred : bX11_areBarred.all (chkL 11 false cX11_areBarred bX11_areBarred) = true := by decide +kernel
theorem mX11_areBarred : MB 143 bX11_areBarred 2 3 := ⟨by decide, by decide +kernel, kX11_areBarred, rfl, rfl⟩
def bX11_bar_0 : CD := [(0, .aload 0), (1, .iconst (0)), (2, .putfield 1100), (5, .aload 0), (6, .iload 1), (7, .invokeinterface 140 12021), (10, .ifCond .eq 1), (13, .aload 0), (14, .iload 2), (15, .invokeinterface 140 12021), (18, .ifCond .eq 1), (21, .iload 1), (22, .iload 2), (23, .if_icmp .eq 1), (26, .aload 0), (27, .iload 1), (28, .iload 2), (29, .invokeinterface 143 12031), (32, .ifCond .ne 1), (35, .aload 0), (36, .getstatic 1119), (39, .iconst (0)), (40, .iaload), (41, .iconst (30)), (43, .if_icmp .ne 2), (46, .goto_w 1)]
def bX11_bar_1 : CD := [(46, .iconst (0)), (47, .ireturn)]
def bX11_bar_2 : CD := [(48, .aload 0), (49, .getstatic 1120), (52, .iload 1), (53, .dup2), (54, .iaload), (55, .iconst (1)), (56, .iload 2), (57, .ishl), (58, .ior), (59, .iastore), (60, .aload 0), (61, .getstatic 1120), (64, .iload 2), (65, .dup2), (66, .iaload), (67, .iconst (1)), (68, .iload 1), (69, .ishl), (70, .ior), (71, .iastore), (72, .aload 0), (73, .getstatic 1119), (76, .iconst (0)), (77, .dup2), (78, .iaload), (79, .iconst (1)), (80, .iadd), (81, .iastore), (82, .iconst (1)), (83, .ireturn)]
def bX11_bar : List CD := [bX11_bar_0, bX11_bar_1, bX11_bar_2]
theorem kX11_bar : bX11_bar.all (chkL 11 false cX11_bar bX11_bar) = true := by decide +kernel
theorem mX11_bar : MB 144 bX11_bar 2 3 := ⟨by decide, by decide +kernel, kX11_bar, rfl, rfl⟩
def bX11_cabin_0 : CD := [(0, .aload 0), (1, .iconst (0)), (2, .putfield 1100), (5, .aload 0), (6, .getstatic 1121), (9, .iconst (0)), (10, .iaload), (11, .iconst (6)), (13, .if_icmp .eq 1), (16, .iload 1), (17, .iconst (1)), (18, .iconst (8)), (20, .invokeinterface 136 31), (23, .ifCond .ne 2), (26, .goto_w 1)]
def bX11_cabin_1 : CD := [(26, .iconst (-1)), (27, .ireturn)]
def bX11_cabin_2 : CD := [(28, .aload 0), (29, .getstatic 1122), (32, .aload 0), (33, .getstatic 1121), (36, .iconst (0)), (37, .iaload), (38, .iload 1), (39, .iastore), (40, .aload 0), (41, .getstatic 1121), (44, .iconst (0)), (45, .dup2), (46, .iaload), (47, .iconst (1)), (48, .iadd), (49, .iastore), (50, .aload 0), (51, .getstatic 1121), (54, .iconst (0)), (55, .iaload), (56, .iconst (1)), (57, .isub), (58, .ireturn)]
def bX11_cabin : List CD := [bX11_cabin_0, bX11_cabin_1, bX11_cabin_2]
theorem kX11_cabin : bX11_cabin.all (chkL 11 false cX11_cabin bX11_cabin) = true := by decide +kernel
theorem mX11_cabin : MB 145 bX11_cabin 1 2 := ⟨by decide, by decide +kernel, kX11_cabin, rfl, rfl⟩
def bX11_lying_0 : CD := [(0, .iconst (0)), (1, .istore 2), (2, .iconst (0)), (3, .istore 3), (4, .goto_w 100004)]
def bX11_lying_1 : CD := [(4, .iload 3), (5, .aload 0), (6, .getstatic 1105), (9, .iconst (0)), (10, .iaload), (11, .if_icmp .ge 4), (14, .iload 2), (15, .aload 0), (16, .getstatic 1109), (19, .iload 3), (20, .iaload), (21, .iload 1), (22, .if_icmp .ne 2), (25, .iconst (1)), (26, .goto 3)]
def bX11_lying_2 : CD := [(29, .iconst (0)), (30, .goto_w 3)]
def bX11_lying_3 : CD := [(30, .iadd), (31, .istore 2), (32, .iinc 3 (1)), (35, .goto 100004)]
def bX11_lying_4 : CD := [(38, .iload 2), (39, .ireturn)]
def bX11_lying : List CD := [bX11_lying_0, bX11_lying_1, bX11_lying_2, bX11_lying_3, bX11_lying_4]
theorem kX11_lying : bX11_lying.all (chkL 11 false cX11_lying bX11_lying) = true := by decide +kernel
theorem mX11_lying : MB 146 bX11_lying 1 4 := ⟨by decide, by decide +kernel, kX11_lying, rfl, rfl⟩
def bX11_lie_0 : CD := [(0, .aload 0), (1, .iconst (0)), (2, .putfield 1100), (5, .aload 0), (6, .iload 1), (7, .invokeinterface 140 12021), (10, .ifCond .eq 2), (13, .iload 2), (14, .iconst (-1)), (15, .if_icmp .eq 1), (18, .aload 0), (19, .iload 2), (20, .invokeinterface 141 12021), (23, .ifCond .eq 2), (26, .goto_w 1)]
def bX11_lie_1 : CD := [(26, .aload 0), (27, .getstatic 1109), (30, .iload 1), (31, .iaload), (32, .iload 2), (33, .if_icmp .eq 2), (36, .iload 2), (37, .iconst (-1)), (38, .if_icmp .eq 3), (41, .aload 0), (42, .iload 2), (43, .invokeinterface 146 12021), (46, .aload 0), (47, .getstatic 1122), (50, .iload 2), (51, .iaload), (52, .if_icmp .ne 3), (55, .goto_w 2)]
def bX11_lie_2 : CD := [(55, .iconst (0)), (56, .ireturn)]
def bX11_lie_3 : CD := [(57, .aload 0), (58, .getstatic 1109), (61, .iload 1), (62, .iload 2), (63, .iastore), (64, .iconst (1)), (65, .ireturn)]
def bX11_lie : List CD := [bX11_lie_0, bX11_lie_1, bX11_lie_2, bX11_lie_3]
theorem kX11_lie : bX11_lie.all (chkL 11 false cX11_lie bX11_lie) = true := by decide +kernel
theorem mX11_lie : MB 147 bX11_lie 2 3 := ⟨by decide, by decide +kernel, kX11_lie, rfl, rfl⟩
def bX11_allBeds_0 : CD := [(0, .iconst (0)), (1, .istore 1), (2, .iconst (0)), (3, .istore 2), (4, .goto_w 100004)]
def bX11_allBeds_1 : CD := [(4, .iload 2), (5, .aload 0), (6, .getstatic 1121), (9, .iconst (0)), (10, .iaload), (11, .if_icmp .ge 2), (14, .iload 1), (15, .aload 0), (16, .getstatic 1122), (19, .iload 2), (20, .iaload), (21, .iadd), (22, .istore 1), (23, .iinc 2 (1)), (26, .goto 100004)]
def bX11_allBeds_2 : CD := [(29, .iload 1), (30, .ireturn)]
def bX11_allBeds : List CD := [bX11_allBeds_0, bX11_allBeds_1, bX11_allBeds_2]
theorem kX11_allBeds : bX11_allBeds.all (chkL 11 false cX11_allBeds bX11_allBeds) = true := by decide +kernel
theorem mX11_allBeds : MB 151 bX11_allBeds 1 3 := ⟨by decide, by decide +kernel, kX11_allBeds, rfl, rfl⟩
def bX11_task_0 : CD := [(0, .aload 0), (1, .iconst (0)), (2, .putfield 1100), (5, .aload 0), (6, .iload 1), (7, .invokeinterface 140 12021), (10, .ifCond .eq 1), (13, .iload 2), (14, .iconst (1)), (15, .iconst (10)), (17, .invokeinterface 136 31), (20, .ifCond .ne 2), (23, .goto_w 1)]
def bX11_task_1 : CD := [(23, .iconst (-1)), (24, .ireturn)]
def bX11_task_2 : CD := [(25, .iload 3), (26, .ifCond .eq 5), (29, .aload 0), (30, .getstatic 1110), (33, .iload 1), (34, .iload 2), (35, .aload 0), (36, .getstatic 1110), (39, .iload 1), (40, .iaload), (41, .if_icmp .le 3), (44, .iload 2), (45, .goto 4)]
def bX11_task_3 : CD := [(48, .aload 0), (49, .getstatic 1110), (52, .iload 1), (53, .iaload), (54, .goto_w 4)]
def bX11_task_4 : CD := [(54, .iastore), (55, .goto 8)]
def bX11_task_5 : CD := [(58, .aload 0), (59, .getstatic 1111), (62, .iload 1), (63, .iload 2), (64, .iconst (1)), (65, .isub), (66, .aload 0), (67, .getstatic 1111), (70, .iload 1), (71, .iaload), (72, .if_icmp .ge 6), (75, .iload 2), (76, .iconst (1)), (77, .isub), (78, .goto 7)]
def bX11_task_6 : CD := [(81, .aload 0), (82, .getstatic 1111), (85, .iload 1), (86, .iaload), (87, .goto_w 7)]
def bX11_task_7 : CD := [(87, .iastore), (88, .goto_w 8)]
def bX11_task_8 : CD := [(88, .aload 0), (89, .getstatic 1110), (92, .iload 1), (93, .iaload), (94, .aload 0), (95, .getstatic 1111), (98, .iload 1), (99, .iaload), (100, .if_icmp .le 9), (103, .aload 0), (104, .getstatic 1110), (107, .iload 1), (108, .iload 2), (109, .iconst (1)), (110, .isub), (111, .iastore), (112, .aload 0), (113, .getstatic 1111), (116, .iload 1), (117, .iload 2), (118, .iastore), (119, .aload 0), (120, .getstatic 1112), (123, .iload 1), (124, .dup2), (125, .iaload), (126, .iconst (1)), (127, .iadd), (128, .iastore), (129, .goto_w 9)]
def bX11_task_9 : CD := [(129, .aload 0), (130, .getstatic 1111), (133, .iload 1), (134, .iaload), (135, .aload 0), (136, .getstatic 1110), (139, .iload 1), (140, .iaload), (141, .isub), (142, .ireturn)]
def bX11_task : List CD := [bX11_task_0, bX11_task_1, bX11_task_2, bX11_task_3, bX11_task_4, bX11_task_5, bX11_task_6, bX11_task_7, bX11_task_8, bX11_task_9]
theorem kX11_task : bX11_task.all (chkL 11 false cX11_task bX11_task) = true := by decide +kernel
theorem mX11_task : MB 158 bX11_task 1 4 := ⟨by decide, by decide +kernel, kX11_task, rfl, rfl⟩
def bX11_feed_0 : CD := [(0, .aload 0), (1, .iconst (0)), (2, .putfield 1100), (5, .aload 0), (6, .getstatic 1102), (9, .iconst (0)), (10, .iaload), (11, .iconst (20)), (13, .iadd), (14, .iconst (500)), (17, .if_icmp .le 1), (20, .iconst (-1)), (21, .ireturn)]
def bX11_feed_1 : CD := [(22, .aload 0), (23, .iload 1), (24, .invokeinterface 163 12020), (27, .aload 0), (28, .iload 2), (29, .invokeinterface 163 12020), (32, .aload 0), (33, .iload 3), (34, .invokeinterface 163 12020), (37, .aload 0), (38, .iload 4), (40, .invokeinterface 163 12020), (43, .aload 0), (44, .iload 5), (46, .invokeinterface 163 12020), (49, .aload 0), (50, .getstatic 1102), (53, .iconst (0)), (54, .iaload), (55, .ireturn)]
def bX11_feed : List CD := [bX11_feed_0, bX11_feed_1]
theorem kX11_feed : bX11_feed.all (chkL 11 false cX11_feed bX11_feed) = true := by decide +kernel
theorem mX11_feed : MB 162 bX11_feed 1 6 := ⟨by decide, by decide +kernel, kX11_feed, rfl, rfl⟩
def bX11_four_0 : CD := [(0, .iconst (24)), (2, .istore 2), (3, .goto_w 100003)]
def bX11_four_1 : CD := [(3, .iload 2), (4, .ifCond .lt 2), (7, .aload 0), (8, .getstatic 1101), (11, .aload 0), (12, .getstatic 1102), (15, .iconst (0)), (16, .iaload), (17, .iload 1), (18, .iload 2), (19, .ishr), (20, .i2b), (21, .bastore), (22, .aload 0), (23, .getstatic 1102), (26, .iconst (0)), (27, .dup2), (28, .iaload), (29, .iconst (1)), (30, .iadd), (31, .iastore), (32, .iinc 2 (-8)), (35, .goto 100003)]
def bX11_four_2 : CD := [(38, .return_)]
def bX11_four : List CD := [bX11_four_0, bX11_four_1, bX11_four_2]
theorem kX11_four : bX11_four.all (chkL 11 false cX11_four bX11_four) = true := by decide +kernel
theorem mX11_four : MB 163 bX11_four 0 3 := ⟨by decide, by decide +kernel, kX11_four, rfl, rfl⟩
def bX11_end_0 : CD := [(0, .aload 0), (1, .iconst (0)), (2, .putfield 1100), (5, .iload 1), (6, .iconst (0)), (7, .aload 0), (8, .getstatic 1102), (11, .iconst (0)), (12, .iaload), (13, .invokeinterface 136 31), (16, .ifCond .ne 1), (19, .iconst (-1)), (20, .ireturn)]
def bX11_end_1 : CD := [(21, .aload 0), (22, .getstatic 1102), (25, .iconst (0)), (26, .iload 1), (27, .iastore), (28, .iload 1), (29, .ireturn)]
def bX11_end : List CD := [bX11_end_0, bX11_end_1]
theorem kX11_end : bX11_end.all (chkL 11 false cX11_end bX11_end) = true := by decide +kernel
theorem mX11_end : MB 164 bX11_end 1 2 := ⟨by decide, by decide +kernel, kX11_end, rfl, rfl⟩
def bX11_host_0 : CD := [(0, .aload 0), (1, .iconst (0)), (2, .putfield 1100), (5, .aload 0), (6, .getstatic 1136), (9, .iconst (0)), (10, .iaload), (11, .iconst (8)), (13, .if_icmp .ne 1), (16, .iconst (-1)), (17, .ireturn)]
def bX11_host_1 : CD := [(18, .aload 0), (19, .getstatic 1136), (22, .iconst (0)), (23, .iaload), (24, .istore 1), (25, .aload 0), (26, .getstatic 1136), (29, .iconst (0)), (30, .dup2), (31, .iaload), (32, .iconst (1)), (33, .iadd), (34, .iastore), (35, .iconst (0)), (36, .istore 2), (37, .goto_w 100037)]
def bX11_host_2 : CD := [(37, .iload 2), (38, .iconst (24)), (40, .if_icmp .ge 3), (43, .aload 0), (44, .getstatic 1137), (47, .iconst (24)), (49, .iload 1), (50, .imul), (51, .iload 2), (52, .iadd), (53, .iconst (0)), (54, .iastore), (55, .iinc 2 (1)), (58, .goto 100037)]
def bX11_host_3 : CD := [(61, .iload 1), (62, .ireturn)]
def bX11_host : List CD := [bX11_host_0, bX11_host_1, bX11_host_2, bX11_host_3]
theorem kX11_host : bX11_host.all (chkL 11 false cX11_host bX11_host) = true := by decide +kernel
theorem mX11_host : MB 193 bX11_host 1 3 := ⟨by decide, by decide +kernel, kX11_host, rfl, rfl⟩
def bX11_like_0 : CD := [(0, .aload 0), (1, .iconst (0)), (2, .putfield 1100), (5, .iload 1), (6, .iconst (0)), (7, .aload 0), (8, .getstatic 1136), (11, .iconst (0)), (12, .iaload), (13, .iconst (1)), (14, .isub), (15, .invokeinterface 136 31), (18, .ifCond .eq 1), (21, .aload 0), (22, .iload 2), (23, .invokeinterface 140 12021), (26, .ifCond .eq 1), (29, .iload 3), (30, .iconst (-1)), (31, .iconst (9)), (33, .invokeinterface 136 31), (36, .ifCond .ne 2), (39, .goto_w 1)]
def bX11_like_1 : CD := [(39, .iconst (0)), (40, .ireturn)]
def bX11_like_2 : CD := [(41, .aload 0), (42, .getstatic 1137), (45, .iconst (24)), (47, .iload 1), (48, .imul), (49, .iload 2), (50, .iadd), (51, .iload 3), (52, .iastore), (53, .iconst (1)), (54, .ireturn)]
def bX11_like : List CD := [bX11_like_0, bX11_like_1, bX11_like_2]
theorem kX11_like : bX11_like.all (chkL 11 false cX11_like bX11_like) = true := by decide +kernel
theorem mX11_like : MB 194 bX11_like 2 4 := ⟨by decide, by decide +kernel, kX11_like, rfl, rfl⟩
