def bX0_hasChild_0 : CD := [(0, .iload 1), (1, .ifCond .lt 1), (4, .iload 1), (5, .aload 0), (6, .getfield 1), (9, .if_icmp .ge 1), (12, .iconst (1)), (13, .goto 2)]
def bX0_hasChild_1 : CD := [(16, .iconst (0)), (17, .goto_w 2)]
def bX0_hasChild_2 : CD := [(17, .ireturn)]
def bX0_hasChild : List CD := [bX0_hasChild_0, bX0_hasChild_1, bX0_hasChild_2]
theorem kX0_hasChild : bX0_hasChild.all (chkL 0 false cX0_hasChild bX0_hasChild) = true := by decide +kernel
theorem mX0_hasChild : MB 2 bX0_hasChild 2 2 := ⟨by decide, by decide +kernel, kX0_hasChild, rfl, rfl⟩
def bX0_hasCabin_0 : CD := [(0, .iload 1), (1, .ifCond .lt 1), (4, .iload 1), (5, .aload 0), (6, .getfield 4), (9, .if_icmp .ge 1), (12, .iconst (1)), (13, .goto 2)]
def bX0_hasCabin_1 : CD := [(16, .iconst (0)), (17, .goto_w 2)]
def bX0_hasCabin_2 : CD := [(17, .ireturn)]
def bX0_hasCabin : List CD := [bX0_hasCabin_0, bX0_hasCabin_1, bX0_hasCabin_2]
theorem kX0_hasCabin : bX0_hasCabin.all (chkL 0 false cX0_hasCabin bX0_hasCabin) = true := by decide +kernel
theorem mX0_hasCabin : MB 3 bX0_hasCabin 2 2 := ⟨by decide, by decide +kernel, kX0_hasCabin, rfl, rfl⟩
def bX0_hasHost_0 : CD := [(0, .iload 1), (1, .ifCond .lt 1), (4, .iload 1), (5, .aload 0), (6, .getfield 8), (9, .if_icmp .ge 1), (12, .iconst (1)), (13, .goto 2)]
def bX0_hasHost_1 : CD := [(16, .iconst (0)), (17, .goto_w 2)]
def bX0_hasHost_2 : CD := [(17, .ireturn)]
def bX0_hasHost : List CD := [bX0_hasHost_0, bX0_hasHost_1, bX0_hasHost_2]
theorem kX0_hasHost : bX0_hasHost.all (chkL 0 false cX0_hasHost bX0_hasHost) = true := by decide +kernel
theorem mX0_hasHost : MB 4 bX0_hasHost 2 2 := ⟨by decide, by decide +kernel, kX0_hasHost, rfl, rfl⟩
def bX0_bedCount_0 : CD := [(0, .iconst (0)), (1, .istore 1), (2, .iconst (0)), (3, .istore 2), (4, .goto_w 100004)]
def bX0_bedCount_1 : CD := [(4, .iload 2), (5, .aload 0), (6, .getfield 4), (9, .if_icmp .ge 2), (12, .iload 1), (13, .aload 0), (14, .getstatic 3), (17, .iload 2), (18, .iaload), (19, .iadd), (20, .istore 1), (21, .iinc 2 (1)), (24, .goto 100004)]
def bX0_bedCount_2 : CD := [(27, .iload 1), (28, .ireturn)]
def bX0_bedCount : List CD := [bX0_bedCount_0, bX0_bedCount_1, bX0_bedCount_2]
theorem kX0_bedCount : bX0_bedCount.all (chkL 0 false cX0_bedCount bX0_bedCount) = true := by decide +kernel
theorem mX0_bedCount : MB 5 bX0_bedCount 1 3 := ⟨by decide, by decide +kernel, kX0_bedCount, rfl, rfl⟩
def bX0_lyingIn_0 : CD := [(0, .iconst (0)), (1, .istore 2), (2, .iconst (0)), (3, .istore 3), (4, .goto_w 100004)]
def bX0_lyingIn_1 : CD := [(4, .iload 3), (5, .aload 0), (6, .getfield 1), (9, .if_icmp .ge 3), (12, .aload 0), (13, .getstatic 0), (16, .iload 3), (17, .aaload), (18, .getfield 104), (21, .iload 1), (22, .if_icmp .ne 2), (25, .iinc 2 (1)), (28, .goto_w 2)]
def bX0_lyingIn_2 : CD := [(28, .iinc 3 (1)), (31, .goto 100004)]
def bX0_lyingIn_3 : CD := [(34, .iload 2), (35, .ireturn)]
def bX0_lyingIn : List CD := [bX0_lyingIn_0, bX0_lyingIn_1, bX0_lyingIn_2, bX0_lyingIn_3]
theorem kX0_lyingIn : bX0_lyingIn.all (chkL 0 false cX0_lyingIn bX0_lyingIn) = true := by decide +kernel
theorem mX0_lyingIn : MB 6 bX0_lyingIn 1 4 := ⟨by decide, by decide +kernel, kX0_lyingIn, rfl, rfl⟩
def bX0_tokenCount_0 : CD := [(0, .iconst (0)), (1, .istore 1), (2, .iconst (0)), (3, .istore 2), (4, .goto_w 100004)]
def bX0_tokenCount_1 : CD := [(4, .iload 2), (5, .aload 0), (6, .getfield 1), (9, .if_icmp .ge 2), (12, .iload 1), (13, .aload 0), (14, .getstatic 0), (17, .iload 2), (18, .aaload), (19, .getfield 109), (22, .iadd), (23, .istore 1), (24, .iinc 2 (1)), (27, .goto 100004)]
def bX0_tokenCount_2 : CD := [(30, .iload 1), (31, .ireturn)]
def bX0_tokenCount : List CD := [bX0_tokenCount_0, bX0_tokenCount_1, bX0_tokenCount_2]
theorem kX0_tokenCount : bX0_tokenCount.all (chkL 0 false cX0_tokenCount bX0_tokenCount) = true := by decide +kernel
theorem mX0_tokenCount : MB 7 bX0_tokenCount 1 3 := ⟨by decide, by decide +kernel, kX0_tokenCount, rfl, rfl⟩
def bX0_markedCount_0 : CD := [(0, .iconst (0)), (1, .istore 1), (2, .iconst (0)), (3, .istore 2), (4, .goto_w 100004)]
def bX0_markedCount_1 : CD := [(4, .iload 2), (5, .aload 0), (6, .getfield 1), (9, .if_icmp .ge 3), (12, .aload 0), (13, .getstatic 0), (16, .iload 2), (17, .aaload), (18, .getfield 114), (21, .ifCond .eq 2), (24, .iinc 1 (1)), (27, .goto_w 2)]
def bX0_markedCount_2 : CD := [(27, .iinc 2 (1)), (30, .goto 100004)]
def bX0_markedCount_3 : CD := [(33, .iload 1), (34, .ireturn)]
def bX0_markedCount : List CD := [bX0_markedCount_0, bX0_markedCount_1, bX0_markedCount_2, bX0_markedCount_3]
theorem kX0_markedCount : bX0_markedCount.all (chkL 0 false cX0_markedCount bX0_markedCount) = true := by decide +kernel
theorem mX0_markedCount : MB 8 bX0_markedCount 1 3 := ⟨by decide, by decide +kernel, kX0_markedCount, rfl, rfl⟩
def bX0_addToTape_0 : CD := [(0, .iconst (24)), (2, .istore 2), (3, .goto_w 100003)]
def bX0_addToTape_1 : CD := [(3, .iload 2), (4, .ifCond .lt 2), (7, .aload 0), (8, .getfield 13), (11, .iconst (500)), (14, .if_icmp .ge 2), (17, .aload 0), (18, .getstatic 12), (21, .aload 0), (22, .getfield 13), (25, .iload 1), (26, .iload 2), (27, .ishr), (28, .i2b), (29, .bastore), (30, .aload 0), (31, .dup), (32, .getfield 13), (35, .iconst (1)), (36, .iadd), (37, .putfield 13), (40, .iinc 2 (-8)), (43, .goto 100003)]
def bX0_addToTape_2 : CD := [(46, .return_)]
def bX0_addToTape : List CD := [bX0_addToTape_0, bX0_addToTape_1, bX0_addToTape_2]
theorem kX0_addToTape : bX0_addToTape.all (chkL 0 false cX0_addToTape bX0_addToTape) = true := by decide +kernel
theorem mX0_addToTape : MB 9 bX0_addToTape 0 3 := ⟨by decide, by decide +kernel, kX0_addToTape, rfl, rfl⟩
def bX1_begin_0 : CD := [(0, .aload 0), (1, .iload 1), (2, .putfield 100), (5, .aload 0), (6, .iload 2), (7, .putfield 101), (10, .aload 0), (11, .iload 3), (12, .instanceof 102), (15, .aload 0), (16, .iconst (0)), (17, .putfield 103), (20, .aload 0), (21, .iconst (-1)), (22, .putfield 104), (25, .aload 0), (26, .iconst (0)), (27, .putfield 105), (30, .aload 0), (31, .iconst (10)), (33, .putfield 106), (36, .aload 0), (37, .iconst (0)), (38, .putfield 107), (41, .aload 0), (42, .iconst (-1)), (43, .putfield 108), (46, .aload 0), (47, .iconst (10)), (49, .putfield 109), (52, .aload 0), (53, .iconst (0)), (54, .putfield 110), (57, .aload 0), (58, .iconst (0)), (59, .putfield 111), (62, .aload 0), (63, .iconst (0)), (64, .instanceof 112), (67, .aload 0), (68, .iconst (-1)), (69, .putfield 113), (72, .aload 0), (73, .iconst (0)), (74, .instanceof 114), (77, .aload 0), (78, .iconst (0)), (79, .putfield 115), (82, .aload 0), (83, .iconst (0)), (84, .putfield 116), (87, .return_)]
def bX1_begin : List CD := [bX1_begin_0]
theorem kX1_begin : bX1_begin.all (chkL 1 false cX1_begin bX1_begin) = true := by decide +kernel
theorem mX1_begin : MB 11 bX1_begin 0 4 := ⟨by decide, by decide +kernel, kX1_begin, rfl, rfl⟩
def bX1_isBarredFrom_0 : CD := [(0, .aload 0), (1, .getfield 103), (4, .iload 1), (5, .ishr), (6, .iconst (1)), (7, .iand), (8, .ifCond .eq 1), (11, .iconst (1)), (12, .goto 2)]
def bX1_isBarredFrom_1 : CD := [(15, .iconst (0)), (16, .goto_w 2)]
def bX1_isBarredFrom_2 : CD := [(16, .ireturn)]
def bX1_isBarredFrom : List CD := [bX1_isBarredFrom_0, bX1_isBarredFrom_1, bX1_isBarredFrom_2]
theorem kX1_isBarredFrom : bX1_isBarredFrom.all (chkL 1 false cX1_isBarredFrom bX1_isBarredFrom) = true := by decide +kernel
theorem mX1_isBarredFrom : MB 13 bX1_isBarredFrom 2 2 := ⟨by decide, by decide +kernel, kX1_isBarredFrom, rfl, rfl⟩
def bX1_tryTask_0 : CD := [(0, .iload 2), (1, .ifCond .eq 1), (4, .aload 0), (5, .aload 0), (6, .getfield 105), (9, .iload 1), (10, .fadd), (13, .putfield 105), (16, .goto 2)]
def bX1_tryTask_1 : CD := [(19, .aload 0), (20, .aload 0), (21, .getfield 106), (24, .iload 1), (25, .iconst (1)), (26, .isub), (27, .fsub), (30, .putfield 106), (33, .goto_w 2)]
def bX1_tryTask_2 : CD := [(33, .aload 0), (34, .getfield 105), (37, .aload 0), (38, .getfield 106), (41, .if_icmp .le 3), (44, .aload 0), (45, .iload 1), (46, .iconst (1)), (47, .isub), (48, .putfield 105), (51, .aload 0), (52, .iload 1), (53, .putfield 106), (56, .aload 0), (57, .dup), (58, .getfield 107), (61, .iconst (1)), (62, .iadd), (63, .putfield 107), (66, .goto_w 3)]
def bX1_tryTask_3 : CD := [(66, .return_)]
def bX1_tryTask : List CD := [bX1_tryTask_0, bX1_tryTask_1, bX1_tryTask_2, bX1_tryTask_3]
theorem kX1_tryTask : bX1_tryTask.all (chkL 1 false cX1_tryTask bX1_tryTask) = true := by decide +kernel
theorem mX1_tryTask : MB 14 bX1_tryTask 0 3 := ⟨by decide, by decide +kernel, kX1_tryTask, rfl, rfl⟩
def bX1_nextHardness_0 : CD := [(0, .aload 0), (1, .getfield 105), (4, .aload 0), (5, .getfield 106), (8, .if_icmp .ge 1), (11, .aload 0), (12, .getfield 105), (15, .aload 0), (16, .getfield 106), (19, .iadd), (20, .iconst (1)), (21, .iadd), (22, .iconst (2)), (23, .idiv), (24, .goto 2)]
def bX1_nextHardness_1 : CD := [(27, .iconst (-1)), (28, .goto_w 2)]
def bX1_nextHardness_2 : CD := [(28, .ireturn)]
def bX1_nextHardness : List CD := [bX1_nextHardness_0, bX1_nextHardness_1, bX1_nextHardness_2]
theorem kX1_nextHardness : bX1_nextHardness.all (chkL 1 false cX1_nextHardness bX1_nextHardness) = true := by decide +kernel
theorem mX1_nextHardness : MB 15 bX1_nextHardness 1 1 := ⟨by decide, by decide +kernel, kX1_nextHardness, rfl, rfl⟩
def bX6_costOfAll_0 : CD := [(0, .iconst (0)), (1, .istore 1), (2, .iconst (0)), (3, .istore 2), (4, .goto_w 100004)]
def bX6_costOfAll_1 : CD := [(4, .iload 2), (5, .aload 0), (6, .getstatic 600), (9, .getfield 4), (12, .if_icmp .ge 2), (15, .iload 1), (16, .aload 0), (17, .iload 2), (18, .invokeinterface 44 7021), (21, .iadd), (22, .istore 1), (23, .iinc 2 (1)), (26, .goto 100004)]
def bX6_costOfAll_2 : CD := [(29, .iload 1), (30, .ireturn)]
def bX6_costOfAll : List CD := [bX6_costOfAll_0, bX6_costOfAll_1, bX6_costOfAll_2]
theorem kX6_costOfAll : bX6_costOfAll.all (chkL 6 false cX6_costOfAll bX6_costOfAll) = true := by decide +kernel
theorem mX6_costOfAll : MB 43 bX6_costOfAll 1 3 := ⟨by decide, by decide +kernel, kX6_costOfAll, rfl, rfl⟩
def bX6_costOf_0 : CD := [(0, .iconst (0)), (1, .istore 2), (2, .iconst (0)), (3, .istore 3), (4, .iconst (0)), (5, .istore 4), (7, .goto_w 100007)]
def bX6_costOf_1 : CD := [(7, .iload 4), (9, .aload 0), (10, .getstatic 600), (13, .getfield 1), (16, .if_icmp .ge 3), (19, .aload 0), (20, .getstatic 600), (23, .getstatic 0), (26, .iload 4), (28, .aaload), (29, .getfield 104), (32, .iload 1), (33, .if_icmp .ne 2), (36, .iload 3), (37, .aload 0), (38, .iload 4), (40, .invokeinterface 47 7021), (43, .iadd), (44, .istore 3), (45, .iload 2), (46, .aload 0), (47, .iload 4), (49, .iload 1), (50, .invokeinterface 45 7031), (53, .iadd), (54, .istore 2), (55, .goto_w 2)]
def bX6_costOf_2 : CD := [(55, .iinc 4 (1)), (58, .goto 100007)]
def bX6_costOf_3 : CD := [(61, .iload 2), (62, .iload 3), (63, .invokeinterface 48 11), (66, .iadd), (67, .ireturn)]
def bX6_costOf : List CD := [bX6_costOf_0, bX6_costOf_1, bX6_costOf_2, bX6_costOf_3]
theorem kX6_costOf : bX6_costOf.all (chkL 6 false cX6_costOf bX6_costOf) = true := by decide +kernel
theorem mX6_costOf : MB 44 bX6_costOf 1 5 := ⟨by decide, by decide +kernel, kX6_costOf, rfl, rfl⟩
def bX6_costBehind_0 : CD := [(0, .iconst (0)), (1, .istore 3), (2, .iload 1), (3, .iconst (1)), (4, .iadd), (5, .istore 4), (7, .goto_w 100007)]
def bX6_costBehind_1 : CD := [(7, .iload 4), (9, .aload 0), (10, .getstatic 600), (13, .getfield 1), (16, .if_icmp .ge 3), (19, .aload 0), (20, .getstatic 600), (23, .getstatic 0), (26, .iload 4), (28, .aaload), (29, .getfield 104), (32, .iload 2), (33, .if_icmp .ne 2), (36, .iload 3), (37, .aload 0), (38, .iload 1), (39, .iload 4), (41, .invokeinterface 46 7031), (44, .iadd), (45, .istore 3), (46, .goto_w 2)]
def bX6_costBehind_2 : CD := [(46, .iinc 4 (1)), (49, .goto 100007)]
def bX6_costBehind_3 : CD := [(52, .iload 3), (53, .ireturn)]
def bX6_costBehind : List CD := [bX6_costBehind_0, bX6_costBehind_1, bX6_costBehind_2, bX6_costBehind_3]
theorem kX6_costBehind : bX6_costBehind.all (chkL 6 false cX6_costBehind bX6_costBehind) = true := by decide +kernel
theorem mX6_costBehind : MB 45 bX6_costBehind 1 5 := ⟨by decide, by decide +kernel, kX6_costBehind, rfl, rfl⟩
def bX6_between_0 : CD := [(0, .aload 0), (1, .getstatic 600), (4, .getstatic 0), (7, .iload 1), (8, .aaload), (9, .astore 3), (10, .aload 0), (11, .getstatic 600), (14, .getstatic 0), (17, .iload 2), (18, .aaload), (19, .astore 4), (21, .aload 3), (22, .getfield 100), (25, .aload 4), (27, .getfield 100), (30, .if_icmp .ne 1), (33, .iconst (30)), (35, .goto 2)]
def bX6_between_1 : CD := [(38, .iconst (0)), (39, .goto_w 2)]
def bX6_between_2 : CD := [(39, .istore 5), (41, .aload 3), (42, .iload 2), (43, .invokeinterface 13 2021), (46, .ifCond .eq 3), (49, .iinc 5 (300)), (55, .goto_w 3)]
def bX6_between_3 : CD := [(55, .iload 5), (57, .iconst (5)), (58, .iconst (0)), (59, .aload 3), (60, .getfield 101), (63, .aload 4), (65, .getfield 101), (68, .isub), (69, .fneg), (72, .iconst (2)), (73, .isub), (74, .fadd), (77, .imul), (78, .iadd), (79, .ireturn)]
def bX6_between : List CD := [bX6_between_0, bX6_between_1, bX6_between_2, bX6_between_3]
theorem kX6_between : bX6_between.all (chkL 6 false cX6_between bX6_between) = true := by decide +kernel
theorem mX6_between : MB 46 bX6_between 1 6 := ⟨by decide, by decide +kernel, kX6_between, rfl, rfl⟩
def bX6_shyness_0 : CD := [(0, .aload 0), (1, .getstatic 600), (4, .getstatic 0), (7, .iload 1), (8, .aaload), (9, .getfield 102), (12, .ifCond .eq 1), (15, .iconst (1)), (16, .goto 2)]
def bX6_shyness_1 : CD := [(19, .iconst (0)), (20, .goto_w 2)]
def bX6_shyness_2 : CD := [(20, .ireturn)]
def bX6_shyness : List CD := [bX6_shyness_0, bX6_shyness_1, bX6_shyness_2]
theorem kX6_shyness : bX6_shyness.all (chkL 6 false cX6_shyness bX6_shyness) = true := by decide +kernel
theorem mX6_shyness : MB 47 bX6_shyness 1 2 := ⟨by decide, by decide +kernel, kX6_shyness, rfl, rfl⟩
def bX6_lonely_0 : CD := [(0, .iload 0), (1, .iconst (1)), (2, .if_icmp .ne 1), (5, .iconst (12)), (7, .goto 2)]
def bX6_lonely_1 : CD := [(10, .iconst (0)), (11, .goto_w 2)]
def bX6_lonely_2 : CD := [(11, .ireturn)]
def bX6_lonely : List CD := [bX6_lonely_0, bX6_lonely_1, bX6_lonely_2]
theorem kX6_lonely : bX6_lonely.all (chkL 6 false cX6_lonely bX6_lonely) = true := by decide +kernel
theorem mX6_lonely : MB 48 bX6_lonely 1 1 := ⟨by decide, by decide +kernel, kX6_lonely, rfl, rfl⟩
def bX10_within_0 : CD := [(0, .iload 0), (1, .iload 1), (2, .if_icmp .lt 1), (5, .iload 0), (6, .iload 2), (7, .if_icmp .gt 1), (10, .iconst (1)), (11, .goto 2)]
def bX10_within_1 : CD := [(14, .iconst (0)), (15, .goto_w 2)]
def bX10_within_2 : CD := [(15, .ireturn)]
def bX10_within : List CD := [bX10_within_0, bX10_within_1, bX10_within_2]
theorem kX10_within : bX10_within.all (chkL 10 false cX10_within bX10_within) = true := by decide +kernel
theorem mX10_within : MB 99 bX10_within 2 3 := ⟨by decide, by decide +kernel, kX10_within, rfl, rfl⟩
def bX10_child_0 : CD := [(0, .aload 0), (1, .getstatic 1000), (4, .getfield 1), (7, .iconst (24)), (9, .if_icmp .ge 1), (12, .iload 1), (13, .iconst (0)), (14, .iconst (5)), (15, .invokeinterface 99 31), (18, .ifCond .eq 1), (21, .iload 2), (22, .iconst (8)), (24, .iconst (17)), (26, .invokeinterface 99 31), (29, .ifCond .ne 2), (32, .goto_w 1)]
def bX10_child_1 : CD := [(32, .iconst (-1)), (33, .ireturn)]
def bX10_child_2 : CD := [(34, .aload 0), (35, .getstatic 1000), (38, .getfield 1), (41, .istore 4), (43, .aload 0), (44, .getstatic 1000), (47, .getstatic 0), (50, .iload 4), (52, .aaload), (53, .iload 1), (54, .iload 2), (55, .iload 3), (56, .invokeinterface 11 2040), (59, .aload 0), (60, .getstatic 1000), (63, .iload 4), (65, .iconst (1)), (66, .iadd), (67, .putfield 1), (70, .iload 4), (72, .ireturn)]
def bX10_child : List CD := [bX10_child_0, bX10_child_1, bX10_child_2]
theorem kX10_child : bX10_child.all (chkL 10 false cX10_child bX10_child) = true := by decide +kernel
theorem mX10_child : MB 100 bX10_child 1 5 := ⟨by decide, by decide +kernel, kX10_child, rfl, rfl⟩
def bX10_bar_0 : CD := [(0, .aload 0), (1, .getstatic 1000), (4, .iload 1), (5, .invokeinterface 2 1021), (8, .ifCond .eq 1), (11, .aload 0), (12, .getstatic 1000), (15, .iload 2), (16, .invokeinterface 2 1021), (19, .ifCond .eq 1), (22, .iload 1), (23, .iload 2), (24, .if_icmp .ne 2), (27, .goto_w 1)]
def bX10_bar_1 : CD := [(27, .iconst (0)), (28, .ireturn)]
def bX10_bar_2 : CD := [(29, .aload 0), (30, .getstatic 1000), (33, .getstatic 0), (36, .iload 1), (37, .aaload), (38, .astore 3), (39, .aload 0), (40, .getstatic 1000), (43, .getstatic 0), (46, .iload 2), (47, .aaload), (48, .astore 4), (50, .aload 3), (51, .iload 2), (52, .invokeinterface 13 2021), (55, .ifCond .ne 3), (58, .aload 0), (59, .getstatic 1000), (62, .getfield 2), (65, .iconst (30)), (67, .if_icmp .lt 4), (70, .goto_w 3)]
def bX10_bar_3 : CD := [(70, .iconst (0)), (71, .ireturn)]
def bX10_bar_4 : CD := [(72, .aload 3), (73, .dup), (74, .getfield 103), (77, .iconst (1)), (78, .iload 2), (79, .ishl), (80, .ior), (81, .putfield 103), (84, .aload 4), (86, .dup), (87, .getfield 103), (90, .iconst (1)), (91, .iload 1), (92, .ishl), (93, .ior), (94, .putfield 103), (97, .aload 0), (98, .getstatic 1000), (101, .dup), (102, .getfield 2), (105, .iconst (1)), (106, .iadd), (107, .putfield 2), (110, .iconst (1)), (111, .ireturn)]
def bX10_bar : List CD := [bX10_bar_0, bX10_bar_1, bX10_bar_2, bX10_bar_3, bX10_bar_4]
theorem kX10_bar : bX10_bar.all (chkL 10 false cX10_bar bX10_bar) = true := by decide +kernel
theorem mX10_bar : MB 101 bX10_bar 2 5 := ⟨by decide, by decide +kernel, kX10_bar, rfl, rfl⟩
def bX10_cabin_0 : CD := [(0, .aload 0), (1, .getstatic 1000), (4, .getfield 4), (7, .iconst (6)), (9, .if_icmp .ge 1), (12, .iload 1), (13, .iconst (1)), (14, .iconst (8)), (16, .invokeinterface 99 31), (19, .ifCond .ne 2), (22, .goto_w 1)]
def bX10_cabin_1 : CD := [(22, .iconst (-1)), (23, .ireturn)]
def bX10_cabin_2 : CD := [(24, .aload 0), (25, .getstatic 1000), (28, .getfield 4), (31, .istore 2), (32, .aload 0), (33, .getstatic 1000), (36, .getstatic 3), (39, .iload 2), (40, .iload 1), (41, .iastore), (42, .aload 0), (43, .getstatic 1000), (46, .iload 2), (47, .iconst (1)), (48, .iadd), (49, .putfield 4), (52, .iload 2), (53, .ireturn)]
def bX10_cabin : List CD := [bX10_cabin_0, bX10_cabin_1, bX10_cabin_2]
theorem kX10_cabin : bX10_cabin.all (chkL 10 false cX10_cabin bX10_cabin) = true := by decide +kernel
theorem mX10_cabin : MB 102 bX10_cabin 1 3 := ⟨by decide, by decide +kernel, kX10_cabin, rfl, rfl⟩
def bX10_lie_0 : CD := [(0, .aload 0), (1, .getstatic 1000), (4, .iload 1), (5, .invokeinterface 2 1021), (8, .ifCond .eq 1), (11, .iload 2), (12, .iconst (-1)), (13, .if_icmp .eq 2), (16, .aload 0), (17, .getstatic 1000), (20, .iload 2), (21, .invokeinterface 3 1021), (24, .ifCond .ne 2), (27, .goto_w 1)]
def bX10_lie_1 : CD := [(27, .iconst (0)), (28, .ireturn)]
def bX10_lie_2 : CD := [(29, .aload 0), (30, .getstatic 1000), (33, .getstatic 0), (36, .iload 1), (37, .aaload), (38, .astore 3), (39, .aload 3), (40, .getfield 104), (43, .iload 2), (44, .if_icmp .eq 3), (47, .iload 2), (48, .iconst (-1)), (49, .if_icmp .eq 4), (52, .aload 0), (53, .getstatic 1000), (56, .iload 2), (57, .invokeinterface 6 1021), (60, .aload 0), (61, .getstatic 1000), (64, .getstatic 3), (67, .iload 2), (68, .iaload), (69, .if_icmp .lt 4), (72, .goto_w 3)]
def bX10_lie_3 : CD := [(72, .iconst (0)), (73, .ireturn)]
def bX10_lie_4 : CD := [(74, .aload 3), (75, .iload 2), (76, .putfield 104), (79, .iconst (1)), (80, .ireturn)]
def bX10_lie : List CD := [bX10_lie_0, bX10_lie_1, bX10_lie_2, bX10_lie_3, bX10_lie_4]
theorem kX10_lie : bX10_lie.all (chkL 10 false cX10_lie bX10_lie) = true := by decide +kernel
theorem mX10_lie : MB 103 bX10_lie 2 4 := ⟨by decide, by decide +kernel, kX10_lie, rfl, rfl⟩
def bX10_task_0 : CD := [(0, .aload 0), (1, .getstatic 1000), (4, .iload 1), (5, .invokeinterface 2 1021), (8, .ifCond .eq 1), (11, .iload 2), (12, .iconst (1)), (13, .iconst (10)), (15, .invokeinterface 99 31), (18, .ifCond .ne 2), (21, .goto_w 1)]
def bX10_task_1 : CD := [(21, .iconst (-1)), (22, .ireturn)]
def bX10_task_2 : CD := [(23, .aload 0), (24, .getstatic 1000), (27, .getstatic 0), (30, .iload 1), (31, .aaload), (32, .astore 4), (34, .aload 4), (36, .iload 2), (37, .iload 3), (38, .invokeinterface 14 2030), (41, .aload 4), (43, .getfield 106), (46, .aload 4), (48, .getfield 105), (51, .isub), (52, .ireturn)]
def bX10_task : List CD := [bX10_task_0, bX10_task_1, bX10_task_2]
theorem kX10_task : bX10_task.all (chkL 10 false cX10_task bX10_task) = true := by decide +kernel
theorem mX10_task : MB 109 bX10_task 1 5 := ⟨by decide, by decide +kernel, kX10_task, rfl, rfl⟩
def bX10_feed_0 : CD := [(0, .aload 0), (1, .getstatic 1000), (4, .getfield 13), (7, .iconst (20)), (9, .iadd), (10, .iconst (500)), (13, .if_icmp .le 1), (16, .iconst (-1)), (17, .ireturn)]
def bX10_feed_1 : CD := [(18, .aload 0), (19, .getstatic 1000), (22, .iload 1), (23, .invokeinterface 9 1020), (26, .aload 0), (27, .getstatic 1000), (30, .iload 2), (31, .invokeinterface 9 1020), (34, .aload 0), (35, .getstatic 1000), (38, .iload 3), (39, .invokeinterface 9 1020), (42, .aload 0), (43, .getstatic 1000), (46, .iload 4), (48, .invokeinterface 9 1020), (51, .aload 0), (52, .getstatic 1000), (55, .iload 5), (57, .invokeinterface 9 1020), (60, .aload 0), (61, .getstatic 1000), (64, .getfield 13), (67, .ireturn)]
def bX10_feed : List CD := [bX10_feed_0, bX10_feed_1]
theorem kX10_feed : bX10_feed.all (chkL 10 false cX10_feed bX10_feed) = true := by decide +kernel
theorem mX10_feed : MB 111 bX10_feed 1 6 := ⟨by decide, by decide +kernel, kX10_feed, rfl, rfl⟩
def bX10_end_0 : CD := [(0, .iload 1), (1, .iconst (0)), (2, .aload 0), (3, .getstatic 1000), (6, .getfield 13), (9, .invokeinterface 99 31), (12, .ifCond .ne 1), (15, .iconst (-1)), (16, .ireturn)]
def bX10_end_1 : CD := [(17, .aload 0), (18, .getstatic 1000), (21, .iload 1), (22, .putfield 13), (25, .iload 1), (26, .ireturn)]
def bX10_end : List CD := [bX10_end_0, bX10_end_1]
theorem kX10_end : bX10_end.all (chkL 10 false cX10_end bX10_end) = true := by decide +kernel
theorem mX10_end : MB 112 bX10_end 1 2 := ⟨by decide, by decide +kernel, kX10_end, rfl, rfl⟩
def bX10_fault_0 : CD := [(0, .iload 1), (1, .ifCond .ne 1), (4, .aload 0), (5, .getstatic 1000), (8, .getfield 14), (11, .ireturn)]
def bX10_fault_1 : CD := [(12, .iload 1), (13, .iconst (1)), (14, .if_icmp .ne 2), (17, .aload 0), (18, .getstatic 1000), (21, .getfield 15), (24, .goto 3)]
def bX10_fault_2 : CD := [(27, .iconst (-1)), (28, .goto_w 3)]
def bX10_fault_3 : CD := [(28, .ireturn)]
def bX10_fault : List CD := [bX10_fault_0, bX10_fault_1, bX10_fault_2, bX10_fault_3]
theorem kX10_fault : bX10_fault.all (chkL 10 false cX10_fault bX10_fault) = true := by decide +kernel
theorem mX10_fault : MB 114 bX10_fault 1 2 := ⟨by decide, by decide +kernel, kX10_fault, rfl, rfl⟩
def bX10_tell_0 : CD := [(0, .aload 0), (1, .getstatic 1000), (4, .iload 1), (5, .invokeinterface 2 1021), (8, .ifCond .ne 1), (11, .iconst (-100)), (13, .ireturn)]
def bX10_tell_1 : CD := [(14, .aload 0), (15, .getstatic 1000), (18, .getstatic 0), (21, .iload 1), (22, .aaload), (23, .astore 3), (24, .iload 2), (25, .tableswitch 20 (0) (13) #[2, 3, 4, 7, 8, 9, 10, 11, 12, 13, 14, 15, 16, 17])]
def bX10_tell_2 : CD := [(96, .aload 3), (97, .getfield 100), (100, .ireturn)]
def bX10_tell_3 : CD := [(101, .aload 3), (102, .getfield 101), (105, .ireturn)]
def bX10_tell_4 : CD := [(106, .aload 3), (107, .getfield 102), (110, .ifCond .eq 5), (113, .iconst (1)), (114, .goto 6)]
def bX10_tell_5 : CD := [(117, .iconst (0)), (118, .goto_w 6)]
def bX10_tell_6 : CD := [(118, .ireturn)]
def bX10_tell_7 : CD := [(119, .aload 3), (120, .getfield 104), (123, .ireturn)]
def bX10_tell_8 : CD := [(124, .aload 3), (125, .getfield 105), (128, .ireturn)]
def bX10_tell_9 : CD := [(129, .aload 3), (130, .getfield 106), (133, .ireturn)]
def bX10_tell_10 : CD := [(134, .aload 3), (135, .getfield 107), (138, .ireturn)]
def bX10_tell_11 : CD := [(139, .aload 3), (140, .invokeinterface 15 2011), (143, .ireturn)]
def bX10_tell_12 : CD := [(144, .aload 3), (145, .getfield 108), (148, .ireturn)]
def bX10_tell_13 : CD := [(149, .aload 3), (150, .getfield 109), (153, .ireturn)]
def bX10_tell_14 : CD := [(154, .aload 0), (155, .getstatic 1000), (158, .getfield 9), (161, .aload 3), (162, .getfield 110), (165, .isub), (166, .ireturn)]
def bX10_tell_15 : CD := [(167, .aload 3), (168, .getfield 111), (171, .ireturn)]
def bX10_tell_16 : CD := [(172, .aload 3), (173, .getfield 113), (176, .ireturn)]
def bX10_tell_17 : CD := [(177, .aload 3), (178, .getfield 112), (181, .ifCond .eq 18), (184, .iconst (1)), (185, .goto 19)]
def bX10_tell_18 : CD := [(188, .iconst (0)), (189, .goto_w 19)]
def bX10_tell_19 : CD := [(189, .ireturn)]
def bX10_tell_20 : CD := [(190, .iconst (-100)), (192, .ireturn)]
def bX10_tell : List CD := [bX10_tell_0, bX10_tell_1, bX10_tell_2, bX10_tell_3, bX10_tell_4, bX10_tell_5, bX10_tell_6, bX10_tell_7, bX10_tell_8, bX10_tell_9, bX10_tell_10, bX10_tell_11, bX10_tell_12, bX10_tell_13, bX10_tell_14, bX10_tell_15, bX10_tell_16, bX10_tell_17, bX10_tell_18, bX10_tell_19, bX10_tell_20]
theorem kX10_tell : bX10_tell.all (chkL 10 false cX10_tell bX10_tell) = true := by decide +kernel
theorem mX10_tell : MB 118 bX10_tell 1 4 := ⟨by decide, by decide +kernel, kX10_tell, rfl, rfl⟩
def bX10_helper_0 : CD := [(0, .aload 0), (1, .getstatic 1000), (4, .getfield 6), (7, .iconst (6)), (9, .if_icmp .ge 1), (12, .iload 1), (13, .iconst (0)), (14, .iconst (16383)), (17, .invokeinterface 99 31), (20, .ifCond .ne 2), (23, .goto_w 1)]
def bX10_helper_1 : CD := [(23, .iconst (-1)), (24, .ireturn)]
def bX10_helper_2 : CD := [(25, .aload 0), (26, .getstatic 1000), (29, .getfield 6), (32, .istore 2), (33, .aload 0), (34, .getstatic 1000), (37, .getstatic 5), (40, .iload 2), (41, .iload 1), (42, .iastore), (43, .aload 0), (44, .getstatic 1000), (47, .iload 2), (48, .iconst (1)), (49, .iadd), (50, .putfield 6), (53, .iload 2), (54, .ireturn)]
def bX10_helper : List CD := [bX10_helper_0, bX10_helper_1, bX10_helper_2]
theorem kX10_helper : bX10_helper.all (chkL 10 false cX10_helper bX10_helper) = true := by decide +kernel
theorem mX10_helper : MB 119 bX10_helper 1 3 := ⟨by decide, by decide +kernel, kX10_helper, rfl, rfl⟩
def bX10_watcher_0 : CD := [(0, .iload 1), (1, .iconst (0)), (2, .aload 0), (3, .getstatic 1000), (6, .getfield 17), (9, .iconst (1)), (10, .isub), (11, .invokeinterface 99 31), (14, .ifCond .eq 1), (17, .aload 0), (18, .getstatic 1000), (21, .getstatic 16), (24, .iload 1), (25, .iaload), (26, .goto 2)]
def bX10_watcher_1 : CD := [(29, .iconst (-1)), (30, .goto_w 2)]
def bX10_watcher_2 : CD := [(30, .ireturn)]
def bX10_watcher : List CD := [bX10_watcher_0, bX10_watcher_1, bX10_watcher_2]
theorem kX10_watcher : bX10_watcher.all (chkL 10 false cX10_watcher bX10_watcher) = true := by decide +kernel
theorem mX10_watcher : MB 121 bX10_watcher 1 2 := ⟨by decide, by decide +kernel, kX10_watcher, rfl, rfl⟩
def bX10_table_0 : CD := [(0, .aload 0), (1, .iload 1), (2, .iload 2), (3, .invokeinterface 124 11031), (6, .ifCond .eq 1), (9, .aload 0), (10, .getstatic 1000), (13, .iload 3), (14, .invokeinterface 2 1021), (17, .ifCond .eq 1), (20, .iload 4), (22, .iconst (0)), (23, .iconst (19)), (25, .invokeinterface 99 31), (28, .ifCond .ne 2), (31, .goto_w 1)]
def bX10_table_1 : CD := [(31, .iconst (-1)), (32, .ireturn)]
def bX10_table_2 : CD := [(33, .iload 3), (34, .iload 2), (35, .idiv), (36, .iload 4), (38, .iload 3), (39, .iload 2), (40, .irem), (41, .imul), (42, .iadd), (43, .iload 1), (44, .irem), (45, .ireturn)]
def bX10_table : List CD := [bX10_table_0, bX10_table_1, bX10_table_2]
theorem kX10_table : bX10_table.all (chkL 10 false cX10_table bX10_table) = true := by decide +kernel
theorem mX10_table : MB 122 bX10_table 1 5 := ⟨by decide, by decide +kernel, kX10_table, rfl, rfl⟩
def bX10_areTables_0 : CD := [(0, .iload 1), (1, .iconst (2)), (2, .iconst (12)), (4, .invokeinterface 99 31), (7, .ifCond .eq 1), (10, .iload 2), (11, .iconst (2)), (12, .iconst (8)), (14, .invokeinterface 99 31), (17, .ifCond .eq 1), (20, .iload 1), (21, .iload 2), (22, .imul), (23, .aload 0), (24, .getstatic 1000), (27, .getfield 1), (30, .if_icmp .lt 1), (33, .iconst (1)), (34, .goto 2)]
def bX10_areTables_1 : CD := [(37, .iconst (0)), (38, .goto_w 2)]
def bX10_areTables_2 : CD := [(38, .ireturn)]
def bX10_areTables : List CD := [bX10_areTables_0, bX10_areTables_1, bX10_areTables_2]
theorem kX10_areTables : bX10_areTables.all (chkL 10 false cX10_areTables bX10_areTables) = true := by decide +kernel
theorem mX10_areTables : MB 124 bX10_areTables 2 3 := ⟨by decide, by decide +kernel, kX10_areTables, rfl, rfl⟩
def bX10_host_0 : CD := [(0, .aload 0), (1, .getstatic 1000), (4, .getfield 8), (7, .iconst (8)), (9, .if_icmp .lt 1), (12, .iconst (-1)), (13, .ireturn)]
def bX10_host_1 : CD := [(14, .aload 0), (15, .getstatic 1000), (18, .getfield 8), (21, .istore 1), (22, .aload 0), (23, .getstatic 1000), (26, .iload 1), (27, .iconst (1)), (28, .iadd), (29, .putfield 8), (32, .iload 1), (33, .ireturn)]
def bX10_host : List CD := [bX10_host_0, bX10_host_1]
theorem kX10_host : bX10_host.all (chkL 10 false cX10_host bX10_host) = true := by decide +kernel
theorem mX10_host : MB 127 bX10_host 1 2 := ⟨by decide, by decide +kernel, kX10_host, rfl, rfl⟩
def bX10_like_0 : CD := [(0, .aload 0), (1, .getstatic 1000), (4, .iload 1), (5, .invokeinterface 4 1021), (8, .ifCond .eq 1), (11, .aload 0), (12, .getstatic 1000), (15, .iload 2), (16, .invokeinterface 2 1021), (19, .ifCond .eq 1), (22, .iload 3), (23, .iconst (-1)), (24, .iconst (9)), (26, .invokeinterface 99 31), (29, .ifCond .ne 2), (32, .goto_w 1)]
def bX10_like_1 : CD := [(32, .iconst (0)), (33, .ireturn)]
def bX10_like_2 : CD := [(34, .aload 0), (35, .getstatic 1000), (38, .getstatic 7), (41, .iload 1), (42, .iconst (24)), (44, .imul), (45, .iload 2), (46, .iadd), (47, .iload 3), (48, .iastore), (49, .iconst (1)), (50, .ireturn)]
def bX10_like : List CD := [bX10_like_0, bX10_like_1, bX10_like_2]
theorem kX10_like : bX10_like.all (chkL 10 false cX10_like bX10_like) = true := by decide +kernel
theorem mX10_like : MB 128 bX10_like 2 4 := ⟨by decide, by decide +kernel, kX10_like, rfl, rfl⟩
def bX10_mark_0 : CD := [(0, .aload 0), (1, .getstatic 1000), (4, .iload 1), (5, .invokeinterface 2 1021), (8, .ifCond .eq 1), (11, .iload 2), (12, .iconst (0)), (13, .iconst (100)), (15, .invokeinterface 99 31), (18, .ifCond .eq 1), (21, .iload 3), (22, .iconst (0)), (23, .iconst (100)), (25, .invokeinterface 99 31), (28, .ifCond .eq 1), (31, .iload 4), (33, .iconst (0)), (34, .iconst (1)), (35, .invokeinterface 99 31), (38, .ifCond .ne 2), (41, .goto_w 1)]
def bX10_mark_1 : CD := [(41, .iconst (0)), (42, .ireturn)]
def bX10_mark_2 : CD := [(43, .aload 0), (44, .getstatic 1000), (47, .getstatic 0), (50, .iload 1), (51, .aaload), (52, .astore 5), (54, .aload 5), (56, .getfield 114), (59, .ifCond .ne 3), (62, .aload 0), (63, .getstatic 1000), (66, .invokeinterface 8 1011), (69, .iconst (16)), (71, .if_icmp .lt 3), (74, .iconst (0)), (75, .ireturn)]
def bX10_mark_3 : CD := [(76, .aload 5), (78, .iconst (1)), (79, .instanceof 114), (82, .aload 5), (84, .iload 3), (85, .iload 2), (86, .isub), (87, .putfield 115), (90, .aload 5), (92, .iload 4), (94, .putfield 116), (97, .iconst (1)), (98, .ireturn)]
def bX10_mark : List CD := [bX10_mark_0, bX10_mark_1, bX10_mark_2, bX10_mark_3]
theorem kX10_mark : bX10_mark.all (chkL 10 false cX10_mark bX10_mark) = true := by decide +kernel
theorem mX10_mark : MB 130 bX10_mark 2 6 := ⟨by decide, by decide +kernel, kX10_mark, rfl, rfl⟩
def bX10_count_0 : CD := [(0, .iload 1), (1, .tableswitch 13 (0) (11) #[1, 2, 3, 4, 5, 6, 7, 8, 9, 10, 11, 12])]
def bX10_count_1 : CD := [(64, .aload 0), (65, .getstatic 1000), (68, .getfield 1), (71, .ireturn)]
def bX10_count_2 : CD := [(72, .aload 0), (73, .getstatic 1000), (76, .getfield 4), (79, .ireturn)]
def bX10_count_3 : CD := [(80, .aload 0), (81, .getstatic 1000), (84, .invokeinterface 5 1011), (87, .ireturn)]
def bX10_count_4 : CD := [(88, .aload 0), (89, .getstatic 1000), (92, .getfield 6), (95, .ireturn)]
def bX10_count_5 : CD := [(96, .aload 0), (97, .getstatic 1000), (100, .getfield 8), (103, .ireturn)]
def bX10_count_6 : CD := [(104, .aload 0), (105, .getstatic 1000), (108, .getfield 9), (111, .ireturn)]
def bX10_count_7 : CD := [(112, .aload 0), (113, .getstatic 1000), (116, .getfield 10), (119, .ireturn)]
def bX10_count_8 : CD := [(120, .aload 0), (121, .getstatic 1000), (124, .getstatic 11), (127, .getfield 200), (130, .ireturn)]
def bX10_count_9 : CD := [(131, .aload 0), (132, .getstatic 1000), (135, .getfield 2), (138, .ireturn)]
def bX10_count_10 : CD := [(139, .aload 0), (140, .getstatic 1000), (143, .getfield 1), (146, .aload 0), (147, .getstatic 1000), (150, .iconst (-1)), (151, .invokeinterface 6 1021), (154, .isub), (155, .ireturn)]
def bX10_count_11 : CD := [(156, .aload 0), (157, .getstatic 1000), (160, .invokeinterface 7 1011), (163, .ireturn)]
def bX10_count_12 : CD := [(164, .aload 0), (165, .getstatic 1000), (168, .invokeinterface 8 1011), (171, .ireturn)]
def bX10_count_13 : CD := [(172, .iconst (-1)), (173, .ireturn)]
def bX10_count : List CD := [bX10_count_0, bX10_count_1, bX10_count_2, bX10_count_3, bX10_count_4, bX10_count_5, bX10_count_6, bX10_count_7, bX10_count_8, bX10_count_9, bX10_count_10, bX10_count_11, bX10_count_12, bX10_count_13]
theorem kX10_count : bX10_count.all (chkL 10 false cX10_count bX10_count) = true := by decide +kernel
theorem mX10_count : MB 132 bX10_count 1 2 := ⟨by decide, by decide +kernel, kX10_count, rfl, rfl⟩
def bX11_in_0 : CD := [(0, .iload 0), (1, .iload 1), (2, .if_icmp .lt 1), (5, .iload 0), (6, .iload 2), (7, .if_icmp .gt 1), (10, .iconst (1)), (11, .goto 2)]
def bX11_in_1 : CD := [(14, .iconst (0)), (15, .goto_w 2)]
def bX11_in_2 : CD := [(15, .ireturn)]
def bX11_in : List CD := [bX11_in_0, bX11_in_1, bX11_in_2]
theorem kX11_in : bX11_in.all (chkL 11 false cX11_in bX11_in) = true := by decide +kernel
theorem mX11_in : MB 136 bX11_in 2 3 := ⟨by decide, by decide +kernel, kX11_in, rfl, rfl⟩
def bX11_isChild_0 : CD := [(0, .iload 1), (1, .iconst (0)), (2, .aload 0), (3, .getstatic 1105), (6, .iconst (0)), (7, .iaload), (8, .iconst (1)), (9, .isub), (10, .invokeinterface 136 31), (13, .ireturn)]
def bX11_isChild : List CD := [bX11_isChild_0]
theorem kX11_isChild : bX11_isChild.all (chkL 11 false cX11_isChild bX11_isChild) = true := by decide +kernel
theorem mX11_isChild : MB 140 bX11_isChild 2 2 := ⟨by decide, by decide +kernel, kX11_isChild, rfl, rfl⟩
def bX11_isCabin_0 : CD := [(0, .iload 1), (1, .iconst (0)), (2, .aload 0), (3, .getstatic 1121), (6, .iconst (0)), (7, .iaload), (8, .iconst (1)), (9, .isub), (10, .invokeinterface 136 31), (13, .ireturn)]
def bX11_isCabin : List CD := [bX11_isCabin_0]
theorem kX11_isCabin : bX11_isCabin.all (chkL 11 false cX11_isCabin bX11_isCabin) = true := by decide +kernel
theorem mX11_isCabin : MB 141 bX11_isCabin 2 2 := ⟨by decide, by decide +kernel, kX11_isCabin, rfl, rfl⟩
def bX11_child_0 : CD := [(0, .aload 0), (1, .iconst (0)), (2, .putfield 1100), (5, .aload 0), (6, .getstatic 1105), (9, .iconst (0)), (10, .iaload), (11, .iconst (24)), (13, .if_icmp .eq 1), (16, .iload 1), (17, .iconst (0)), (18, .iconst (5)), (19, .invokeinterface 136 31), (22, .ifCond .eq 1), (25, .iload 2), (26, .iconst (8)), (28, .iconst (17)), (30, .invokeinterface 136 31), (33, .ifCond .ne 2), (36, .goto_w 1)]
def bX11_child_1 : CD := [(36, .iconst (-1)), (37, .ireturn)]
def bX11_child_2 : CD := [(38, .aload 0), (39, .getstatic 1105), (42, .iconst (0)), (43, .iaload), (44, .istore 4), (46, .aload 0), (47, .getstatic 1105), (50, .iconst (0)), (51, .dup2), (52, .iaload), (53, .iconst (1)), (54, .iadd), (55, .iastore), (56, .aload 0), (57, .getstatic 1106), (60, .iload 4), (62, .iload 1), (63, .iastore), (64, .aload 0), (65, .getstatic 1107), (68, .iload 4), (70, .iload 2), (71, .iastore), (72, .aload 0), (73, .getstatic 1108), (76, .iload 4), (78, .iload 3), (79, .bastore), (80, .aload 0), (81, .getstatic 1109), (84, .iload 4), (86, .iconst (-1)), (87, .iastore), (88, .aload 0), (89, .getstatic 1110), (92, .iload 4), (94, .iconst (0)), (95, .iastore), (96, .aload 0), (97, .getstatic 1111), (100, .iload 4), (102, .iconst (10)), (104, .iastore), (105, .aload 0), (106, .getstatic 1112), (109, .iload 4), (111, .iconst (0)), (112, .iastore), (113, .aload 0), (114, .getstatic 1113), (117, .iload 4), (119, .iconst (-1)), (120, .iastore), (121, .aload 0), (122, .getstatic 1114), (125, .iload 4), (127, .iconst (10)), (129, .iastore), (130, .aload 0), (131, .getstatic 1115), (134, .iload 4), (136, .iconst (0)), (137, .iastore), (138, .aload 0), (139, .getstatic 1116), (142, .iload 4), (144, .iconst (0)), (145, .iastore), (146, .aload 0), (147, .getstatic 1117), (150, .iload 4), (152, .iconst (0)), (153, .bastore), (154, .aload 0), (155, .getstatic 1118), (158, .iload 4), (160, .iconst (-1)), (161, .iastore), (162, .aload 0), (163, .getstatic 1120), (166, .iload 4), (168, .iconst (0)), (169, .iastore), (170, .aload 0), (171, .getstatic 1138), (174, .iload 4), (176, .iconst (0)), (177, .bastore), (178, .iconst (0)), (179, .istore 5), (181, .goto_w 100181)]
def bX11_child_3 : CD := [(181, .iload 5), (183, .iconst (8)), (185, .if_icmp .ge 4), (188, .aload 0), (189, .getstatic 1137), (192, .iconst (24)), (194, .iload 5), (196, .imul), (197, .iload 4), (199, .iadd), (200, .iconst (0)), (201, .iastore), (202, .iinc 5 (1)), (205, .goto 100181)]
def bX11_child_4 : CD := [(208, .iload 4), (210, .ireturn)]
def bX11_child : List CD := [bX11_child_0, bX11_child_1, bX11_child_2, bX11_child_3, bX11_child_4]
theorem kX11_child : bX11_child.all (chkL 11 false cX11_child bX11_child) = true := by decide +kernel
theorem mX11_child : MB 142 bX11_child 1 6 := ⟨by decide, by decide +kernel, kX11_child, rfl, rfl⟩
def bX11_areBarred_0 : CD := [(0, .aload 0), (1, .getstatic 1120), (4, .iload 1), (5, .iaload), (6, .iload 2), (7, .ishr), (8, .iconst (1)), (9, .iand), (10, .ifCond .eq 1), (13, .iconst (1)), (14, .goto 2)]
def bX11_areBarred_1 : CD := [(17, .iconst (0)), (18, .goto_w 2)]
def bX11_areBarred_2 : CD := [(18, .ireturn)]
def bX11_areBarred : List CD := [bX11_areBarred_0, bX11_areBarred_1, bX11_areBarred_2]
theorem kX11_areBarred : bX11_areBarred.all (chkL 11 false cX11_areBarred bX11_areBarred) = true := by decide +kernel
theorem mX11_areBarred : MB 143 bX11_areBarred 2 3 := ⟨by decide, by decide +kernel, kX11_areBarred, rfl, rfl⟩
def bX11_bar_0 : CD := [(0, .aload 0), (1, .iconst (0)), (2, .putfield 1100), (5, .aload 0), (6, .iload 1), (7, .invokeinterface 140 12021), (10, .ifCond .eq 1), (13, .aload 0), (14, .iload 2), (15, .invokeinterface 140 12021), (18, .ifCond .eq 1), (21, .iload 1), (22, .iload 2), (23, .if_icmp .eq 1), (26, .aload 0), (27, .iload 1), (28, .iload 2), (29, .invokeinterface 143 12031), (32, .ifCond .ne 1), (35, .aload 0), (36, .getstatic 1119), (39, .iconst (0)), (40, .iaload), (41, .iconst (30)), (43, .if_icmp .ne 2), (46, .goto_w 1)]
def bX11_bar_1 : CD := [(46, .iconst (0)), (47, .ireturn)]
def bX11_bar_2 : CD := [(48, .aload 0), (49, .getstatic 1120), (52, .iload 1), (53, .dup2), (54, .iaload), (55, .iconst (1)), (56, .iload 2), (57, .ishl), (58, .ior), (59, .iastore), (60, .aload 0), (61, .getstatic 1120), (64, .iload 2), (65, .dup2), (66, .iaload), (67, .iconst (1)), (68, .iload 1), (69, .ishl), (70, .ior), (71, .iastore), (72, .aload 0), (73, .getstatic 1119), (76, .iconst (0)), (77, .dup2), (78, .iaload), (79, .iconst (1)), (80, .iadd), (81, .iastore), (82, .iconst (1)), (83, .ireturn)]
def bX11_bar : List CD := [bX11_bar_0, bX11_bar_1, bX11_bar_2]
theorem kX11_bar : bX11_bar.all (chkL 11 false cX11_bar bX11_bar) = true := by decide +kernel
theorem mX11_bar : MB 144 bX11_bar 2 3 := ⟨by decide, by decide +kernel, kX11_bar, rfl, rfl⟩
def bX11_cabin_0 : CD := [(0, .aload 0), (1, .iconst (0)), (2, .putfield 1100), (5, .aload 0), (6, .getstatic 1121), (9, .iconst (0)), (10, .iaload), (11, .iconst (6)), (13, .if_icmp .eq 1), (16, .iload 1), (17, .iconst (1)), (18, .iconst (8)), (20, .invokeinterface 136 31), (23, .ifCond .ne 2), (26, .goto_w 1)]
def bX11_cabin_1 : CD := [(26, .iconst (-1)), (27, .ireturn)]
def bX11_cabin_2 : CD := [(28, .aload 0), (29, .getstatic 1122), (32, .aload 0), (33, .getstatic 1121), (36, .iconst (0)), (37, .iaload), (38, .iload 1), (39, .iastore), (40, .aload 0), (41, .getstatic 1121), (44, .iconst (0)), (45, .dup2), (46, .iaload), (47, .iconst (1)), (48, .iadd), (49, .iastore), (50, .aload 0), (51, .getstatic 1121), (54, .iconst (0)), (55, .iaload), (56, .iconst (1)), (57, .isub), (58, .ireturn)]
def bX11_cabin : List CD := [bX11_cabin_0, bX11_cabin_1, bX11_cabin_2]
theorem kX11_cabin : bX11_cabin.all (chkL 11 false cX11_cabin bX11_cabin) = true := by decide +kernel
theorem mX11_cabin : MB 145 bX11_cabin 1 2 := ⟨by decide, by decide +kernel, kX11_cabin, rfl, rfl⟩
def bX11_lying_0 : CD := [(0, .iconst (0)), (1, .istore 2), (2, .iconst (0)), (3, .istore 3), (4, .goto_w 100004)]
def bX11_lying_1 : CD := [(4, .iload 3), (5, .aload 0), (6, .getstatic 1105), (9, .iconst (0)), (10, .iaload), (11, .if_icmp .ge 4), (14, .iload 2), (15, .aload 0), (16, .getstatic 1109), (19, .iload 3), (20, .iaload), (21, .iload 1), (22, .if_icmp .ne 2), (25, .iconst (1)), (26, .goto 3)]
def bX11_lying_2 : CD := [(29, .iconst (0)), (30, .goto_w 3)]
def bX11_lying_3 : CD := [(30, .iadd), (31, .istore 2), (32, .iinc 3 (1)), (35, .goto 100004)]
def bX11_lying_4 : CD := [(38, .iload 2), (39, .ireturn)]
def bX11_lying : List CD := [bX11_lying_0, bX11_lying_1, bX11_lying_2, bX11_lying_3, bX11_lying_4]
theorem kX11_lying : bX11_lying.all (chkL 11 false cX11_lying bX11_lying) = true := by decide +kernel
theorem mX11_lying : MB 146 bX11_lying 1 4 := ⟨by decide, by decide +kernel, kX11_lying, rfl, rfl⟩
def bX11_lie_0 : CD := [(0, .aload 0), (1, .iconst (0)), (2, .putfield 1100), (5, .aload 0), (6, .iload 1), (7, .invokeinterface 140 12021), (10, .ifCond .eq 2), (13, .iload 2), (14, .iconst (-1)), (15, .if_icmp .eq 1), (18, .aload 0), (19, .iload 2), (20, .invokeinterface 141 12021), (23, .ifCond .eq 2), (26, .goto_w 1)]
def bX11_lie_1 : CD := [(26, .aload 0), (27, .getstatic 1109), (30, .iload 1), (31, .iaload), (32, .iload 2), (33, .if_icmp .eq 2), (36, .iload 2), (37, .iconst (-1)), (38, .if_icmp .eq 3), (41, .aload 0), (42, .iload 2), (43, .invokeinterface 146 12021), (46, .aload 0), (47, .getstatic 1122), (50, .iload 2), (51, .iaload), (52, .if_icmp .ne 3), (55, .goto_w 2)]
def bX11_lie_2 : CD := [(55, .iconst (0)), (56, .ireturn)]
def bX11_lie_3 : CD := [(57, .aload 0), (58, .getstatic 1109), (61, .iload 1), (62, .iload 2), (63, .iastore), (64, .iconst (1)), (65, .ireturn)]
def bX11_lie : List CD := [bX11_lie_0, bX11_lie_1, bX11_lie_2, bX11_lie_3]
theorem kX11_lie : bX11_lie.all (chkL 11 false cX11_lie bX11_lie) = true := by decide +kernel
theorem mX11_lie : MB 147 bX11_lie 2 3 := ⟨by decide, by decide +kernel, kX11_lie, rfl, rfl⟩
def bX11_allBeds_0 : CD := [(0, .iconst (0)), (1, .istore 1), (2, .iconst (0)), (3, .istore 2), (4, .goto_w 100004)]
def bX11_allBeds_1 : CD := [(4, .iload 2), (5, .aload 0), (6, .getstatic 1121), (9, .iconst (0)), (10, .iaload), (11, .if_icmp .ge 2), (14, .iload 1), (15, .aload 0), (16, .getstatic 1122), (19, .iload 2), (20, .iaload), (21, .iadd), (22, .istore 1), (23, .iinc 2 (1)), (26, .goto 100004)]
def bX11_allBeds_2 : CD := [(29, .iload 1), (30, .ireturn)]
def bX11_allBeds : List CD := [bX11_allBeds_0, bX11_allBeds_1, bX11_allBeds_2]
theorem kX11_allBeds : bX11_allBeds.all (chkL 11 false cX11_allBeds bX11_allBeds) = true := by decide +kernel
theorem mX11_allBeds : MB 151 bX11_allBeds 1 3 := ⟨by decide, by decide +kernel, kX11_allBeds, rfl, rfl⟩
def bX11_task_0 : CD := [(0, .aload 0), (1, .iconst (0)), (2, .putfield 1100), (5, .aload 0), (6, .iload 1), (7, .invokeinterface 140 12021), (10, .ifCond .eq 1), (13, .iload 2), (14, .iconst (1)), (15, .iconst (10)), (17, .invokeinterface 136 31), (20, .ifCond .ne 2), (23, .goto_w 1)]
def bX11_task_1 : CD := [(23, .iconst (-1)), (24, .ireturn)]
def bX11_task_2 : CD := [(25, .iload 3), (26, .ifCond .eq 5), (29, .aload 0), (30, .getstatic 1110), (33, .iload 1), (34, .iload 2), (35, .aload 0), (36, .getstatic 1110), (39, .iload 1), (40, .iaload), (41, .if_icmp .le 3), (44, .iload 2), (45, .goto 4)]
def bX11_task_3 : CD := [(48, .aload 0), (49, .getstatic 1110), (52, .iload 1), (53, .iaload), (54, .goto_w 4)]
def bX11_task_4 : CD := [(54, .iastore), (55, .goto 8)]
def bX11_task_5 : CD := [(58, .aload 0), (59, .getstatic 1111), (62, .iload 1), (63, .iload 2), (64, .iconst (1)), (65, .isub), (66, .aload 0), (67, .getstatic 1111), (70, .iload 1), (71, .iaload), (72, .if_icmp .ge 6), (75, .iload 2), (76, .iconst (1)), (77, .isub), (78, .goto 7)]
def bX11_task_6 : CD := [(81, .aload 0), (82, .getstatic 1111), (85, .iload 1), (86, .iaload), (87, .goto_w 7)]
def bX11_task_7 : CD := [(87, .iastore), (88, .goto_w 8)]
def bX11_task_8 : CD := [(88, .aload 0), (89, .getstatic 1110), (92, .iload 1), (93, .iaload), (94, .aload 0), (95, .getstatic 1111), (98, .iload 1), (99, .iaload), (100, .if_icmp .le 9), (103, .aload 0), (104, .getstatic 1110), (107, .iload 1), (108, .iload 2), (109, .iconst (1)), (110, .isub), (111, .iastore), (112, .aload 0), (113, .getstatic 1111), (116, .iload 1), (117, .iload 2), (118, .iastore), (119, .aload 0), (120, .getstatic 1112), (123, .iload 1), (124, .dup2), (125, .iaload), (126, .iconst (1)), (127, .iadd), (128, .iastore), (129, .goto_w 9)]
def bX11_task_9 : CD := [(129, .aload 0), (130, .getstatic 1111), (133, .iload 1), (134, .iaload), (135, .aload 0), (136, .getstatic 1110), (139, .iload 1), (140, .iaload), (141, .isub), (142, .ireturn)]
def bX11_task : List CD := [bX11_task_0, bX11_task_1, bX11_task_2, bX11_task_3, bX11_task_4, bX11_task_5, bX11_task_6, bX11_task_7, bX11_task_8, bX11_task_9]
theorem kX11_task : bX11_task.all (chkL 11 false cX11_task bX11_task) = true := by decide +kernel
theorem mX11_task : MB 158 bX11_task 1 4 := ⟨by decide, by decide +kernel, kX11_task, rfl, rfl⟩
def bX11_feed_0 : CD := [(0, .aload 0), (1, .iconst (0)), (2, .putfield 1100), (5, .aload 0), (6, .getstatic 1102), (9, .iconst (0)), (10, .iaload), (11, .iconst (20)), (13, .iadd), (14, .iconst (500)), (17, .if_icmp .le 1), (20, .iconst (-1)), (21, .ireturn)]
def bX11_feed_1 : CD := [(22, .aload 0), (23, .iload 1), (24, .invokeinterface 163 12020), (27, .aload 0), (28, .iload 2), (29, .invokeinterface 163 12020), (32, .aload 0), (33, .iload 3), (34, .invokeinterface 163 12020), (37, .aload 0), (38, .iload 4), (40, .invokeinterface 163 12020), (43, .aload 0), (44, .iload 5), (46, .invokeinterface 163 12020), (49, .aload 0), (50, .getstatic 1102), (53, .iconst (0)), (54, .iaload), (55, .ireturn)]
def bX11_feed : List CD := [bX11_feed_0, bX11_feed_1]
theorem kX11_feed : bX11_feed.all (chkL 11 false cX11_feed bX11_feed) = true := by decide +kernel
theorem mX11_feed : MB 162 bX11_feed 1 6 := ⟨by decide, by decide +kernel, kX11_feed, rfl, rfl⟩
def bX11_four_0 : CD := [(0, .iconst (24)), (2, .istore 2), (3, .goto_w 100003)]
def bX11_four_1 : CD := [(3, .iload 2), (4, .ifCond .lt 2), (7, .aload 0), (8, .getstatic 1101), (11, .aload 0), (12, .getstatic 1102), (15, .iconst (0)), (16, .iaload), (17, .iload 1), (18, .iload 2), (19, .ishr), (20, .i2b), (21, .bastore), (22, .aload 0), (23, .getstatic 1102), (26, .iconst (0)), (27, .dup2), (28, .iaload), (29, .iconst (1)), (30, .iadd), (31, .iastore), (32, .iinc 2 (-8)), (35, .goto 100003)]
def bX11_four_2 : CD := [(38, .return_)]
def bX11_four : List CD := [bX11_four_0, bX11_four_1, bX11_four_2]
theorem kX11_four : bX11_four.all (chkL 11 false cX11_four bX11_four) = true := by decide +kernel
theorem mX11_four : MB 163 bX11_four 0 3 := ⟨by decide, by decide +kernel, kX11_four, rfl, rfl⟩
def bX11_end_0 : CD := [(0, .aload 0), (1, .iconst (0)), (2, .putfield 1100), (5, .iload 1), (6, .iconst (0)), (7, .aload 0), (8, .getstatic 1102), (11, .iconst (0)), (12, .iaload), (13, .invokeinterface 136 31), (16, .ifCond .ne 1), (19, .iconst (-1)), (20, .ireturn)]
def bX11_end_1 : CD := [(21, .aload 0), (22, .getstatic 1102), (25, .iconst (0)), (26, .iload 1), (27, .iastore), (28, .iload 1), (29, .ireturn)]
def bX11_end : List CD := [bX11_end_0, bX11_end_1]
theorem kX11_end : bX11_end.all (chkL 11 false cX11_end bX11_end) = true := by decide +kernel
theorem mX11_end : MB 164 bX11_end 1 2 := ⟨by decide, by decide +kernel, kX11_end, rfl, rfl⟩
def bX11_fault_0 : CD := [(0, .aload 0), (1, .iconst (0)), (2, .putfield 1100), (5, .iload 1), (6, .ifCond .ne 1), (9, .aload 0), (10, .getstatic 1103), (13, .iconst (0)), (14, .iaload), (15, .goto 3)]
def bX11_fault_1 : CD := [(18, .iload 1), (19, .iconst (1)), (20, .if_icmp .ne 2), (23, .aload 0), (24, .getstatic 1104), (27, .iconst (0)), (28, .iaload), (29, .goto 3)]
def bX11_fault_2 : CD := [(32, .iconst (-1)), (33, .goto_w 3)]
def bX11_fault_3 : CD := [(33, .ireturn)]
def bX11_fault : List CD := [bX11_fault_0, bX11_fault_1, bX11_fault_2, bX11_fault_3]
theorem kX11_fault : bX11_fault.all (chkL 11 false cX11_fault bX11_fault) = true := by decide +kernel
theorem mX11_fault : MB 175 bX11_fault 1 2 := ⟨by decide, by decide +kernel, kX11_fault, rfl, rfl⟩
def bX11_tell_0 : CD := [(0, .aload 0), (1, .iconst (0)), (2, .putfield 1100), (5, .aload 0), (6, .iload 1), (7, .invokeinterface 140 12021), (10, .ifCond .ne 1), (13, .iconst (-100)), (15, .ireturn)]
def bX11_tell_1 : CD := [(16, .iload 2), (17, .tableswitch 22 (0) (13) #[2, 3, 4, 7, 8, 9, 10, 11, 14, 15, 16, 17, 18, 19])]
def bX11_tell_2 : CD := [(88, .aload 0), (89, .getstatic 1106), (92, .iload 1), (93, .iaload), (94, .ireturn)]
def bX11_tell_3 : CD := [(95, .aload 0), (96, .getstatic 1107), (99, .iload 1), (100, .iaload), (101, .ireturn)]
def bX11_tell_4 : CD := [(102, .aload 0), (103, .getstatic 1108), (106, .iload 1), (107, .baload), (108, .ifCond .eq 5), (111, .iconst (1)), (112, .goto 6)]
def bX11_tell_5 : CD := [(115, .iconst (0)), (116, .goto_w 6)]
def bX11_tell_6 : CD := [(116, .ireturn)]
def bX11_tell_7 : CD := [(117, .aload 0), (118, .getstatic 1109), (121, .iload 1), (122, .iaload), (123, .ireturn)]
def bX11_tell_8 : CD := [(124, .aload 0), (125, .getstatic 1110), (128, .iload 1), (129, .iaload), (130, .ireturn)]
def bX11_tell_9 : CD := [(131, .aload 0), (132, .getstatic 1111), (135, .iload 1), (136, .iaload), (137, .ireturn)]
def bX11_tell_10 : CD := [(138, .aload 0), (139, .getstatic 1112), (142, .iload 1), (143, .iaload), (144, .ireturn)]
def bX11_tell_11 : CD := [(145, .aload 0), (146, .getstatic 1110), (149, .iload 1), (150, .iaload), (151, .aload 0), (152, .getstatic 1111), (155, .iload 1), (156, .iaload), (157, .if_icmp .ge 12), (160, .aload 0), (161, .getstatic 1110), (164, .iload 1), (165, .iaload), (166, .aload 0), (167, .getstatic 1111), (170, .iload 1), (171, .iaload), (172, .iadd), (173, .iconst (1)), (174, .iadd), (175, .iconst (2)), (176, .idiv), (177, .goto 13)]
def bX11_tell_12 : CD := [(180, .iconst (-1)), (181, .goto_w 13)]
def bX11_tell_13 : CD := [(181, .ireturn)]
def bX11_tell_14 : CD := [(182, .aload 0), (183, .getstatic 1113), (186, .iload 1), (187, .iaload), (188, .ireturn)]
def bX11_tell_15 : CD := [(189, .aload 0), (190, .getstatic 1114), (193, .iload 1), (194, .iaload), (195, .ireturn)]
def bX11_tell_16 : CD := [(196, .aload 0), (197, .getstatic 1123), (200, .iconst (0)), (201, .iaload), (202, .aload 0), (203, .getstatic 1115), (206, .iload 1), (207, .iaload), (208, .isub), (209, .ireturn)]
def bX11_tell_17 : CD := [(210, .aload 0), (211, .getstatic 1116), (214, .iload 1), (215, .iaload), (216, .ireturn)]
def bX11_tell_18 : CD := [(217, .aload 0), (218, .getstatic 1118), (221, .iload 1), (222, .iaload), (223, .ireturn)]
def bX11_tell_19 : CD := [(224, .aload 0), (225, .getstatic 1117), (228, .iload 1), (229, .baload), (230, .ifCond .eq 20), (233, .iconst (1)), (234, .goto 21)]
def bX11_tell_20 : CD := [(237, .iconst (0)), (238, .goto_w 21)]
def bX11_tell_21 : CD := [(238, .ireturn)]
def bX11_tell_22 : CD := [(239, .iconst (-100)), (241, .ireturn)]
def bX11_tell : List CD := [bX11_tell_0, bX11_tell_1, bX11_tell_2, bX11_tell_3, bX11_tell_4, bX11_tell_5, bX11_tell_6, bX11_tell_7, bX11_tell_8, bX11_tell_9, bX11_tell_10, bX11_tell_11, bX11_tell_12, bX11_tell_13, bX11_tell_14, bX11_tell_15, bX11_tell_16, bX11_tell_17, bX11_tell_18, bX11_tell_19, bX11_tell_20, bX11_tell_21, bX11_tell_22]
theorem kX11_tell : bX11_tell.all (chkL 11 false cX11_tell bX11_tell) = true := by decide +kernel
theorem mX11_tell : MB 181 bX11_tell 1 3 := ⟨by decide, by decide +kernel, kX11_tell, rfl, rfl⟩
def bX11_helper_0 : CD := [(0, .aload 0), (1, .iconst (0)), (2, .putfield 1100), (5, .aload 0), (6, .getstatic 1132), (9, .iconst (0)), (10, .iaload), (11, .iconst (6)), (13, .if_icmp .eq 1), (16, .iload 1), (17, .iconst (0)), (18, .iconst (16383)), (21, .invokeinterface 136 31), (24, .ifCond .ne 2), (27, .goto_w 1)]
def bX11_helper_1 : CD := [(27, .iconst (-1)), (28, .ireturn)]
def bX11_helper_2 : CD := [(29, .aload 0), (30, .getstatic 1133), (33, .aload 0), (34, .getstatic 1132), (37, .iconst (0)), (38, .iaload), (39, .iload 1), (40, .iastore), (41, .aload 0), (42, .getstatic 1132), (45, .iconst (0)), (46, .dup2), (47, .iaload), (48, .iconst (1)), (49, .iadd), (50, .iastore), (51, .aload 0), (52, .getstatic 1132), (55, .iconst (0)), (56, .iaload), (57, .iconst (1)), (58, .isub), (59, .ireturn)]
def bX11_helper : List CD := [bX11_helper_0, bX11_helper_1, bX11_helper_2]
theorem kX11_helper : bX11_helper.all (chkL 11 false cX11_helper bX11_helper) = true := by decide +kernel
theorem mX11_helper : MB 182 bX11_helper 1 2 := ⟨by decide, by decide +kernel, kX11_helper, rfl, rfl⟩
def bX11_watcher_0 : CD := [(0, .aload 0), (1, .iconst (0)), (2, .putfield 1100), (5, .iload 1), (6, .iconst (0)), (7, .aload 0), (8, .getstatic 1134), (11, .iconst (0)), (12, .iaload), (13, .iconst (1)), (14, .isub), (15, .invokeinterface 136 31), (18, .ifCond .eq 1), (21, .aload 0), (22, .getstatic 1135), (25, .iload 1), (26, .iaload), (27, .goto 2)]
def bX11_watcher_1 : CD := [(30, .iconst (-1)), (31, .goto_w 2)]
def bX11_watcher_2 : CD := [(31, .ireturn)]
def bX11_watcher : List CD := [bX11_watcher_0, bX11_watcher_1, bX11_watcher_2]
theorem kX11_watcher : bX11_watcher.all (chkL 11 false cX11_watcher bX11_watcher) = true := by decide +kernel
theorem mX11_watcher : MB 188 bX11_watcher 1 2 := ⟨by decide, by decide +kernel, kX11_watcher, rfl, rfl⟩
def bX11_tableOf_0 : CD := [(0, .iload 2), (1, .iload 1), (2, .idiv), (3, .iload 3), (4, .iload 2), (5, .iload 1), (6, .irem), (7, .imul), (8, .iadd), (9, .iload 0), (10, .irem), (11, .ireturn)]
def bX11_tableOf : List CD := [bX11_tableOf_0]
theorem kX11_tableOf : bX11_tableOf.all (chkL 11 false cX11_tableOf bX11_tableOf) = true := by decide +kernel
theorem mX11_tableOf : MB 189 bX11_tableOf 1 4 := ⟨by decide, by decide +kernel, kX11_tableOf, rfl, rfl⟩
def bX11_areTables_0 : CD := [(0, .iload 1), (1, .iconst (2)), (2, .iconst (12)), (4, .invokeinterface 136 31), (7, .ifCond .eq 1), (10, .iload 2), (11, .iconst (2)), (12, .iconst (8)), (14, .invokeinterface 136 31), (17, .ifCond .eq 1), (20, .iload 1), (21, .iload 2), (22, .imul), (23, .aload 0), (24, .getstatic 1105), (27, .iconst (0)), (28, .iaload), (29, .if_icmp .lt 1), (32, .iconst (1)), (33, .goto 2)]
def bX11_areTables_1 : CD := [(36, .iconst (0)), (37, .goto_w 2)]
def bX11_areTables_2 : CD := [(37, .ireturn)]
def bX11_areTables : List CD := [bX11_areTables_0, bX11_areTables_1, bX11_areTables_2]
theorem kX11_areTables : bX11_areTables.all (chkL 11 false cX11_areTables bX11_areTables) = true := by decide +kernel
theorem mX11_areTables : MB 190 bX11_areTables 2 3 := ⟨by decide, by decide +kernel, kX11_areTables, rfl, rfl⟩
def bX11_table_0 : CD := [(0, .aload 0), (1, .iconst (0)), (2, .putfield 1100), (5, .aload 0), (6, .iload 1), (7, .iload 2), (8, .invokeinterface 190 12031), (11, .ifCond .eq 1), (14, .aload 0), (15, .iload 3), (16, .invokeinterface 140 12021), (19, .ifCond .eq 1), (22, .iload 4), (24, .iconst (0)), (25, .iconst (19)), (27, .invokeinterface 136 31), (30, .ifCond .eq 1), (33, .iload 1), (34, .iload 2), (35, .iload 3), (36, .iload 4), (38, .invokeinterface 189 41), (41, .goto 2)]
def bX11_table_1 : CD := [(44, .iconst (-1)), (45, .goto_w 2)]
def bX11_table_2 : CD := [(45, .ireturn)]
def bX11_table : List CD := [bX11_table_0, bX11_table_1, bX11_table_2]
theorem kX11_table : bX11_table.all (chkL 11 false cX11_table bX11_table) = true := by decide +kernel
theorem mX11_table : MB 191 bX11_table 1 5 := ⟨by decide, by decide +kernel, kX11_table, rfl, rfl⟩
def bX11_host_0 : CD := [(0, .aload 0), (1, .iconst (0)), (2, .putfield 1100), (5, .aload 0), (6, .getstatic 1136), (9, .iconst (0)), (10, .iaload), (11, .iconst (8)), (13, .if_icmp .ne 1), (16, .iconst (-1)), (17, .ireturn)]
def bX11_host_1 : CD := [(18, .aload 0), (19, .getstatic 1136), (22, .iconst (0)), (23, .iaload), (24, .istore 1), (25, .aload 0), (26, .getstatic 1136), (29, .iconst (0)), (30, .dup2), (31, .iaload), (32, .iconst (1)), (33, .iadd), (34, .iastore), (35, .iconst (0)), (36, .istore 2), (37, .goto_w 100037)]
def bX11_host_2 : CD := [(37, .iload 2), (38, .iconst (24)), (40, .if_icmp .ge 3), (43, .aload 0), (44, .getstatic 1137), (47, .iconst (24)), (49, .iload 1), (50, .imul), (51, .iload 2), (52, .iadd), (53, .iconst (0)), (54, .iastore), (55, .iinc 2 (1)), (58, .goto 100037)]
def bX11_host_3 : CD := [(61, .iload 1), (62, .ireturn)]
def bX11_host : List CD := [bX11_host_0, bX11_host_1, bX11_host_2, bX11_host_3]
theorem kX11_host : bX11_host.all (chkL 11 false cX11_host bX11_host) = true := by decide +kernel
theorem mX11_host : MB 193 bX11_host 1 3 := ⟨by decide, by decide +kernel, kX11_host, rfl, rfl⟩
def bX11_like_0 : CD := [(0, .aload 0), (1, .iconst (0)), (2, .putfield 1100), (5, .iload 1), (6, .iconst (0)), (7, .aload 0), (8, .getstatic 1136), (11, .iconst (0)), (12, .iaload), (13, .iconst (1)), (14, .isub), (15, .invokeinterface 136 31), (18, .ifCond .eq 1), (21, .aload 0), (22, .iload 2), (23, .invokeinterface 140 12021), (26, .ifCond .eq 1), (29, .iload 3), (30, .iconst (-1)), (31, .iconst (9)), (33, .invokeinterface 136 31), (36, .ifCond .ne 2), (39, .goto_w 1)]
def bX11_like_1 : CD := [(39, .iconst (0)), (40, .ireturn)]
def bX11_like_2 : CD := [(41, .aload 0), (42, .getstatic 1137), (45, .iconst (24)), (47, .iload 1), (48, .imul), (49, .iload 2), (50, .iadd), (51, .iload 3), (52, .iastore), (53, .iconst (1)), (54, .ireturn)]
def bX11_like : List CD := [bX11_like_0, bX11_like_1, bX11_like_2]
theorem kX11_like : bX11_like.all (chkL 11 false cX11_like bX11_like) = true := by decide +kernel
theorem mX11_like : MB 194 bX11_like 2 4 := ⟨by decide, by decide +kernel, kX11_like, rfl, rfl⟩
def bX11_marks_0 : CD := [(0, .iconst (0)), (1, .istore 1), (2, .iconst (0)), (3, .istore 2), (4, .goto_w 100004)]
def bX11_marks_1 : CD := [(4, .iload 2), (5, .aload 0), (6, .getstatic 1105), (9, .iconst (0)), (10, .iaload), (11, .if_icmp .ge 4), (14, .iload 1), (15, .aload 0), (16, .getstatic 1138), (19, .iload 2), (20, .baload), (21, .ifCond .eq 2), (24, .iconst (1)), (25, .goto 3)]
def bX11_marks_2 : CD := [(28, .iconst (0)), (29, .goto_w 3)]
def bX11_marks_3 : CD := [(29, .iadd), (30, .istore 1), (31, .iinc 2 (1)), (34, .goto 100004)]
def bX11_marks_4 : CD := [(37, .iload 1), (38, .ireturn)]
def bX11_marks : List CD := [bX11_marks_0, bX11_marks_1, bX11_marks_2, bX11_marks_3, bX11_marks_4]
theorem kX11_marks : bX11_marks.all (chkL 11 false cX11_marks bX11_marks) = true := by decide +kernel
theorem mX11_marks : MB 197 bX11_marks 1 3 := ⟨by decide, by decide +kernel, kX11_marks, rfl, rfl⟩
def bX11_mark_0 : CD := [(0, .aload 0), (1, .iconst (0)), (2, .putfield 1100), (5, .aload 0), (6, .iload 1), (7, .invokeinterface 140 12021), (10, .ifCond .eq 1), (13, .iload 2), (14, .iconst (0)), (15, .iconst (100)), (17, .invokeinterface 136 31), (20, .ifCond .eq 1), (23, .iload 3), (24, .iconst (0)), (25, .iconst (100)), (27, .invokeinterface 136 31), (30, .ifCond .eq 1), (33, .iload 4), (35, .iconst (0)), (36, .iconst (1)), (37, .invokeinterface 136 31), (40, .ifCond .eq 1), (43, .aload 0), (44, .getstatic 1138), (47, .iload 1), (48, .baload), (49, .ifCond .ne 2), (52, .aload 0), (53, .invokeinterface 197 12011), (56, .iconst (16)), (58, .if_icmp .ne 2), (61, .goto_w 1)]
def bX11_mark_1 : CD := [(61, .iconst (0)), (62, .ireturn)]
def bX11_mark_2 : CD := [(63, .aload 0), (64, .getstatic 1138), (67, .iload 1), (68, .iconst (1)), (69, .bastore), (70, .aload 0), (71, .getstatic 1139), (74, .iload 1), (75, .iload 2), (76, .iastore), (77, .aload 0), (78, .getstatic 1140), (81, .iload 1), (82, .iload 3), (83, .iastore), (84, .aload 0), (85, .getstatic 1141), (88, .iload 1), (89, .iload 4), (91, .iastore), (92, .iconst (1)), (93, .ireturn)]
def bX11_mark : List CD := [bX11_mark_0, bX11_mark_1, bX11_mark_2]
theorem kX11_mark : bX11_mark.all (chkL 11 false cX11_mark bX11_mark) = true := by decide +kernel
theorem mX11_mark : MB 198 bX11_mark 2 5 := ⟨by decide, by decide +kernel, kX11_mark, rfl, rfl⟩
def bX11_count_0 : CD := [(0, .aload 0), (1, .iconst (0)), (2, .putfield 1100), (5, .iconst (0)), (6, .istore 2), (7, .iload 1), (8, .tableswitch 15 (0) (11) #[1, 2, 3, 4, 5, 6, 7, 8, 9, 10, 11, 14])]
def bX11_count_1 : CD := [(72, .aload 0), (73, .getstatic 1105), (76, .iconst (0)), (77, .iaload), (78, .ireturn)]
def bX11_count_2 : CD := [(79, .aload 0), (80, .getstatic 1121), (83, .iconst (0)), (84, .iaload), (85, .ireturn)]
def bX11_count_3 : CD := [(86, .aload 0), (87, .invokeinterface 151 12011), (90, .ireturn)]
def bX11_count_4 : CD := [(91, .aload 0), (92, .getstatic 1132), (95, .iconst (0)), (96, .iaload), (97, .ireturn)]
def bX11_count_5 : CD := [(98, .aload 0), (99, .getstatic 1136), (102, .iconst (0)), (103, .iaload), (104, .ireturn)]
def bX11_count_6 : CD := [(105, .aload 0), (106, .getstatic 1123), (109, .iconst (0)), (110, .iaload), (111, .ireturn)]
def bX11_count_7 : CD := [(112, .aload 0), (113, .getstatic 1124), (116, .iconst (0)), (117, .iaload), (118, .ireturn)]
def bX11_count_8 : CD := [(119, .aload 0), (120, .getstatic 1125), (123, .iconst (0)), (124, .iaload), (125, .ireturn)]
def bX11_count_9 : CD := [(126, .aload 0), (127, .getstatic 1119), (130, .iconst (0)), (131, .iaload), (132, .ireturn)]
def bX11_count_10 : CD := [(133, .aload 0), (134, .getstatic 1105), (137, .iconst (0)), (138, .iaload), (139, .aload 0), (140, .iconst (-1)), (141, .invokeinterface 146 12021), (144, .isub), (145, .ireturn)]
def bX11_count_11 : CD := [(146, .iconst (0)), (147, .istore 3), (148, .goto_w 100148)]
def bX11_count_12 : CD := [(148, .iload 3), (149, .aload 0), (150, .getstatic 1105), (153, .iconst (0)), (154, .iaload), (155, .if_icmp .ge 13), (158, .iload 2), (159, .aload 0), (160, .getstatic 1114), (163, .iload 3), (164, .iaload), (165, .iadd), (166, .istore 2), (167, .iinc 3 (1)), (170, .goto 100148)]
def bX11_count_13 : CD := [(173, .iload 2), (174, .ireturn)]
def bX11_count_14 : CD := [(175, .aload 0), (176, .invokeinterface 197 12011), (179, .ireturn)]
def bX11_count_15 : CD := [(180, .iconst (-1)), (181, .ireturn)]
def bX11_count : List CD := [bX11_count_0, bX11_count_1, bX11_count_2, bX11_count_3, bX11_count_4, bX11_count_5, bX11_count_6, bX11_count_7, bX11_count_8, bX11_count_9, bX11_count_10, bX11_count_11, bX11_count_12, bX11_count_13, bX11_count_14, bX11_count_15]
theorem kX11_count : bX11_count.all (chkL 11 false cX11_count bX11_count) = true := by decide +kernel
theorem mX11_count : MB 200 bX11_count 1 4 := ⟨by decide, by decide +kernel, kX11_count, rfl, rfl⟩
