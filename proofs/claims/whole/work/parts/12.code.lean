/-! the code of the methods, in blocks -/
def bX0_init_0 : CD := [(0, .aload 0), (1, .pop), (4, .aload 0), (5, .iconst (24)), (7, .anewarray 5), (10, .putstatic 0), (13, .aload 0), (14, .iconst (6)), (16, .newarray .int), (18, .putstatic 3), (21, .aload 0), (22, .iconst (6)), (24, .newarray .int), (26, .putstatic 5), (29, .aload 0), (30, .iconst (192)), (33, .newarray .int), (35, .putstatic 7), (38, .aload 0), (39, .new 2), (42, .dup), (43, .invokeinterface 16 799010), (46, .putstatic 11), (49, .aload 0), (50, .iconst (500)), (53, .newarray .byte), (55, .putstatic 12), (58, .aload 0), (59, .iconst (-1)), (60, .putfield 15), (63, .aload 0), (64, .iconst (14)), (66, .newarray .int), (68, .putstatic 16), (71, .iconst (0)), (72, .istore 1), (73, .goto_w 100073)]
def bX0_init_1 : CD := [(73, .iload 1), (74, .iconst (24)), (76, .if_icmp .ge 2), (79, .aload 0), (80, .getstatic 0), (83, .iload 1), (84, .new 1), (87, .dup), (88, .invokeinterface 10 99010), (91, .aastore), (92, .iinc 1 (1)), (95, .goto 100073)]
def bX0_init_2 : CD := [(98, .return_)]
def bX0_init : List CD := [bX0_init_0, bX0_init_1, bX0_init_2]
theorem kX0_init : bX0_init.all (chkL 0 true cX0_init bX0_init) = true := by decide +kernel
theorem mX0_init : MB 0 bX0_init 0 2 := ⟨by decide, by decide +kernel, kX0_init, rfl, rfl⟩
def bX0_copyFrom_0 : CD := [(0, .iconst (0)), (1, .istore 2), (2, .goto_w 100002)]
def bX0_copyFrom_1 : CD := [(2, .iload 2), (3, .iconst (24)), (5, .if_icmp .ge 2), (8, .aload 0), (9, .getstatic 0), (12, .iload 2), (13, .aaload), (14, .aload 1), (15, .getstatic 0), (18, .iload 2), (19, .aaload), (20, .invokeinterface 12 2020), (23, .iinc 2 (1)), (26, .goto 100002)]
def bX0_copyFrom_2 : CD := [(29, .aload 0), (30, .aload 1), (31, .getfield 1), (34, .putfield 1), (37, .aload 0), (38, .aload 1), (39, .getfield 2), (42, .putfield 2), (45, .aload 1), (46, .getstatic 3), (49, .iconst (0)), (50, .aload 0), (51, .getstatic 3), (54, .iconst (0)), (55, .iconst (6)), (57, .pop2), (60, .aload 0), (61, .aload 1), (62, .getfield 4), (65, .putfield 4), (68, .aload 1), (69, .getstatic 5), (72, .iconst (0)), (73, .aload 0), (74, .getstatic 5), (77, .iconst (0)), (78, .iconst (6)), (80, .pop2), (83, .aload 0), (84, .aload 1), (85, .getfield 6), (88, .putfield 6), (91, .aload 1), (92, .getstatic 7), (95, .iconst (0)), (96, .aload 0), (97, .getstatic 7), (100, .iconst (0)), (101, .iconst (192)), (104, .pop2), (107, .aload 0), (108, .aload 1), (109, .getfield 8), (112, .putfield 8), (115, .aload 0), (116, .aload 1), (117, .getfield 9), (120, .putfield 9), (123, .aload 0), (124, .aload 1), (125, .getfield 10), (128, .putfield 10), (131, .aload 0), (132, .getstatic 11), (135, .aload 1), (136, .getstatic 11), (139, .invokeinterface 17 3020), (142, .aload 1), (143, .getstatic 12), (146, .iconst (0)), (147, .aload 0), (148, .getstatic 12), (151, .iconst (0)), (152, .iconst (500)), (155, .pop2), (158, .aload 0), (159, .aload 1), (160, .getfield 13), (163, .putfield 13), (166, .aload 0), (167, .aload 1), (168, .getfield 14), (171, .putfield 14), (174, .aload 0), (175, .aload 1), (176, .getfield 15), (179, .putfield 15), (182, .aload 1), (183, .getstatic 16), (186, .iconst (0)), (187, .aload 0), (188, .getstatic 16), (191, .iconst (0)), (192, .iconst (14)), (194, .pop2), (197, .aload 0), (198, .aload 1), (199, .getfield 17), (202, .putfield 17), (205, .return_)]
def bX0_copyFrom : List CD := [bX0_copyFrom_0, bX0_copyFrom_1, bX0_copyFrom_2]
theorem kX0_copyFrom : bX0_copyFrom.all (chkL 0 false cX0_copyFrom bX0_copyFrom) = true := by decide +kernel
theorem mX0_copyFrom : MB 1 bX0_copyFrom 0 3 := ⟨by decide, by decide +kernel, kX0_copyFrom, rfl, rfl⟩
def bX0_hasChild_0 : CD := [(0, .iload 1), (1, .ifCond .lt 1), (4, .iload 1), (5, .aload 0), (6, .getfield 1), (9, .if_icmp .ge 1), (12, .iconst (1)), (13, .goto 2)]
def bX0_hasChild_1 : CD := [(16, .iconst (0)), (17, .goto_w 2)]
def bX0_hasChild_2 : CD := [(17, .ireturn)]
def bX0_hasChild : List CD := [bX0_hasChild_0, bX0_hasChild_1, bX0_hasChild_2]
theorem kX0_hasChild : bX0_hasChild.all (chkL 0 false cX0_hasChild bX0_hasChild) = true := by decide +kernel
theorem mX0_hasChild : MB 2 bX0_hasChild 2 2 := ⟨by decide, by decide +kernel, kX0_hasChild, rfl, rfl⟩
def bX0_hasCabin_0 : CD := [(0, .iload 1), (1, .ifCond .lt 1), (4, .iload 1), (5, .aload 0), (6, .getfield 4), (9, .if_icmp .ge 1), (12, .iconst (1)), (13, .goto 2)]
def bX0_hasCabin_1 : CD := [(16, .iconst (0)), (17, .goto_w 2)]
def bX0_hasCabin_2 : CD := [(17, .ireturn)]
def bX0_hasCabin : List CD := [bX0_hasCabin_0, bX0_hasCabin_1, bX0_hasCabin_2]
theorem kX0_hasCabin : bX0_hasCabin.all (chkL 0 false cX0_hasCabin bX0_hasCabin) = true := by decide +kernel
theorem mX0_hasCabin : MB 3 bX0_hasCabin 2 2 := ⟨by decide, by decide +kernel, kX0_hasCabin, rfl, rfl⟩
def bX0_hasHost_0 : CD := [(0, .iload 1), (1, .ifCond .lt 1), (4, .iload 1), (5, .aload 0), (6, .getfield 8), (9, .if_icmp .ge 1), (12, .iconst (1)), (13, .goto 2)]
def bX0_hasHost_1 : CD := [(16, .iconst (0)), (17, .goto_w 2)]
def bX0_hasHost_2 : CD := [(17, .ireturn)]
def bX0_hasHost : List CD := [bX0_hasHost_0, bX0_hasHost_1, bX0_hasHost_2]
theorem kX0_hasHost : bX0_hasHost.all (chkL 0 false cX0_hasHost bX0_hasHost) = true := by decide +kernel
theorem mX0_hasHost : MB 4 bX0_hasHost 2 2 := ⟨by decide, by decide +kernel, kX0_hasHost, rfl, rfl⟩
def bX0_bedCount_0 : CD := [(0, .iconst (0)), (1, .istore 1), (2, .iconst (0)), (3, .istore 2), (4, .goto_w 100004)]
def bX0_bedCount_1 : CD := [(4, .iload 2), (5, .aload 0), (6, .getfield 4), (9, .if_icmp .ge 2), (12, .iload 1), (13, .aload 0), (14, .getstatic 3), (17, .iload 2), (18, .iaload), (19, .iadd), (20, .istore 1), (21, .iinc 2 (1)), (24, .goto 100004)]
def bX0_bedCount_2 : CD := [(27, .iload 1), (28, .ireturn)]
def bX0_bedCount : List CD := [bX0_bedCount_0, bX0_bedCount_1, bX0_bedCount_2]
theorem kX0_bedCount : bX0_bedCount.all (chkL 0 false cX0_bedCount bX0_bedCount) = true := by decide +kernel
theorem mX0_bedCount : MB 5 bX0_bedCount 1 3 := ⟨by decide, by decide +kernel, kX0_bedCount, rfl, rfl⟩
def bX0_lyingIn_0 : CD := [(0, .iconst (0)), (1, .istore 2), (2, .iconst (0)), (3, .istore 3), (4, .goto_w 100004)]
def bX0_lyingIn_1 : CD := [(4, .iload 3), (5, .aload 0), (6, .getfield 1), (9, .if_icmp .ge 3), (12, .aload 0), (13, .getstatic 0), (16, .iload 3), (17, .aaload), (18, .getfield 104), (21, .iload 1), (22, .if_icmp .ne 2), (25, .iinc 2 (1)), (28, .goto_w 2)]
def bX0_lyingIn_2 : CD := [(28, .iinc 3 (1)), (31, .goto 100004)]
def bX0_lyingIn_3 : CD := [(34, .iload 2), (35, .ireturn)]
def bX0_lyingIn : List CD := [bX0_lyingIn_0, bX0_lyingIn_1, bX0_lyingIn_2, bX0_lyingIn_3]
theorem kX0_lyingIn : bX0_lyingIn.all (chkL 0 false cX0_lyingIn bX0_lyingIn) = true := by decide +kernel
theorem mX0_lyingIn : MB 6 bX0_lyingIn 1 4 := ⟨by decide, by decide +kernel, kX0_lyingIn, rfl, rfl⟩
def bX0_tokenCount_0 : CD := [(0, .iconst (0)), (1, .istore 1), (2, .iconst (0)), (3, .istore 2), (4, .goto_w 100004)]
def bX0_tokenCount_1 : CD := [(4, .iload 2), (5, .aload 0), (6, .getfield 1), (9, .if_icmp .ge 2), (12, .iload 1), (13, .aload 0), (14, .getstatic 0), (17, .iload 2), (18, .aaload), (19, .getfield 109), (22, .iadd), (23, .istore 1), (24, .iinc 2 (1)), (27, .goto 100004)]
def bX0_tokenCount_2 : CD := [(30, .iload 1), (31, .ireturn)]
def bX0_tokenCount : List CD := [bX0_tokenCount_0, bX0_tokenCount_1, bX0_tokenCount_2]
theorem kX0_tokenCount : bX0_tokenCount.all (chkL 0 false cX0_tokenCount bX0_tokenCount) = true := by decide +kernel
theorem mX0_tokenCount : MB 7 bX0_tokenCount 1 3 := ⟨by decide, by decide +kernel, kX0_tokenCount, rfl, rfl⟩
def bX0_markedCount_0 : CD := [(0, .iconst (0)), (1, .istore 1), (2, .iconst (0)), (3, .istore 2), (4, .goto_w 100004)]
def bX0_markedCount_1 : CD := [(4, .iload 2), (5, .aload 0), (6, .getfield 1), (9, .if_icmp .ge 3), (12, .aload 0), (13, .getstatic 0), (16, .iload 2), (17, .aaload), (18, .getfield 114), (21, .ifCond .eq 2), (24, .iinc 1 (1)), (27, .goto_w 2)]
def bX0_markedCount_2 : CD := [(27, .iinc 2 (1)), (30, .goto 100004)]
def bX0_markedCount_3 : CD := [(33, .iload 1), (34, .ireturn)]
def bX0_markedCount : List CD := [bX0_markedCount_0, bX0_markedCount_1, bX0_markedCount_2, bX0_markedCount_3]
theorem kX0_markedCount : bX0_markedCount.all (chkL 0 false cX0_markedCount bX0_markedCount) = true := by decide +kernel
theorem mX0_markedCount : MB 8 bX0_markedCount 1 3 := ⟨by decide, by decide +kernel, kX0_markedCount, rfl, rfl⟩
def bX0_addToTape_0 : CD := [(0, .iconst (24)), (2, .istore 2), (3, .goto_w 100003)]
def bX0_addToTape_1 : CD := [(3, .iload 2), (4, .ifCond .lt 2), (7, .aload 0), (8, .getfield 13), (11, .iconst (500)), (14, .if_icmp .ge 2), (17, .aload 0), (18, .getstatic 12), (21, .aload 0), (22, .getfield 13), (25, .iload 1), (26, .iload 2), (27, .ishr), (28, .i2b), (29, .bastore), (30, .aload 0), (31, .dup), (32, .getfield 13), (35, .iconst (1)), (36, .iadd), (37, .putfield 13), (40, .iinc 2 (-8)), (43, .goto 100003)]
def bX0_addToTape_2 : CD := [(46, .return_)]
def bX0_addToTape : List CD := [bX0_addToTape_0, bX0_addToTape_1, bX0_addToTape_2]
theorem kX0_addToTape : bX0_addToTape.all (chkL 0 false cX0_addToTape bX0_addToTape) = true := by decide +kernel
theorem mX0_addToTape : MB 9 bX0_addToTape 0 3 := ⟨by decide, by decide +kernel, kX0_addToTape, rfl, rfl⟩
def bX1_init_0 : CD := [(0, .aload 0), (1, .pop), (4, .return_)]
def bX1_init : List CD := [bX1_init_0]
theorem kX1_init : bX1_init.all (chkL 1 true cX1_init bX1_init) = true := by decide +kernel
theorem mX1_init : MB 10 bX1_init 0 1 := ⟨by decide, by decide +kernel, kX1_init, rfl, rfl⟩
def bX1_begin_0 : CD := [(0, .aload 0), (1, .iload 1), (2, .putfield 100), (5, .aload 0), (6, .iload 2), (7, .putfield 101), (10, .aload 0), (11, .iload 3), (12, .instanceof 102), (15, .aload 0), (16, .iconst (0)), (17, .putfield 103), (20, .aload 0), (21, .iconst (-1)), (22, .putfield 104), (25, .aload 0), (26, .iconst (0)), (27, .putfield 105), (30, .aload 0), (31, .iconst (10)), (33, .putfield 106), (36, .aload 0), (37, .iconst (0)), (38, .putfield 107), (41, .aload 0), (42, .iconst (-1)), (43, .putfield 108), (46, .aload 0), (47, .iconst (10)), (49, .putfield 109), (52, .aload 0), (53, .iconst (0)), (54, .putfield 110), (57, .aload 0), (58, .iconst (0)), (59, .putfield 111), (62, .aload 0), (63, .iconst (0)), (64, .instanceof 112), (67, .aload 0), (68, .iconst (-1)), (69, .putfield 113), (72, .aload 0), (73, .iconst (0)), (74, .instanceof 114), (77, .aload 0), (78, .iconst (0)), (79, .putfield 115), (82, .aload 0), (83, .iconst (0)), (84, .putfield 116), (87, .return_)]
def bX1_begin : List CD := [bX1_begin_0]
theorem kX1_begin : bX1_begin.all (chkL 1 false cX1_begin bX1_begin) = true := by decide +kernel
theorem mX1_begin : MB 11 bX1_begin 0 4 := ⟨by decide, by decide +kernel, kX1_begin, rfl, rfl⟩
def bX1_copyFrom_0 : CD := [(0, .aload 0), (1, .aload 1), (2, .getfield 100), (5, .putfield 100), (8, .aload 0), (9, .aload 1), (10, .getfield 101), (13, .putfield 101), (16, .aload 0), (17, .aload 1), (18, .getfield 102), (21, .instanceof 102), (24, .aload 0), (25, .aload 1), (26, .getfield 103), (29, .putfield 103), (32, .aload 0), (33, .aload 1), (34, .getfield 104), (37, .putfield 104), (40, .aload 0), (41, .aload 1), (42, .getfield 105), (45, .putfield 105), (48, .aload 0), (49, .aload 1), (50, .getfield 106), (53, .putfield 106), (56, .aload 0), (57, .aload 1), (58, .getfield 107), (61, .putfield 107), (64, .aload 0), (65, .aload 1), (66, .getfield 108), (69, .putfield 108), (72, .aload 0), (73, .aload 1), (74, .getfield 109), (77, .putfield 109), (80, .aload 0), (81, .aload 1), (82, .getfield 110), (85, .putfield 110), (88, .aload 0), (89, .aload 1), (90, .getfield 111), (93, .putfield 111), (96, .aload 0), (97, .aload 1), (98, .getfield 112), (101, .instanceof 112), (104, .aload 0), (105, .aload 1), (106, .getfield 113), (109, .putfield 113), (112, .aload 0), (113, .aload 1), (114, .getfield 114), (117, .instanceof 114), (120, .aload 0), (121, .aload 1), (122, .getfield 115), (125, .putfield 115), (128, .aload 0), (129, .aload 1), (130, .getfield 116), (133, .putfield 116), (136, .return_)]
def bX1_copyFrom : List CD := [bX1_copyFrom_0]
theorem kX1_copyFrom : bX1_copyFrom.all (chkL 1 false cX1_copyFrom bX1_copyFrom) = true := by decide +kernel
theorem mX1_copyFrom : MB 12 bX1_copyFrom 0 2 := ⟨by decide, by decide +kernel, kX1_copyFrom, rfl, rfl⟩
def bX1_isBarredFrom_0 : CD := [(0, .aload 0), (1, .getfield 103), (4, .iload 1), (5, .ishr), (6, .iconst (1)), (7, .iand), (8, .ifCond .eq 1), (11, .iconst (1)), (12, .goto 2)]
def bX1_isBarredFrom_1 : CD := [(15, .iconst (0)), (16, .goto_w 2)]
def bX1_isBarredFrom_2 : CD := [(16, .ireturn)]
def bX1_isBarredFrom : List CD := [bX1_isBarredFrom_0, bX1_isBarredFrom_1, bX1_isBarredFrom_2]
theorem kX1_isBarredFrom : bX1_isBarredFrom.all (chkL 1 false cX1_isBarredFrom bX1_isBarredFrom) = true := by decide +kernel
theorem mX1_isBarredFrom : MB 13 bX1_isBarredFrom 2 2 := ⟨by decide, by decide +kernel, kX1_isBarredFrom, rfl, rfl⟩
def bX1_tryTask_0 : CD := [(0, .iload 2), (1, .ifCond .eq 1), (4, .aload 0), (5, .aload 0), (6, .getfield 105), (9, .iload 1), (10, .fadd), (13, .putfield 105), (16, .goto 2)]
def bX1_tryTask_1 : CD := [(19, .aload 0), (20, .aload 0), (21, .getfield 106), (24, .iload 1), (25, .iconst (1)), (26, .isub), (27, .fsub), (30, .putfield 106), (33, .goto_w 2)]
def bX1_tryTask_2 : CD := [(33, .aload 0), (34, .getfield 105), (37, .aload 0), (38, .getfield 106), (41, .if_icmp .le 3), (44, .aload 0), (45, .iload 1), (46, .iconst (1)), (47, .isub), (48, .putfield 105), (51, .aload 0), (52, .iload 1), (53, .putfield 106), (56, .aload 0), (57, .dup), (58, .getfield 107), (61, .iconst (1)), (62, .iadd), (63, .putfield 107), (66, .goto_w 3)]
def bX1_tryTask_3 : CD := [(66, .return_)]
def bX1_tryTask : List CD := [bX1_tryTask_0, bX1_tryTask_1, bX1_tryTask_2, bX1_tryTask_3]
theorem kX1_tryTask : bX1_tryTask.all (chkL 1 false cX1_tryTask bX1_tryTask) = true := by decide +kernel
theorem mX1_tryTask : MB 14 bX1_tryTask 0 3 := ⟨by decide, by decide +kernel, kX1_tryTask, rfl, rfl⟩
def bX1_nextHardness_0 : CD := [(0, .aload 0), (1, .getfield 105), (4, .aload 0), (5, .getfield 106), (8, .if_icmp .ge 1), (11, .aload 0), (12, .getfield 105), (15, .aload 0), (16, .getfield 106), (19, .iadd), (20, .iconst (1)), (21, .iadd), (22, .iconst (2)), (23, .idiv), (24, .goto 2)]
def bX1_nextHardness_1 : CD := [(27, .iconst (-1)), (28, .goto_w 2)]
def bX1_nextHardness_2 : CD := [(28, .ireturn)]
def bX1_nextHardness : List CD := [bX1_nextHardness_0, bX1_nextHardness_1, bX1_nextHardness_2]
theorem kX1_nextHardness : bX1_nextHardness.all (chkL 1 false cX1_nextHardness bX1_nextHardness) = true := by decide +kernel
theorem mX1_nextHardness : MB 15 bX1_nextHardness 1 1 := ⟨by decide, by decide +kernel, kX1_nextHardness, rfl, rfl⟩
def bX2_init_0 : CD := [(0, .aload 0), (1, .pop), (4, .aload 0), (5, .iconst (16)), (7, .newarray .int), (9, .putstatic 201), (12, .aload 0), (13, .iconst (16)), (15, .newarray .int), (17, .putstatic 202), (20, .aload 0), (21, .iconst (16)), (23, .newarray .int), (25, .putstatic 203), (28, .aload 0), (29, .iconst (64)), (31, .newarray .int), (33, .putstatic 204), (36, .aload 0), (37, .iconst (64)), (39, .newarray .int), (41, .putstatic 205), (44, .aload 0), (45, .iconst (64)), (47, .newarray .int), (49, .putstatic 206), (52, .aload 0), (53, .iconst (64)), (55, .newarray .int), (57, .putstatic 207), (60, .return_)]
def bX2_init : List CD := [bX2_init_0]
theorem kX2_init : bX2_init.all (chkL 2 true cX2_init bX2_init) = true := by decide +kernel
theorem mX2_init : MB 16 bX2_init 0 1 := ⟨by decide, by decide +kernel, kX2_init, rfl, rfl⟩
def bX2_copyFrom_0 : CD := [(0, .aload 0), (1, .aload 1), (2, .getfield 200), (5, .putfield 200), (8, .aload 1), (9, .getstatic 201), (12, .iconst (0)), (13, .aload 0), (14, .getstatic 201), (17, .iconst (0)), (18, .iconst (16)), (20, .pop2), (23, .aload 1), (24, .getstatic 202), (27, .iconst (0)), (28, .aload 0), (29, .getstatic 202), (32, .iconst (0)), (33, .iconst (16)), (35, .pop2), (38, .aload 1), (39, .getstatic 203), (42, .iconst (0)), (43, .aload 0), (44, .getstatic 203), (47, .iconst (0)), (48, .iconst (16)), (50, .pop2), (53, .aload 1), (54, .getstatic 204), (57, .iconst (0)), (58, .aload 0), (59, .getstatic 204), (62, .iconst (0)), (63, .iconst (64)), (65, .pop2), (68, .aload 1), (69, .getstatic 205), (72, .iconst (0)), (73, .aload 0), (74, .getstatic 205), (77, .iconst (0)), (78, .iconst (64)), (80, .pop2), (83, .aload 1), (84, .getstatic 206), (87, .iconst (0)), (88, .aload 0), (89, .getstatic 206), (92, .iconst (0)), (93, .iconst (64)), (95, .pop2), (98, .aload 1), (99, .getstatic 207), (102, .iconst (0)), (103, .aload 0), (104, .getstatic 207), (107, .iconst (0)), (108, .iconst (64)), (110, .pop2), (113, .return_)]
def bX2_copyFrom : List CD := [bX2_copyFrom_0]
theorem kX2_copyFrom : bX2_copyFrom.all (chkL 2 false cX2_copyFrom bX2_copyFrom) = true := by decide +kernel
theorem mX2_copyFrom : MB 17 bX2_copyFrom 0 2 := ⟨by decide, by decide +kernel, kX2_copyFrom, rfl, rfl⟩
def bX2_putTest_0 : CD := [(0, .iload 1), (1, .iconst (16)), (3, .if_icmp .ge 1), (6, .iload 2), (7, .iconst (4)), (8, .if_icmp .lt 2), (11, .goto_w 1)]
def bX2_putTest_1 : CD := [(11, .return_)]
def bX2_putTest_2 : CD := [(12, .iload 1), (13, .iconst (4)), (14, .imul), (15, .iload 2), (16, .iadd), (17, .istore 7), (19, .aload 0), (20, .getstatic 204), (23, .iload 7), (25, .iload 3), (26, .ifCond .eq 3), (29, .iconst (1)), (30, .goto 4)]
def bX2_putTest_3 : CD := [(33, .iconst (0)), (34, .goto_w 4)]
def bX2_putTest_4 : CD := [(34, .iastore), (35, .aload 0), (36, .getstatic 205), (39, .iload 7), (41, .iload 4), (43, .iastore), (44, .aload 0), (45, .getstatic 206), (48, .iload 7), (50, .iload 5), (52, .iastore), (53, .aload 0), (54, .getstatic 207), (57, .iload 7), (59, .iload 6), (61, .iastore), (62, .return_)]
def bX2_putTest : List CD := [bX2_putTest_0, bX2_putTest_1, bX2_putTest_2, bX2_putTest_3, bX2_putTest_4]
theorem kX2_putTest : bX2_putTest.all (chkL 2 false cX2_putTest bX2_putTest) = true := by decide +kernel
theorem mX2_putTest : MB 18 bX2_putTest 0 8 := ⟨by decide, by decide +kernel, kX2_putTest, rfl, rfl⟩
def bX2_putLine_0 : CD := [(0, .iload 1), (1, .iconst (16)), (3, .if_icmp .ge 1), (6, .iload 4), (8, .iconst (4)), (9, .if_icmp .le 2), (12, .goto_w 1)]
def bX2_putLine_1 : CD := [(12, .return_)]
def bX2_putLine_2 : CD := [(13, .aload 0), (14, .getstatic 201), (17, .iload 1), (18, .iload 2), (19, .iastore), (20, .aload 0), (21, .getstatic 202), (24, .iload 1), (25, .iload 3), (26, .iastore), (27, .aload 0), (28, .getstatic 203), (31, .iload 1), (32, .iload 4), (34, .iastore), (35, .aload 0), (36, .iload 1), (37, .iconst (1)), (38, .iadd), (39, .putfield 200), (42, .return_)]
def bX2_putLine : List CD := [bX2_putLine_0, bX2_putLine_1, bX2_putLine_2]
theorem kX2_putLine : bX2_putLine.all (chkL 2 false cX2_putLine bX2_putLine) = true := by decide +kernel
theorem mX2_putLine : MB 19 bX2_putLine 0 5 := ⟨by decide, by decide +kernel, kX2_putLine, rfl, rfl⟩
def bX2_play_0 : CD := [(0, .aload 1), (1, .getfield 109), (4, .istore 3), (5, .iconst (0)), (6, .istore 4), (8, .goto_w 100008)]
def bX2_play_1 : CD := [(8, .iload 4), (10, .aload 0), (11, .getfield 200), (14, .if_icmp .ge 4), (17, .aload 0), (18, .iload 4), (20, .iload 3), (21, .aload 1), (22, .aload 2), (23, .invokeinterface 22 3051), (26, .ifCond .eq 3), (29, .aload 0), (30, .getstatic 201), (33, .iload 4), (35, .iaload), (36, .iconst (6)), (38, .if_icmp .ne 2), (41, .iload 3), (42, .ireturn)]
def bX2_play_2 : CD := [(43, .aload 0), (44, .iload 4), (46, .iload 3), (47, .invokeinterface 21 3031), (50, .istore 3), (51, .goto_w 3)]
def bX2_play_3 : CD := [(51, .iinc 4 (1)), (54, .goto 100008)]
def bX2_play_4 : CD := [(57, .iload 3), (58, .ireturn)]
def bX2_play : List CD := [bX2_play_0, bX2_play_1, bX2_play_2, bX2_play_3, bX2_play_4]
theorem kX2_play : bX2_play.all (chkL 2 false cX2_play bX2_play) = true := by decide +kernel
theorem mX2_play : MB 20 bX2_play 1 5 := ⟨by decide, by decide +kernel, kX2_play, rfl, rfl⟩
def bX2_changed_0 : CD := [(0, .aload 0), (1, .getstatic 201), (4, .iload 1), (5, .iaload), (6, .iconst (3)), (7, .if_icmp .ne 1), (10, .iconst (9999)), (13, .iload 2), (14, .aload 0), (15, .getstatic 202), (18, .iload 1), (19, .iaload), (20, .iadd), (21, .fsub), (24, .ireturn)]
def bX2_changed_1 : CD := [(25, .aload 0), (26, .getstatic 201), (29, .iload 1), (30, .iaload), (31, .iconst (4)), (32, .if_icmp .ne 2), (35, .iconst (0)), (36, .iload 2), (37, .aload 0), (38, .getstatic 202), (41, .iload 1), (42, .iaload), (43, .isub), (44, .fadd), (47, .goto 3)]
def bX2_changed_2 : CD := [(50, .aload 0), (51, .getstatic 202), (54, .iload 1), (55, .iaload), (56, .goto_w 3)]
def bX2_changed_3 : CD := [(56, .ireturn)]
def bX2_changed : List CD := [bX2_changed_0, bX2_changed_1, bX2_changed_2, bX2_changed_3]
theorem kX2_changed : bX2_changed.all (chkL 2 false cX2_changed bX2_changed) = true := by decide +kernel
theorem mX2_changed : MB 21 bX2_changed 1 3 := ⟨by decide, by decide +kernel, kX2_changed, rfl, rfl⟩
def bX2_allHold_0 : CD := [(0, .iconst (0)), (1, .istore 5), (3, .goto_w 100003)]
def bX2_allHold_1 : CD := [(3, .iload 5), (5, .aload 0), (6, .getstatic 203), (9, .iload 1), (10, .iaload), (11, .if_icmp .ge 5), (14, .iload 1), (15, .iconst (4)), (16, .imul), (17, .iload 5), (19, .iadd), (20, .istore 6), (22, .aload 0), (23, .iload 6), (25, .iload 2), (26, .aload 3), (27, .aload 4), (29, .invokeinterface 23 3051), (32, .aload 0), (33, .getstatic 204), (36, .iload 6), (38, .iaload), (39, .iconst (1)), (40, .if_icmp .ne 2), (43, .iconst (1)), (44, .goto 3)]
def bX2_allHold_2 : CD := [(47, .iconst (0)), (48, .goto_w 3)]
def bX2_allHold_3 : CD := [(48, .if_icmp .ne 4), (51, .iconst (0)), (52, .ireturn)]
def bX2_allHold_4 : CD := [(53, .iinc 5 (1)), (56, .goto 100003)]
def bX2_allHold_5 : CD := [(59, .iconst (1)), (60, .ireturn)]
def bX2_allHold : List CD := [bX2_allHold_0, bX2_allHold_1, bX2_allHold_2, bX2_allHold_3, bX2_allHold_4, bX2_allHold_5]
theorem kX2_allHold : bX2_allHold.all (chkL 2 false cX2_allHold bX2_allHold) = true := by decide +kernel
theorem mX2_allHold : MB 22 bX2_allHold 2 7 := ⟨by decide, by decide +kernel, kX2_allHold, rfl, rfl⟩
def bX2_isTrue_0 : CD := [(0, .aload 0), (1, .getstatic 205), (4, .iload 1), (5, .iaload), (6, .tableswitch 11 (7) (16) #[1, 2, 3, 4, 5, 6, 7, 8, 9, 10])]
def bX2_isTrue_1 : CD := [(60, .aload 4), (62, .getfield 703), (65, .ireturn)]
def bX2_isTrue_2 : CD := [(66, .aload 4), (68, .getfield 704), (71, .ireturn)]
def bX2_isTrue_3 : CD := [(72, .aload 3), (73, .getfield 102), (76, .ireturn)]
def bX2_isTrue_4 : CD := [(77, .aload 4), (79, .getfield 705), (82, .ireturn)]
def bX2_isTrue_5 : CD := [(83, .aload 0), (84, .iload 1), (85, .aload 4), (87, .getfield 702), (90, .invokeinterface 24 3031), (93, .ireturn)]
def bX2_isTrue_6 : CD := [(94, .aload 0), (95, .iload 1), (96, .aload 4), (98, .getfield 701), (101, .invokeinterface 24 3031), (104, .ireturn)]
def bX2_isTrue_7 : CD := [(105, .aload 0), (106, .iload 1), (107, .aload 4), (109, .getfield 700), (112, .invokeinterface 24 3031), (115, .ireturn)]
def bX2_isTrue_8 : CD := [(116, .aload 0), (117, .iload 1), (118, .aload 3), (119, .getfield 105), (122, .invokeinterface 24 3031), (125, .ireturn)]
def bX2_isTrue_9 : CD := [(126, .aload 0), (127, .iload 1), (128, .aload 3), (129, .getfield 101), (132, .invokeinterface 24 3031), (135, .ireturn)]
def bX2_isTrue_10 : CD := [(136, .aload 0), (137, .iload 1), (138, .iload 2), (139, .invokeinterface 24 3031), (142, .ireturn)]
def bX2_isTrue_11 : CD := [(143, .aload 0), (144, .iload 1), (145, .aload 4), (147, .getfield 700), (150, .aload 3), (151, .getfield 110), (154, .isub), (155, .invokeinterface 24 3031), (158, .ireturn)]
def bX2_isTrue : List CD := [bX2_isTrue_0, bX2_isTrue_1, bX2_isTrue_2, bX2_isTrue_3, bX2_isTrue_4, bX2_isTrue_5, bX2_isTrue_6, bX2_isTrue_7, bX2_isTrue_8, bX2_isTrue_9, bX2_isTrue_10, bX2_isTrue_11]
theorem kX2_isTrue : bX2_isTrue.all (chkL 2 false cX2_isTrue bX2_isTrue) = true := by decide +kernel
theorem mX2_isTrue : MB 23 bX2_isTrue 2 5 := ⟨by decide, by decide +kernel, kX2_isTrue, rfl, rfl⟩
def bX2_fits_0 : CD := [(0, .aload 0), (1, .getstatic 206), (4, .iload 1), (5, .iaload), (6, .iconst (21)), (8, .if_icmp .ne 3), (11, .iload 2), (12, .aload 0), (13, .getstatic 207), (16, .iload 1), (17, .iaload), (18, .if_icmp .ge 1), (21, .iconst (1)), (22, .goto 2)]
def bX2_fits_1 : CD := [(25, .iconst (0)), (26, .goto_w 2)]
def bX2_fits_2 : CD := [(26, .ireturn)]
def bX2_fits_3 : CD := [(27, .aload 0), (28, .getstatic 206), (31, .iload 1), (32, .iaload), (33, .iconst (22)), (35, .if_icmp .ne 5), (38, .iload 2), (39, .aload 0), (40, .getstatic 207), (43, .iload 1), (44, .iaload), (45, .if_icmp .le 4), (48, .iconst (1)), (49, .goto 7)]
def bX2_fits_4 : CD := [(52, .iconst (0)), (53, .goto 7)]
def bX2_fits_5 : CD := [(56, .iload 2), (57, .aload 0), (58, .getstatic 207), (61, .iload 1), (62, .iaload), (63, .if_icmp .ne 6), (66, .iconst (1)), (67, .goto 7)]
def bX2_fits_6 : CD := [(70, .iconst (0)), (71, .goto_w 7)]
def bX2_fits_7 : CD := [(71, .ireturn)]
def bX2_fits : List CD := [bX2_fits_0, bX2_fits_1, bX2_fits_2, bX2_fits_3, bX2_fits_4, bX2_fits_5, bX2_fits_6, bX2_fits_7]
theorem kX2_fits : bX2_fits.all (chkL 2 false cX2_fits bX2_fits) = true := by decide +kernel
theorem mX2_fits : MB 24 bX2_fits 2 3 := ⟨by decide, by decide +kernel, kX2_fits, rfl, rfl⟩
def bX3_init_0 : CD := [(0, .aload 0), (1, .pop), (4, .aload 0), (5, .iconst (6400)), (8, .newarray .int), (10, .putstatic 301), (13, .aload 0), (14, .aload 1), (15, .putstatic 300), (18, .return_)]
def bX3_init : List CD := [bX3_init_0]
theorem kX3_init : bX3_init.all (chkL 3 true cX3_init bX3_init) = true := by decide +kernel
theorem mX3_init : MB 25 bX3_init 0 2 := ⟨by decide, by decide +kernel, kX3_init, rfl, rfl⟩
def bX3_giveAll_0 : CD := [(0, .iconst (1)), (1, .aload 0), (2, .getstatic 300), (5, .getfield 8), (8, .ishl), (9, .istore 1), (10, .aload 0), (11, .getstatic 300), (14, .getfield 1), (17, .iconst (256)), (20, .imul), (21, .istore 2), (22, .iconst (0)), (23, .istore 3), (24, .goto_w 100024)]
def bX3_giveAll_1 : CD := [(24, .iload 3), (25, .iload 1), (26, .if_icmp .ge 2), (29, .aload 0), (30, .getstatic 301), (33, .iload 2), (34, .iload 3), (35, .iadd), (36, .iconst (0)), (37, .iastore), (38, .iinc 3 (1)), (41, .goto 100024)]
def bX3_giveAll_2 : CD := [(44, .aload 0), (45, .getstatic 300), (48, .getfield 1), (51, .iconst (1)), (52, .isub), (53, .istore 3), (54, .goto_w 100054)]
def bX3_giveAll_3 : CD := [(54, .iload 3), (55, .ifCond .lt 6), (58, .iconst (0)), (59, .istore 4), (61, .goto_w 100061)]
def bX3_giveAll_4 : CD := [(61, .iload 4), (63, .iload 1), (64, .if_icmp .ge 5), (67, .aload 0), (68, .getstatic 301), (71, .iload 3), (72, .iconst (256)), (75, .imul), (76, .iload 4), (78, .iadd), (79, .aload 0), (80, .iload 3), (81, .iload 4), (83, .invokeinterface 27 4031), (86, .iastore), (87, .iinc 4 (1)), (90, .goto 100061)]
def bX3_giveAll_5 : CD := [(93, .iinc 3 (-1)), (96, .goto 100054)]
def bX3_giveAll_6 : CD := [(99, .iconst (0)), (100, .istore 3), (101, .iconst (0)), (102, .istore 4), (104, .goto_w 100104)]
def bX3_giveAll_7 : CD := [(104, .iload 4), (106, .aload 0), (107, .getstatic 300), (110, .getfield 1), (113, .if_icmp .ge 10), (116, .aload 0), (117, .iload 4), (119, .iload 3), (120, .invokeinterface 29 4031), (123, .istore 5), (125, .aload 0), (126, .getstatic 300), (129, .getstatic 0), (132, .iload 4), (134, .aaload), (135, .iload 5), (137, .putfield 113), (140, .iload 3), (141, .iload 5), (143, .iconst (-1)), (144, .if_icmp .eq 8), (147, .iconst (1)), (148, .iload 5), (150, .ishl), (151, .goto 9)]
def bX3_giveAll_8 : CD := [(154, .iconst (0)), (155, .goto_w 9)]
def bX3_giveAll_9 : CD := [(155, .ior), (156, .istore 3), (157, .iinc 4 (1)), (160, .goto 100104)]
def bX3_giveAll_10 : CD := [(163, .aload 0), (164, .getstatic 301), (167, .iconst (0)), (168, .iaload), (169, .ireturn)]
def bX3_giveAll : List CD := [bX3_giveAll_0, bX3_giveAll_1, bX3_giveAll_2, bX3_giveAll_3, bX3_giveAll_4, bX3_giveAll_5, bX3_giveAll_6, bX3_giveAll_7, bX3_giveAll_8, bX3_giveAll_9, bX3_giveAll_10]
theorem kX3_giveAll : bX3_giveAll.all (chkL 3 false cX3_giveAll bX3_giveAll) = true := by decide +kernel
theorem mX3_giveAll : MB 26 bX3_giveAll 1 6 := ⟨by decide, by decide +kernel, kX3_giveAll, rfl, rfl⟩
def bX3_bestFrom_0 : CD := [(0, .aload 0), (1, .getstatic 301), (4, .iload 1), (5, .iconst (1)), (6, .iadd), (7, .iconst (256)), (10, .imul), (11, .iload 2), (12, .iadd), (13, .iaload), (14, .istore 3), (15, .iconst (0)), (16, .istore 4), (18, .goto_w 100018)]
def bX3_bestFrom_1 : CD := [(18, .iload 4), (20, .aload 0), (21, .getstatic 300), (24, .getfield 8), (27, .if_icmp .ge 3), (30, .iload 2), (31, .iload 4), (33, .ishr), (34, .iconst (1)), (35, .iand), (36, .ifCond .ne 2), (39, .iload 3), (40, .aload 0), (41, .iload 1), (42, .iload 4), (44, .iload 2), (45, .invokeinterface 28 4041), (48, .fadd), (51, .istore 3), (52, .goto_w 2)]
def bX3_bestFrom_2 : CD := [(52, .iinc 4 (1)), (55, .goto 100018)]
def bX3_bestFrom_3 : CD := [(58, .iload 3), (59, .ireturn)]
def bX3_bestFrom : List CD := [bX3_bestFrom_0, bX3_bestFrom_1, bX3_bestFrom_2, bX3_bestFrom_3]
theorem kX3_bestFrom : bX3_bestFrom.all (chkL 3 false cX3_bestFrom bX3_bestFrom) = true := by decide +kernel
theorem mX3_bestFrom : MB 27 bX3_bestFrom 1 5 := ⟨by decide, by decide +kernel, kX3_bestFrom, rfl, rfl⟩
def bX3_worth_0 : CD := [(0, .aload 0), (1, .getstatic 300), (4, .getstatic 7), (7, .iload 2), (8, .iconst (24)), (10, .imul), (11, .iload 1), (12, .iadd), (13, .iaload), (14, .istore 4), (16, .iload 4), (18, .iconst (-1)), (19, .if_icmp .ne 1), (22, .iconst (-1)), (23, .goto 2)]
def bX3_worth_1 : CD := [(26, .iconst (1000)), (29, .iload 4), (31, .iadd), (32, .aload 0), (33, .getstatic 301), (36, .iload 1), (37, .iconst (1)), (38, .iadd), (39, .iconst (256)), (42, .imul), (43, .iload 3), (44, .iconst (1)), (45, .iload 2), (46, .ishl), (47, .ior), (48, .iadd), (49, .iaload), (50, .iadd), (51, .goto_w 2)]
def bX3_worth_2 : CD := [(51, .ireturn)]
def bX3_worth : List CD := [bX3_worth_0, bX3_worth_1, bX3_worth_2]
theorem kX3_worth : bX3_worth.all (chkL 3 false cX3_worth bX3_worth) = true := by decide +kernel
theorem mX3_worth : MB 28 bX3_worth 1 5 := ⟨by decide, by decide +kernel, kX3_worth, rfl, rfl⟩
def bX3_firstBest_0 : CD := [(0, .iconst (0)), (1, .istore 3), (2, .goto_w 100002)]
def bX3_firstBest_1 : CD := [(2, .iload 3), (3, .aload 0), (4, .getstatic 300), (7, .getfield 8), (10, .if_icmp .ge 3), (13, .iload 2), (14, .iload 3), (15, .ishr), (16, .iconst (1)), (17, .iand), (18, .ifCond .ne 2), (21, .aload 0), (22, .iload 1), (23, .iload 3), (24, .iload 2), (25, .invokeinterface 28 4041), (28, .aload 0), (29, .getstatic 301), (32, .iload 1), (33, .iconst (256)), (36, .imul), (37, .iload 2), (38, .iadd), (39, .iaload), (40, .if_icmp .ne 2), (43, .iload 3), (44, .ireturn)]
def bX3_firstBest_2 : CD := [(45, .iinc 3 (1)), (48, .goto 100002)]
def bX3_firstBest_3 : CD := [(51, .iconst (-1)), (52, .ireturn)]
def bX3_firstBest : List CD := [bX3_firstBest_0, bX3_firstBest_1, bX3_firstBest_2, bX3_firstBest_3]
theorem kX3_firstBest : bX3_firstBest.all (chkL 3 false cX3_firstBest bX3_firstBest) = true := by decide +kernel
theorem mX3_firstBest : MB 29 bX3_firstBest 1 4 := ⟨by decide, by decide +kernel, kX3_firstBest, rfl, rfl⟩
def bX4_init_0 : CD := [(0, .aload 0), (1, .pop), (4, .aload 0), (5, .iconst (24)), (7, .newarray .int), (9, .putstatic 401), (12, .aload 0), (13, .iconst (175)), (16, .newarray .int), (18, .putstatic 402), (21, .aload 0), (22, .iconst (150)), (25, .newarray .int), (27, .putstatic 403), (30, .aload 0), (31, .aload 1), (32, .putstatic 400), (35, .return_)]
def bX4_init : List CD := [bX4_init_0]
theorem kX4_init : bX4_init.all (chkL 4 true cX4_init bX4_init) = true := by decide +kernel
theorem mX4_init : MB 30 bX4_init 0 2 := ⟨by decide, by decide +kernel, kX4_init, rfl, rfl⟩
def bX4_makeGroups_0 : CD := [(0, .iload 1), (1, .iconst (6)), (3, .if_icmp .le 1), (6, .iconst (-1)), (7, .ireturn)]
def bX4_makeGroups_1 : CD := [(8, .aload 0), (9, .invokeinterface 32 5010), (12, .aload 0), (13, .getstatic 402), (16, .iconst (1000000)), (18, .invokeinterface 208 20), (21, .aload 0), (22, .getstatic 402), (25, .iload 1), (26, .iconst (25)), (28, .imul), (29, .aload 0), (30, .getstatic 400), (33, .getfield 1), (36, .iadd), (37, .iconst (0)), (38, .iastore), (39, .iload 1), (40, .iconst (1)), (41, .isub), (42, .istore 4), (44, .goto_w 100044)]
def bX4_makeGroups_2 : CD := [(44, .iload 4), (46, .ifCond .lt 5), (49, .iconst (0)), (50, .istore 5), (52, .goto_w 100052)]
def bX4_makeGroups_3 : CD := [(52, .iload 5), (54, .aload 0), (55, .getstatic 400), (58, .getfield 1), (61, .if_icmp .ge 4), (64, .aload 0), (65, .iload 4), (67, .iload 5), (69, .iload 2), (70, .iload 3), (71, .invokeinterface 34 5050), (74, .iinc 5 (1)), (77, .goto 100052)]
def bX4_makeGroups_4 : CD := [(80, .iinc 4 (-1)), (83, .goto 100044)]
def bX4_makeGroups_5 : CD := [(86, .aload 0), (87, .getstatic 402), (90, .iconst (0)), (91, .iaload), (92, .iconst (1000000)), (94, .if_icmp .lt 6), (97, .iconst (-1)), (98, .ireturn)]
def bX4_makeGroups_6 : CD := [(99, .aload 0), (100, .iload 1), (101, .invokeinterface 35 5020), (104, .aload 0), (105, .getstatic 402), (108, .iconst (0)), (109, .iaload), (110, .ireturn)]
def bX4_makeGroups : List CD := [bX4_makeGroups_0, bX4_makeGroups_1, bX4_makeGroups_2, bX4_makeGroups_3, bX4_makeGroups_4, bX4_makeGroups_5, bX4_makeGroups_6]
theorem kX4_makeGroups : bX4_makeGroups.all (chkL 4 false cX4_makeGroups bX4_makeGroups) = true := by decide +kernel
theorem mX4_makeGroups : MB 31 bX4_makeGroups 1 6 := ⟨by decide, by decide +kernel, kX4_makeGroups, rfl, rfl⟩
def bX4_lineUp_0 : CD := [(0, .iconst (0)), (1, .istore 1), (2, .goto_w 100002)]
def bX4_lineUp_1 : CD := [(2, .iload 1), (3, .aload 0), (4, .getstatic 400), (7, .getfield 1), (10, .if_icmp .ge 4), (13, .iload 1), (14, .istore 2), (15, .goto_w 100015)]
def bX4_lineUp_2 : CD := [(15, .iload 2), (16, .ifCond .le 3), (19, .aload 0), (20, .aload 0), (21, .getstatic 401), (24, .iload 2), (25, .iconst (1)), (26, .isub), (27, .iaload), (28, .invokeinterface 33 5021), (31, .aload 0), (32, .iload 1), (33, .invokeinterface 33 5021), (36, .if_icmp .le 3), (39, .aload 0), (40, .getstatic 401), (43, .iload 2), (44, .aload 0), (45, .getstatic 401), (48, .iload 2), (49, .iconst (1)), (50, .isub), (51, .iaload), (52, .iastore), (53, .iinc 2 (-1)), (56, .goto 100015)]
def bX4_lineUp_3 : CD := [(59, .aload 0), (60, .getstatic 401), (63, .iload 2), (64, .iload 1), (65, .iastore), (66, .iinc 1 (1)), (69, .goto 100002)]
def bX4_lineUp_4 : CD := [(72, .return_)]
def bX4_lineUp : List CD := [bX4_lineUp_0, bX4_lineUp_1, bX4_lineUp_2, bX4_lineUp_3, bX4_lineUp_4]
theorem kX4_lineUp : bX4_lineUp.all (chkL 4 false cX4_lineUp bX4_lineUp) = true := by decide +kernel
theorem mX4_lineUp : MB 32 bX4_lineUp 0 3 := ⟨by decide, by decide +kernel, kX4_lineUp, rfl, rfl⟩
def bX4_middle_0 : CD := [(0, .aload 0), (1, .getstatic 400), (4, .getstatic 0), (7, .iload 1), (8, .aaload), (9, .getfield 105), (12, .aload 0), (13, .getstatic 400), (16, .getstatic 0), (19, .iload 1), (20, .aaload), (21, .getfield 106), (24, .iadd), (25, .ireturn)]
def bX4_middle : List CD := [bX4_middle_0]
theorem kX4_middle : bX4_middle.all (chkL 4 false cX4_middle bX4_middle) = true := by decide +kernel
theorem mX4_middle : MB 33 bX4_middle 1 2 := ⟨by decide, by decide +kernel, kX4_middle, rfl, rfl⟩
def bX4_cutRun_0 : CD := [(0, .iload 1), (1, .iconst (25)), (3, .imul), (4, .iload 2), (5, .iadd), (6, .istore 5), (8, .iconst (10)), (10, .istore 6), (12, .iconst (0)), (13, .istore 7), (15, .iconst (0)), (16, .istore 8), (18, .iload 4), (20, .aload 0), (21, .getstatic 400), (24, .getfield 1), (27, .iload 2), (28, .isub), (29, .fsub), (32, .istore 9), (34, .iconst (1)), (35, .istore 10), (37, .goto_w 100037)]
def bX4_cutRun_1 : CD := [(37, .iload 10), (39, .iload 9), (41, .if_icmp .gt 4), (44, .aload 0), (45, .getstatic 400), (48, .getstatic 0), (51, .aload 0), (52, .getstatic 401), (55, .iload 2), (56, .iload 10), (58, .iadd), (59, .iconst (1)), (60, .isub), (61, .iaload), (62, .aaload), (63, .astore 11), (65, .iload 6), (67, .aload 11), (69, .getfield 105), (72, .fsub), (75, .istore 6), (77, .iload 7), (79, .aload 11), (81, .getfield 106), (84, .fadd), (87, .istore 7), (89, .aload 11), (91, .getfield 108), (94, .iconst (-1)), (95, .if_icmp .eq 2), (98, .aload 11), (100, .getfield 108), (103, .iload 1), (104, .if_icmp .eq 2), (107, .iinc 8 (1)), (110, .goto_w 2)]
def bX4_cutRun_2 : CD := [(110, .iconst (10)), (112, .iload 7), (114, .iload 6), (116, .isub), (117, .imul), (118, .iload 8), (120, .iadd), (121, .aload 0), (122, .getstatic 402), (125, .iload 5), (127, .iconst (25)), (129, .iadd), (130, .iload 10), (132, .iadd), (133, .iaload), (134, .iadd), (135, .istore 12), (137, .iload 10), (139, .iload 3), (140, .if_icmp .lt 3), (143, .iload 12), (145, .aload 0), (146, .getstatic 402), (149, .iload 5), (151, .iaload), (152, .if_icmp .ge 3), (155, .aload 0), (156, .getstatic 402), (159, .iload 5), (161, .iload 12), (163, .iastore), (164, .aload 0), (165, .getstatic 403), (168, .iload 5), (170, .iload 10), (172, .iastore), (173, .goto_w 3)]
def bX4_cutRun_3 : CD := [(173, .iinc 10 (1)), (176, .goto 100037)]
def bX4_cutRun_4 : CD := [(179, .return_)]
def bX4_cutRun : List CD := [bX4_cutRun_0, bX4_cutRun_1, bX4_cutRun_2, bX4_cutRun_3, bX4_cutRun_4]
theorem kX4_cutRun : bX4_cutRun.all (chkL 4 false cX4_cutRun bX4_cutRun) = true := by decide +kernel
theorem mX4_cutRun : MB 34 bX4_cutRun 0 13 := ⟨by decide, by decide +kernel, kX4_cutRun, rfl, rfl⟩
def bX4_settle_0 : CD := [(0, .iconst (0)), (1, .istore 2), (2, .iconst (0)), (3, .istore 3), (4, .goto_w 100004)]
def bX4_settle_1 : CD := [(4, .iload 3), (5, .iload 1), (6, .if_icmp .ge 4), (9, .iload 2), (10, .aload 0), (11, .getstatic 400), (14, .getfield 1), (17, .if_icmp .ge 4), (20, .aload 0), (21, .getstatic 400), (24, .getfield 1), (27, .iload 2), (28, .aload 0), (29, .getstatic 403), (32, .iload 3), (33, .iconst (25)), (35, .imul), (36, .iload 2), (37, .iadd), (38, .iaload), (39, .iadd), (40, .fsub), (43, .istore 4), (45, .iload 2), (46, .istore 5), (48, .goto_w 100048)]
def bX4_settle_2 : CD := [(48, .iload 5), (50, .iload 4), (52, .if_icmp .ge 3), (55, .aload 0), (56, .getstatic 400), (59, .getstatic 0), (62, .aload 0), (63, .getstatic 401), (66, .iload 5), (68, .iaload), (69, .aaload), (70, .iload 3), (71, .putfield 108), (74, .iinc 5 (1)), (77, .goto 100048)]
def bX4_settle_3 : CD := [(80, .iload 4), (82, .istore 2), (83, .iinc 3 (1)), (86, .goto 100004)]
def bX4_settle_4 : CD := [(89, .return_)]
def bX4_settle : List CD := [bX4_settle_0, bX4_settle_1, bX4_settle_2, bX4_settle_3, bX4_settle_4]
theorem kX4_settle : bX4_settle.all (chkL 4 false cX4_settle bX4_settle) = true := by decide +kernel
theorem mX4_settle : MB 35 bX4_settle 0 6 := ⟨by decide, by decide +kernel, kX4_settle, rfl, rfl⟩
def bX5_init_0 : CD := [(0, .aload 0), (1, .pop), (4, .aload 0), (5, .iconst (16)), (7, .newarray .int), (9, .putstatic 503), (12, .aload 0), (13, .iconst (256)), (16, .newarray .int), (18, .putstatic 504), (21, .aload 0), (22, .iconst (256)), (25, .newarray .int), (27, .putstatic 505), (30, .aload 0), (31, .aload 1), (32, .putstatic 502), (35, .return_)]
def bX5_init : List CD := [bX5_init_0]
theorem kX5_init : bX5_init.all (chkL 5 true cX5_init bX5_init) = true := by decide +kernel
theorem mX5_init : MB 36 bX5_init 0 2 := ⟨by decide, by decide +kernel, kX5_init, rfl, rfl⟩
def bX5_gather_0 : CD := [(0, .aload 0), (1, .iconst (0)), (2, .putfield 500), (5, .aload 0), (6, .iconst (0)), (7, .putfield 501), (10, .aload 0), (11, .iconst (0)), (12, .putfield 506), (15, .aload 0), (16, .iconst (0)), (17, .putfield 507), (20, .aload 0), (21, .getstatic 503), (24, .iconst (0)), (25, .invokeinterface 208 20), (28, .iconst (0)), (29, .istore 1), (30, .goto_w 100030)]
def bX5_gather_1 : CD := [(30, .iload 1), (31, .aload 0), (32, .getstatic 502), (35, .getfield 1), (38, .if_icmp .ge 7), (41, .aload 0), (42, .getstatic 502), (45, .getstatic 0), (48, .iload 1), (49, .aaload), (50, .astore 2), (51, .aload 2), (52, .getfield 114), (55, .ifCond .eq 6), (58, .aload 0), (59, .getfield 506), (62, .iconst (16)), (64, .if_icmp .ge 6), (67, .aload 0), (68, .getstatic 503), (71, .aload 0), (72, .getfield 506), (75, .aload 2), (76, .getfield 115), (79, .iastore), (80, .aload 0), (81, .dup), (82, .getfield 506), (85, .iconst (1)), (86, .iadd), (87, .putfield 506), (90, .aload 0), (91, .dup), (92, .getfield 507), (95, .aload 2), (96, .getfield 116), (99, .iadd), (100, .putfield 507), (103, .aload 0), (104, .dup), (105, .getfield 500), (108, .aload 2), (109, .getfield 116), (112, .iconst (1)), (113, .if_icmp .ne 2), (116, .aload 2), (117, .getfield 115), (120, .goto 3)]
def bX5_gather_2 : CD := [(123, .iconst (0)), (124, .goto_w 3)]
def bX5_gather_3 : CD := [(124, .iadd), (125, .putfield 500), (128, .aload 0), (129, .dup), (130, .getfield 501), (133, .aload 2), (134, .getfield 116), (137, .iconst (1)), (138, .if_icmp .ne 4), (141, .iconst (0)), (142, .goto 5)]
def bX5_gather_4 : CD := [(145, .aload 2), (146, .getfield 115), (149, .goto_w 5)]
def bX5_gather_5 : CD := [(149, .iadd), (150, .putfield 501), (153, .goto_w 6)]
def bX5_gather_6 : CD := [(153, .iinc 1 (1)), (156, .goto 100030)]
def bX5_gather_7 : CD := [(159, .return_)]
def bX5_gather : List CD := [bX5_gather_0, bX5_gather_1, bX5_gather_2, bX5_gather_3, bX5_gather_4, bX5_gather_5, bX5_gather_6, bX5_gather_7]
theorem kX5_gather : bX5_gather.all (chkL 5 false cX5_gather bX5_gather) = true := by decide +kernel
theorem mX5_gather : MB 37 bX5_gather 0 3 := ⟨by decide, by decide +kernel, kX5_gather, rfl, rfl⟩
def bX5_countSets_0 : CD := [(0, .iconst (1)), (1, .istore 1), (2, .iconst (1)), (3, .istore 2), (4, .goto_w 100004)]
def bX5_countSets_1 : CD := [(4, .iload 2), (5, .aload 0), (6, .getfield 507), (9, .if_icmp .gt 2), (12, .iload 1), (13, .aload 0), (14, .getfield 506), (17, .aload 0), (18, .getfield 507), (21, .isub), (22, .iload 2), (23, .iadd), (24, .imul), (25, .iload 2), (26, .idiv), (27, .istore 1), (28, .iinc 2 (1)), (31, .goto 100004)]
def bX5_countSets_2 : CD := [(34, .iload 1), (35, .ireturn)]
def bX5_countSets : List CD := [bX5_countSets_0, bX5_countSets_1, bX5_countSets_2]
theorem kX5_countSets : bX5_countSets.all (chkL 5 false cX5_countSets bX5_countSets) = true := by decide +kernel
theorem mX5_countSets : MB 38 bX5_countSets 1 3 := ⟨by decide, by decide +kernel, kX5_countSets, rfl, rfl⟩
def bX5_countAsGood_0 : CD := [(0, .aload 0), (1, .aload 0), (2, .getstatic 504), (5, .iconst (0)), (6, .invokeinterface 40 6030), (9, .aload 0), (10, .aload 0), (11, .getstatic 505), (14, .iconst (8)), (16, .invokeinterface 40 6030), (19, .iconst (0)), (20, .istore 1), (21, .aload 0), (22, .invokeinterface 38 6011), (25, .istore 2), (26, .iconst (1)), (27, .aload 0), (28, .getfield 507), (31, .ishl), (32, .iconst (1)), (33, .isub), (34, .istore 3), (35, .iconst (0)), (36, .istore 4), (38, .goto_w 100038)]
def bX5_countAsGood_1 : CD := [(38, .iload 4), (40, .iload 2), (41, .if_icmp .ge 3), (44, .aload 0), (45, .getstatic 504), (48, .iload 3), (49, .iconst (255)), (52, .iand), (53, .iaload), (54, .aload 0), (55, .getstatic 505), (58, .iload 3), (59, .iconst (8)), (61, .ishr), (62, .iconst (255)), (65, .iand), (66, .iaload), (67, .iadd), (68, .aload 0), (69, .getfield 500), (72, .if_icmp .lt 2), (75, .iinc 1 (1)), (78, .goto_w 2)]
def bX5_countAsGood_2 : CD := [(78, .iload 3), (79, .invokeinterface 41 11), (82, .istore 3), (83, .iinc 4 (1)), (86, .goto 100038)]
def bX5_countAsGood_3 : CD := [(89, .iload 1), (90, .ireturn)]
def bX5_countAsGood : List CD := [bX5_countAsGood_0, bX5_countAsGood_1, bX5_countAsGood_2, bX5_countAsGood_3]
theorem kX5_countAsGood : bX5_countAsGood.all (chkL 5 false cX5_countAsGood bX5_countAsGood) = true := by decide +kernel
theorem mX5_countAsGood : MB 39 bX5_countAsGood 1 5 := ⟨by decide, by decide +kernel, kX5_countAsGood, rfl, rfl⟩
def bX5_sumHalf_0 : CD := [(0, .aload 1), (1, .iconst (0)), (2, .iconst (0)), (3, .iastore), (4, .iconst (0)), (5, .istore 3), (6, .goto_w 100006)]
def bX5_sumHalf_1 : CD := [(6, .iload 3), (7, .iconst (8)), (9, .if_icmp .ge 4), (12, .iconst (1)), (13, .iload 3), (14, .ishl), (15, .istore 4), (17, .iconst (0)), (18, .istore 5), (20, .goto_w 100020)]
def bX5_sumHalf_2 : CD := [(20, .iload 5), (22, .iload 4), (24, .if_icmp .ge 3), (27, .aload 1), (28, .iload 4), (30, .iload 5), (32, .iadd), (33, .aload 1), (34, .iload 5), (36, .iaload), (37, .aload 0), (38, .getstatic 503), (41, .iload 2), (42, .iload 3), (43, .iadd), (44, .iaload), (45, .iadd), (46, .iastore), (47, .iinc 5 (1)), (50, .goto 100020)]
def bX5_sumHalf_3 : CD := [(53, .iinc 3 (1)), (56, .goto 100006)]
def bX5_sumHalf_4 : CD := [(59, .return_)]
def bX5_sumHalf : List CD := [bX5_sumHalf_0, bX5_sumHalf_1, bX5_sumHalf_2, bX5_sumHalf_3, bX5_sumHalf_4]
theorem kX5_sumHalf : bX5_sumHalf.all (chkL 5 false cX5_sumHalf bX5_sumHalf) = true := by decide +kernel
theorem mX5_sumHalf : MB 40 bX5_sumHalf 0 6 := ⟨by decide, by decide +kernel, kX5_sumHalf, rfl, rfl⟩
def bX5_setAfter_0 : CD := [(0, .iload 0), (1, .iload 0), (2, .ineg), (3, .iand), (4, .istore 1), (5, .iload 1), (6, .ifCond .ne 1), (9, .iconst (0)), (10, .ireturn)]
def bX5_setAfter_1 : CD := [(11, .iload 0), (12, .iload 1), (13, .iadd), (14, .istore 2), (15, .iload 2), (16, .iload 0), (17, .ixor), (18, .iload 1), (19, .idiv), (20, .iconst (2)), (21, .ishr), (22, .iload 2), (23, .ior), (24, .ireturn)]
def bX5_setAfter : List CD := [bX5_setAfter_0, bX5_setAfter_1]
theorem kX5_setAfter : bX5_setAfter.all (chkL 5 false cX5_setAfter bX5_setAfter) = true := by decide +kernel
theorem mX5_setAfter : MB 41 bX5_setAfter 1 3 := ⟨by decide, by decide +kernel, kX5_setAfter, rfl, rfl⟩
def bX6_init_0 : CD := [(0, .aload 0), (1, .pop), (4, .aload 0), (5, .iconst (576)), (8, .newarray .int), (10, .putstatic 601), (13, .aload 0), (14, .iconst (144)), (17, .newarray .int), (19, .putstatic 602), (22, .aload 0), (23, .iconst (6)), (25, .newarray .int), (27, .putstatic 603), (30, .aload 0), (31, .iconst (6)), (33, .newarray .int), (35, .putstatic 604), (38, .aload 0), (39, .iconst (128)), (42, .newarray .int), (44, .putstatic 605), (47, .aload 0), (48, .iconst (128)), (51, .newarray .int), (53, .putstatic 606), (56, .aload 0), (57, .aload 1), (58, .putstatic 600), (61, .return_)]
def bX6_init : List CD := [bX6_init_0]
theorem kX6_init : bX6_init.all (chkL 6 true cX6_init bX6_init) = true := by decide +kernel
theorem mX6_init : MB 42 bX6_init 0 2 := ⟨by decide, by decide +kernel, kX6_init, rfl, rfl⟩
def bX6_costOfAll_0 : CD := [(0, .iconst (0)), (1, .istore 1), (2, .iconst (0)), (3, .istore 2), (4, .goto_w 100004)]
def bX6_costOfAll_1 : CD := [(4, .iload 2), (5, .aload 0), (6, .getstatic 600), (9, .getfield 4), (12, .if_icmp .ge 2), (15, .iload 1), (16, .aload 0), (17, .iload 2), (18, .invokeinterface 44 7021), (21, .iadd), (22, .istore 1), (23, .iinc 2 (1)), (26, .goto 100004)]
def bX6_costOfAll_2 : CD := [(29, .iload 1), (30, .ireturn)]
def bX6_costOfAll : List CD := [bX6_costOfAll_0, bX6_costOfAll_1, bX6_costOfAll_2]
theorem kX6_costOfAll : bX6_costOfAll.all (chkL 6 false cX6_costOfAll bX6_costOfAll) = true := by decide +kernel
theorem mX6_costOfAll : MB 43 bX6_costOfAll 1 3 := ⟨by decide, by decide +kernel, kX6_costOfAll, rfl, rfl⟩
def bX6_costOf_0 : CD := [(0, .iconst (0)), (1, .istore 2), (2, .iconst (0)), (3, .istore 3), (4, .iconst (0)), (5, .istore 4), (7, .goto_w 100007)]
def bX6_costOf_1 : CD := [(7, .iload 4), (9, .aload 0), (10, .getstatic 600), (13, .getfield 1), (16, .if_icmp .ge 3), (19, .aload 0), (20, .getstatic 600), (23, .getstatic 0), (26, .iload 4), (28, .aaload), (29, .getfield 104), (32, .iload 1), (33, .if_icmp .ne 2), (36, .iload 3), (37, .aload 0), (38, .iload 4), (40, .invokeinterface 47 7021), (43, .iadd), (44, .istore 3), (45, .iload 2), (46, .aload 0), (47, .iload 4), (49, .iload 1), (50, .invokeinterface 45 7031), (53, .iadd), (54, .istore 2), (55, .goto_w 2)]
def bX6_costOf_2 : CD := [(55, .iinc 4 (1)), (58, .goto 100007)]
def bX6_costOf_3 : CD := [(61, .iload 2), (62, .iload 3), (63, .invokeinterface 48 11), (66, .iadd), (67, .ireturn)]
def bX6_costOf : List CD := [bX6_costOf_0, bX6_costOf_1, bX6_costOf_2, bX6_costOf_3]
theorem kX6_costOf : bX6_costOf.all (chkL 6 false cX6_costOf bX6_costOf) = true := by decide +kernel
theorem mX6_costOf : MB 44 bX6_costOf 1 5 := ⟨by decide, by decide +kernel, kX6_costOf, rfl, rfl⟩
def bX6_costBehind_0 : CD := [(0, .iconst (0)), (1, .istore 3), (2, .iload 1), (3, .iconst (1)), (4, .iadd), (5, .istore 4), (7, .goto_w 100007)]
def bX6_costBehind_1 : CD := [(7, .iload 4), (9, .aload 0), (10, .getstatic 600), (13, .getfield 1), (16, .if_icmp .ge 3), (19, .aload 0), (20, .getstatic 600), (23, .getstatic 0), (26, .iload 4), (28, .aaload), (29, .getfield 104), (32, .iload 2), (33, .if_icmp .ne 2), (36, .iload 3), (37, .aload 0), (38, .iload 1), (39, .iload 4), (41, .invokeinterface 46 7031), (44, .iadd), (45, .istore 3), (46, .goto_w 2)]
def bX6_costBehind_2 : CD := [(46, .iinc 4 (1)), (49, .goto 100007)]
def bX6_costBehind_3 : CD := [(52, .iload 3), (53, .ireturn)]
def bX6_costBehind : List CD := [bX6_costBehind_0, bX6_costBehind_1, bX6_costBehind_2, bX6_costBehind_3]
theorem kX6_costBehind : bX6_costBehind.all (chkL 6 false cX6_costBehind bX6_costBehind) = true := by decide +kernel
theorem mX6_costBehind : MB 45 bX6_costBehind 1 5 := ⟨by decide, by decide +kernel, kX6_costBehind, rfl, rfl⟩
def bX6_between_0 : CD := [(0, .aload 0), (1, .getstatic 600), (4, .getstatic 0), (7, .iload 1), (8, .aaload), (9, .astore 3), (10, .aload 0), (11, .getstatic 600), (14, .getstatic 0), (17, .iload 2), (18, .aaload), (19, .astore 4), (21, .aload 3), (22, .getfield 100), (25, .aload 4), (27, .getfield 100), (30, .if_icmp .ne 1), (33, .iconst (30)), (35, .goto 2)]
def bX6_between_1 : CD := [(38, .iconst (0)), (39, .goto_w 2)]
def bX6_between_2 : CD := [(39, .istore 5), (41, .aload 3), (42, .iload 2), (43, .invokeinterface 13 2021), (46, .ifCond .eq 3), (49, .iinc 5 (300)), (55, .goto_w 3)]
def bX6_between_3 : CD := [(55, .iload 5), (57, .iconst (5)), (58, .iconst (0)), (59, .aload 3), (60, .getfield 101), (63, .aload 4), (65, .getfield 101), (68, .isub), (69, .fneg), (72, .iconst (2)), (73, .isub), (74, .fadd), (77, .imul), (78, .iadd), (79, .ireturn)]
def bX6_between : List CD := [bX6_between_0, bX6_between_1, bX6_between_2, bX6_between_3]
theorem kX6_between : bX6_between.all (chkL 6 false cX6_between bX6_between) = true := by decide +kernel
theorem mX6_between : MB 46 bX6_between 1 6 := ⟨by decide, by decide +kernel, kX6_between, rfl, rfl⟩
def bX6_shyness_0 : CD := [(0, .aload 0), (1, .getstatic 600), (4, .getstatic 0), (7, .iload 1), (8, .aaload), (9, .getfield 102), (12, .ifCond .eq 1), (15, .iconst (1)), (16, .goto 2)]
def bX6_shyness_1 : CD := [(19, .iconst (0)), (20, .goto_w 2)]
def bX6_shyness_2 : CD := [(20, .ireturn)]
def bX6_shyness : List CD := [bX6_shyness_0, bX6_shyness_1, bX6_shyness_2]
theorem kX6_shyness : bX6_shyness.all (chkL 6 false cX6_shyness bX6_shyness) = true := by decide +kernel
theorem mX6_shyness : MB 47 bX6_shyness 1 2 := ⟨by decide, by decide +kernel, kX6_shyness, rfl, rfl⟩
def bX6_lonely_0 : CD := [(0, .iload 0), (1, .iconst (1)), (2, .if_icmp .ne 1), (5, .iconst (12)), (7, .goto 2)]
def bX6_lonely_1 : CD := [(10, .iconst (0)), (11, .goto_w 2)]
def bX6_lonely_2 : CD := [(11, .ireturn)]
def bX6_lonely : List CD := [bX6_lonely_0, bX6_lonely_1, bX6_lonely_2]
theorem kX6_lonely : bX6_lonely.all (chkL 6 false cX6_lonely bX6_lonely) = true := by decide +kernel
theorem mX6_lonely : MB 48 bX6_lonely 1 1 := ⟨by decide, by decide +kernel, kX6_lonely, rfl, rfl⟩
def bX6_houseAll_0 : CD := [(0, .iconst (0)), (1, .istore 1), (2, .goto_w 100002)]
def bX6_houseAll_1 : CD := [(2, .iload 1), (3, .aload 0), (4, .getstatic 600), (7, .getfield 1), (10, .if_icmp .ge 2), (13, .aload 0), (14, .getstatic 600), (17, .getstatic 0), (20, .iload 1), (21, .aaload), (22, .iconst (-1)), (23, .putfield 104), (26, .iinc 1 (1)), (29, .goto 100002)]
def bX6_houseAll_2 : CD := [(32, .aload 0), (33, .invokeinterface 60 7010), (36, .aload 0), (37, .invokeinterface 61 7010), (40, .iconst (0)), (41, .istore 1), (42, .goto_w 100042)]
def bX6_houseAll_3 : CD := [(42, .iload 1), (43, .aload 0), (44, .getstatic 600), (47, .getfield 1), (50, .if_icmp .ge 5), (53, .aload 0), (54, .iload 1), (55, .invokeinterface 62 7020), (58, .aload 0), (59, .iload 1), (60, .invokeinterface 50 7021), (63, .istore 2), (64, .iload 2), (65, .iconst (-1)), (66, .if_icmp .eq 4), (69, .aload 0), (70, .getstatic 600), (73, .getstatic 0), (76, .iload 1), (77, .aaload), (78, .iload 2), (79, .putfield 104), (82, .aload 0), (83, .getstatic 604), (86, .iload 2), (87, .dup2), (88, .iaload), (89, .iconst (1)), (90, .iadd), (91, .iastore), (92, .aload 0), (93, .getstatic 603), (96, .iload 2), (97, .dup2), (98, .iaload), (99, .aload 0), (100, .iload 1), (101, .invokeinterface 47 7021), (104, .iadd), (105, .iastore), (106, .goto_w 4)]
def bX6_houseAll_4 : CD := [(106, .iinc 1 (1)), (109, .goto 100042)]
def bX6_houseAll_5 : CD := [(112, .return_)]
def bX6_houseAll : List CD := [bX6_houseAll_0, bX6_houseAll_1, bX6_houseAll_2, bX6_houseAll_3, bX6_houseAll_4, bX6_houseAll_5]
theorem kX6_houseAll : bX6_houseAll.all (chkL 6 false cX6_houseAll bX6_houseAll) = true := by decide +kernel
theorem mX6_houseAll : MB 49 bX6_houseAll 0 3 := ⟨by decide, by decide +kernel, kX6_houseAll, rfl, rfl⟩
def bX6_cheapestFor_0 : CD := [(0, .iconst (-1)), (1, .istore 2), (2, .iconst (1000000)), (4, .istore 3), (5, .iconst (0)), (6, .istore 4), (8, .goto_w 100008)]
def bX6_cheapestFor_1 : CD := [(8, .iload 4), (10, .aload 0), (11, .getstatic 600), (14, .getfield 4), (17, .if_icmp .ge 3), (20, .aload 0), (21, .getstatic 604), (24, .iload 4), (26, .iaload), (27, .aload 0), (28, .getstatic 600), (31, .getstatic 3), (34, .iload 4), (36, .iaload), (37, .if_icmp .ge 2), (40, .aload 0), (41, .iload 1), (42, .iload 4), (44, .invokeinterface 57 7031), (47, .iload 3), (48, .if_icmp .ge 2), (51, .iload 4), (53, .istore 2), (54, .aload 0), (55, .iload 1), (56, .iload 4), (58, .invokeinterface 57 7031), (61, .istore 3), (62, .goto_w 2)]
def bX6_cheapestFor_2 : CD := [(62, .iinc 4 (1)), (65, .goto 100008)]
def bX6_cheapestFor_3 : CD := [(68, .iload 2), (69, .ireturn)]
def bX6_cheapestFor : List CD := [bX6_cheapestFor_0, bX6_cheapestFor_1, bX6_cheapestFor_2, bX6_cheapestFor_3]
theorem kX6_cheapestFor : bX6_cheapestFor.all (chkL 6 false cX6_cheapestFor bX6_cheapestFor) = true := by decide +kernel
theorem mX6_cheapestFor : MB 50 bX6_cheapestFor 1 5 := ⟨by decide, by decide +kernel, kX6_cheapestFor, rfl, rfl⟩
def bX6_stepOnce_0 : CD := [(0, .aload 0), (1, .invokeinterface 60 7010), (4, .aload 0), (5, .invokeinterface 53 7011), (8, .ireturn)]
def bX6_stepOnce : List CD := [bX6_stepOnce_0]
theorem kX6_stepOnce : bX6_stepOnce.all (chkL 6 false cX6_stepOnce bX6_stepOnce) = true := by decide +kernel
theorem mX6_stepOnce : MB 51 bX6_stepOnce 1 1 := ⟨by decide, by decide +kernel, kX6_stepOnce, rfl, rfl⟩
def bX6_stepOften_0 : CD := [(0, .aload 0), (1, .invokeinterface 60 7010), (4, .iconst (0)), (5, .istore 1), (6, .goto_w 100006)]
def bX6_stepOften_1 : CD := [(6, .iload 1), (7, .iconst (1000000)), (9, .if_icmp .ge 2), (12, .aload 0), (13, .invokeinterface 53 7011), (16, .ifCond .le 2), (19, .iinc 1 (1)), (22, .goto 100006)]
def bX6_stepOften_2 : CD := [(25, .iload 1), (26, .ireturn)]
def bX6_stepOften : List CD := [bX6_stepOften_0, bX6_stepOften_1, bX6_stepOften_2]
theorem kX6_stepOften : bX6_stepOften.all (chkL 6 false cX6_stepOften bX6_stepOften) = true := by decide +kernel
theorem mX6_stepOften : MB 52 bX6_stepOften 1 2 := ⟨by decide, by decide +kernel, kX6_stepOften, rfl, rfl⟩
def bX6_stepWeighed_0 : CD := [(0, .aload 0), (1, .invokeinterface 61 7010), (4, .iconst (0)), (5, .istore 1), (6, .goto_w 100006)]
def bX6_stepWeighed_1 : CD := [(6, .iload 1), (7, .aload 0), (8, .getstatic 600), (11, .getfield 1), (14, .if_icmp .ge 2), (17, .aload 0), (18, .iload 1), (19, .invokeinterface 62 7020), (22, .iinc 1 (1)), (25, .goto 100006)]
def bX6_stepWeighed_2 : CD := [(28, .aload 0), (29, .iconst (0)), (30, .putfield 607), (33, .aload 0), (34, .invokeinterface 54 7010), (37, .aload 0), (38, .invokeinterface 55 7010), (41, .aload 0), (42, .getfield 607), (45, .ifCond .ge 4), (48, .aload 0), (49, .getstatic 600), (52, .getstatic 0), (55, .aload 0), (56, .getfield 608), (59, .aaload), (60, .astore 1), (61, .aload 0), (62, .getfield 609), (65, .iconst (-1)), (66, .if_icmp .eq 3), (69, .aload 0), (70, .getstatic 600), (73, .getstatic 0), (76, .aload 0), (77, .getfield 609), (80, .aaload), (81, .aload 1), (82, .getfield 104), (85, .putfield 104), (88, .goto_w 3)]
def bX6_stepWeighed_3 : CD := [(88, .aload 1), (89, .aload 0), (90, .getfield 610), (93, .putfield 104), (96, .goto_w 4)]
def bX6_stepWeighed_4 : CD := [(96, .aload 0), (97, .getfield 607), (100, .ineg), (101, .ireturn)]
def bX6_stepWeighed : List CD := [bX6_stepWeighed_0, bX6_stepWeighed_1, bX6_stepWeighed_2, bX6_stepWeighed_3, bX6_stepWeighed_4]
theorem kX6_stepWeighed : bX6_stepWeighed.all (chkL 6 false cX6_stepWeighed bX6_stepWeighed) = true := by decide +kernel
theorem mX6_stepWeighed : MB 53 bX6_stepWeighed 1 2 := ⟨by decide, by decide +kernel, kX6_stepWeighed, rfl, rfl⟩
def bX6_searchExchanges_0 : CD := [(0, .iconst (0)), (1, .istore 1), (2, .goto_w 100002)]
def bX6_searchExchanges_1 : CD := [(2, .iload 1), (3, .aload 0), (4, .getstatic 600), (7, .getfield 1), (10, .if_icmp .ge 5), (13, .iload 1), (14, .iconst (1)), (15, .iadd), (16, .istore 2), (17, .goto_w 100017)]
def bX6_searchExchanges_2 : CD := [(17, .iload 2), (18, .aload 0), (19, .getstatic 600), (22, .getfield 1), (25, .if_icmp .ge 4), (28, .aload 0), (29, .getstatic 600), (32, .getstatic 0), (35, .iload 1), (36, .aaload), (37, .getfield 104), (40, .istore 3), (41, .aload 0), (42, .getstatic 600), (45, .getstatic 0), (48, .iload 2), (49, .aaload), (50, .getfield 104), (53, .istore 4), (55, .iload 3), (56, .iconst (-1)), (57, .if_icmp .eq 3), (60, .iload 4), (62, .iconst (-1)), (63, .if_icmp .eq 3), (66, .iload 3), (67, .iload 4), (69, .if_icmp .eq 3), (72, .aload 0), (73, .aload 0), (74, .iload 1), (75, .iload 2), (76, .invokeinterface 59 7031), (79, .iload 1), (80, .iload 2), (81, .iload 4), (83, .invokeinterface 56 7050), (86, .goto_w 3)]
def bX6_searchExchanges_3 : CD := [(86, .iinc 2 (1)), (89, .goto 100017)]
def bX6_searchExchanges_4 : CD := [(92, .iinc 1 (1)), (95, .goto 100002)]
def bX6_searchExchanges_5 : CD := [(98, .return_)]
def bX6_searchExchanges : List CD := [bX6_searchExchanges_0, bX6_searchExchanges_1, bX6_searchExchanges_2, bX6_searchExchanges_3, bX6_searchExchanges_4, bX6_searchExchanges_5]
theorem kX6_searchExchanges : bX6_searchExchanges.all (chkL 6 false cX6_searchExchanges bX6_searchExchanges) = true := by decide +kernel
theorem mX6_searchExchanges : MB 54 bX6_searchExchanges 0 5 := ⟨by decide, by decide +kernel, kX6_searchExchanges, rfl, rfl⟩
def bX6_searchMoves_0 : CD := [(0, .iconst (0)), (1, .istore 1), (2, .goto_w 100002)]
def bX6_searchMoves_1 : CD := [(2, .iload 1), (3, .aload 0), (4, .getstatic 600), (7, .getfield 1), (10, .if_icmp .ge 5), (13, .aload 0), (14, .getstatic 600), (17, .getstatic 0), (20, .iload 1), (21, .aaload), (22, .getfield 104), (25, .istore 2), (26, .iconst (0)), (27, .istore 3), (28, .goto_w 100028)]
def bX6_searchMoves_2 : CD := [(28, .iload 3), (29, .aload 0), (30, .getstatic 600), (33, .getfield 4), (36, .if_icmp .ge 4), (39, .iload 2), (40, .iconst (-1)), (41, .if_icmp .eq 4), (44, .iload 3), (45, .iload 2), (46, .if_icmp .eq 3), (49, .aload 0), (50, .getstatic 604), (53, .iload 3), (54, .iaload), (55, .aload 0), (56, .getstatic 600), (59, .getstatic 3), (62, .iload 3), (63, .iaload), (64, .if_icmp .ge 3), (67, .aload 0), (68, .aload 0), (69, .iload 1), (70, .iload 3), (71, .invokeinterface 57 7031), (74, .aload 0), (75, .iload 1), (76, .iload 2), (77, .invokeinterface 58 7031), (80, .iadd), (81, .iload 1), (82, .iconst (-1)), (83, .iload 3), (84, .invokeinterface 56 7050), (87, .goto_w 3)]
def bX6_searchMoves_3 : CD := [(87, .iinc 3 (1)), (90, .goto 100028)]
def bX6_searchMoves_4 : CD := [(93, .iinc 1 (1)), (96, .goto 100002)]
def bX6_searchMoves_5 : CD := [(99, .return_)]
def bX6_searchMoves : List CD := [bX6_searchMoves_0, bX6_searchMoves_1, bX6_searchMoves_2, bX6_searchMoves_3, bX6_searchMoves_4, bX6_searchMoves_5]
theorem kX6_searchMoves : bX6_searchMoves.all (chkL 6 false cX6_searchMoves bX6_searchMoves) = true := by decide +kernel
theorem mX6_searchMoves : MB 55 bX6_searchMoves 0 4 := ⟨by decide, by decide +kernel, kX6_searchMoves, rfl, rfl⟩
def bX6_consider_0 : CD := [(0, .iload 1), (1, .aload 0), (2, .getfield 607), (5, .if_icmp .ge 1), (8, .aload 0), (9, .iload 1), (10, .putfield 607), (13, .aload 0), (14, .iload 2), (15, .putfield 608), (18, .aload 0), (19, .iload 3), (20, .putfield 609), (23, .aload 0), (24, .iload 4), (26, .putfield 610), (29, .goto_w 1)]
def bX6_consider_1 : CD := [(29, .return_)]
def bX6_consider : List CD := [bX6_consider_0, bX6_consider_1]
theorem kX6_consider : bX6_consider.all (chkL 6 false cX6_consider bX6_consider) = true := by decide +kernel
theorem mX6_consider : MB 56 bX6_consider 0 5 := ⟨by decide, by decide +kernel, kX6_consider, rfl, rfl⟩
def bX6_changeByComing_0 : CD := [(0, .aload 0), (1, .getstatic 603), (4, .iload 2), (5, .iaload), (6, .istore 3), (7, .aload 0), (8, .getstatic 602), (11, .iload 1), (12, .iconst (6)), (14, .imul), (15, .iload 2), (16, .iadd), (17, .iaload), (18, .iload 3), (19, .aload 0), (20, .iload 1), (21, .invokeinterface 47 7021), (24, .iadd), (25, .invokeinterface 48 11), (28, .iadd), (29, .iload 3), (30, .invokeinterface 48 11), (33, .isub), (34, .ireturn)]
def bX6_changeByComing : List CD := [bX6_changeByComing_0]
theorem kX6_changeByComing : bX6_changeByComing.all (chkL 6 false cX6_changeByComing bX6_changeByComing) = true := by decide +kernel
theorem mX6_changeByComing : MB 57 bX6_changeByComing 1 4 := ⟨by decide, by decide +kernel, kX6_changeByComing, rfl, rfl⟩
def bX6_changeByLeaving_0 : CD := [(0, .aload 0), (1, .getstatic 603), (4, .iload 2), (5, .iaload), (6, .istore 3), (7, .iload 3), (8, .aload 0), (9, .iload 1), (10, .invokeinterface 47 7021), (13, .isub), (14, .invokeinterface 48 11), (17, .iload 3), (18, .invokeinterface 48 11), (21, .isub), (22, .aload 0), (23, .getstatic 602), (26, .iload 1), (27, .iconst (6)), (29, .imul), (30, .iload 2), (31, .iadd), (32, .iaload), (33, .isub), (34, .ireturn)]
def bX6_changeByLeaving : List CD := [bX6_changeByLeaving_0]
theorem kX6_changeByLeaving : bX6_changeByLeaving.all (chkL 6 false cX6_changeByLeaving bX6_changeByLeaving) = true := by decide +kernel
theorem mX6_changeByLeaving : MB 58 bX6_changeByLeaving 1 4 := ⟨by decide, by decide +kernel, kX6_changeByLeaving, rfl, rfl⟩
def bX6_changeByExchange_0 : CD := [(0, .aload 0), (1, .getstatic 600), (4, .getstatic 0), (7, .iload 1), (8, .aaload), (9, .getfield 104), (12, .istore 3), (13, .aload 0), (14, .getstatic 600), (17, .getstatic 0), (20, .iload 2), (21, .aaload), (22, .getfield 104), (25, .istore 4), (27, .aload 0), (28, .getstatic 602), (31, .iload 1), (32, .iconst (6)), (34, .imul), (35, .iload 4), (37, .iadd), (38, .iaload), (39, .aload 0), (40, .getstatic 602), (43, .iload 2), (44, .iconst (6)), (46, .imul), (47, .iload 3), (48, .iadd), (49, .iaload), (50, .iadd), (51, .aload 0), (52, .getstatic 602), (55, .iload 1), (56, .iconst (6)), (58, .imul), (59, .iload 3), (60, .iadd), (61, .iaload), (62, .isub), (63, .aload 0), (64, .getstatic 602), (67, .iload 2), (68, .iconst (6)), (70, .imul), (71, .iload 4), (73, .iadd), (74, .iaload), (75, .isub), (76, .iconst (2)), (77, .aload 0), (78, .getstatic 601), (81, .iload 1), (82, .iconst (24)), (84, .imul), (85, .iload 2), (86, .iadd), (87, .iaload), (88, .imul), (89, .isub), (90, .istore 5), (92, .aload 0), (93, .iload 1), (94, .invokeinterface 47 7021), (97, .aload 0), (98, .iload 2), (99, .invokeinterface 47 7021), (102, .isub), (103, .istore 6), (105, .iload 5), (107, .aload 0), (108, .getstatic 603), (111, .iload 3), (112, .iaload), (113, .iload 6), (115, .isub), (116, .invokeinterface 48 11), (119, .iadd), (120, .aload 0), (121, .getstatic 603), (124, .iload 3), (125, .iaload), (126, .invokeinterface 48 11), (129, .isub), (130, .aload 0), (131, .getstatic 603), (134, .iload 4), (136, .iaload), (137, .iload 6), (139, .iadd), (140, .invokeinterface 48 11), (143, .iadd), (144, .aload 0), (145, .getstatic 603), (148, .iload 4), (150, .iaload), (151, .invokeinterface 48 11), (154, .isub), (155, .ireturn)]
def bX6_changeByExchange : List CD := [bX6_changeByExchange_0]
theorem kX6_changeByExchange : bX6_changeByExchange.all (chkL 6 false cX6_changeByExchange bX6_changeByExchange) = true := by decide +kernel
theorem mX6_changeByExchange : MB 59 bX6_changeByExchange 1 7 := ⟨by decide, by decide +kernel, kX6_changeByExchange, rfl, rfl⟩
def bX6_weigh_0 : CD := [(0, .iconst (0)), (1, .istore 1), (2, .goto_w 100002)]
def bX6_weigh_1 : CD := [(2, .iload 1), (3, .aload 0), (4, .getstatic 600), (7, .getfield 1), (10, .if_icmp .ge 4), (13, .iload 1), (14, .iconst (1)), (15, .iadd), (16, .istore 2), (17, .goto_w 100017)]
def bX6_weigh_2 : CD := [(17, .iload 2), (18, .aload 0), (19, .getstatic 600), (22, .getfield 1), (25, .if_icmp .ge 3), (28, .aload 0), (29, .iload 1), (30, .iload 2), (31, .invokeinterface 46 7031), (34, .istore 3), (35, .aload 0), (36, .getstatic 601), (39, .iload 1), (40, .iconst (24)), (42, .imul), (43, .iload 2), (44, .iadd), (45, .iload 3), (46, .iastore), (47, .aload 0), (48, .getstatic 601), (51, .iload 2), (52, .iconst (24)), (54, .imul), (55, .iload 1), (56, .iadd), (57, .iload 3), (58, .iastore), (59, .iinc 2 (1)), (62, .goto 100017)]
def bX6_weigh_3 : CD := [(65, .iinc 1 (1)), (68, .goto 100002)]
def bX6_weigh_4 : CD := [(71, .return_)]
def bX6_weigh : List CD := [bX6_weigh_0, bX6_weigh_1, bX6_weigh_2, bX6_weigh_3, bX6_weigh_4]
theorem kX6_weigh : bX6_weigh.all (chkL 6 false cX6_weigh bX6_weigh) = true := by decide +kernel
theorem mX6_weigh : MB 60 bX6_weigh 0 4 := ⟨by decide, by decide +kernel, kX6_weigh, rfl, rfl⟩
def bX6_countLying_0 : CD := [(0, .aload 0), (1, .getstatic 604), (4, .iconst (0)), (5, .invokeinterface 208 20), (8, .aload 0), (9, .getstatic 603), (12, .iconst (0)), (13, .invokeinterface 208 20), (16, .iconst (0)), (17, .istore 1), (18, .goto_w 100018)]
def bX6_countLying_1 : CD := [(18, .iload 1), (19, .aload 0), (20, .getstatic 600), (23, .getfield 1), (26, .if_icmp .ge 3), (29, .aload 0), (30, .getstatic 600), (33, .getstatic 0), (36, .iload 1), (37, .aaload), (38, .getfield 104), (41, .istore 2), (42, .iload 2), (43, .iconst (-1)), (44, .if_icmp .eq 2), (47, .aload 0), (48, .getstatic 604), (51, .iload 2), (52, .dup2), (53, .iaload), (54, .iconst (1)), (55, .iadd), (56, .iastore), (57, .aload 0), (58, .getstatic 603), (61, .iload 2), (62, .dup2), (63, .iaload), (64, .aload 0), (65, .iload 1), (66, .invokeinterface 47 7021), (69, .iadd), (70, .iastore), (71, .goto_w 2)]
def bX6_countLying_2 : CD := [(71, .iinc 1 (1)), (74, .goto 100018)]
def bX6_countLying_3 : CD := [(77, .return_)]
def bX6_countLying : List CD := [bX6_countLying_0, bX6_countLying_1, bX6_countLying_2, bX6_countLying_3]
theorem kX6_countLying : bX6_countLying.all (chkL 6 false cX6_countLying bX6_countLying) = true := by decide +kernel
theorem mX6_countLying : MB 61 bX6_countLying 0 3 := ⟨by decide, by decide +kernel, kX6_countLying, rfl, rfl⟩
def bX6_measure_0 : CD := [(0, .iload 1), (1, .iconst (6)), (3, .imul), (4, .istore 2), (5, .iconst (0)), (6, .istore 3), (7, .goto_w 100007)]
def bX6_measure_1 : CD := [(7, .iload 3), (8, .iconst (6)), (10, .if_icmp .ge 2), (13, .aload 0), (14, .getstatic 602), (17, .iload 2), (18, .iload 3), (19, .iadd), (20, .iconst (0)), (21, .iastore), (22, .iinc 3 (1)), (25, .goto 100007)]
def bX6_measure_2 : CD := [(28, .iconst (0)), (29, .istore 3), (30, .goto_w 100030)]
def bX6_measure_3 : CD := [(30, .iload 3), (31, .aload 0), (32, .getstatic 600), (35, .getfield 1), (38, .if_icmp .ge 5), (41, .aload 0), (42, .getstatic 600), (45, .getstatic 0), (48, .iload 3), (49, .aaload), (50, .getfield 104), (53, .istore 4), (55, .iload 4), (57, .iconst (-1)), (58, .if_icmp .eq 4), (61, .iload 3), (62, .iload 1), (63, .if_icmp .eq 4), (66, .aload 0), (67, .getstatic 602), (70, .iload 2), (71, .iload 4), (73, .iadd), (74, .dup2), (75, .iaload), (76, .aload 0), (77, .getstatic 601), (80, .iload 1), (81, .iconst (24)), (83, .imul), (84, .iload 3), (85, .iadd), (86, .iaload), (87, .iadd), (88, .iastore), (89, .goto_w 4)]
def bX6_measure_4 : CD := [(89, .iinc 3 (1)), (92, .goto 100030)]
def bX6_measure_5 : CD := [(95, .return_)]
def bX6_measure : List CD := [bX6_measure_0, bX6_measure_1, bX6_measure_2, bX6_measure_3, bX6_measure_4, bX6_measure_5]
theorem kX6_measure : bX6_measure.all (chkL 6 false cX6_measure bX6_measure) = true := by decide +kernel
theorem mX6_measure : MB 62 bX6_measure 0 5 := ⟨by decide, by decide +kernel, kX6_measure, rfl, rfl⟩
def bX6_leastCost_0 : CD := [(0, .aload 0), (1, .getstatic 600), (4, .getfield 1), (7, .iconst (7)), (9, .if_icmp .le 1), (12, .iconst (-1)), (13, .ireturn)]
def bX6_leastCost_1 : CD := [(14, .iconst (1)), (15, .aload 0), (16, .getstatic 600), (19, .getfield 1), (22, .ishl), (23, .istore 1), (24, .aload 0), (25, .iload 1), (26, .invokeinterface 64 7020), (29, .aload 0), (30, .getstatic 606), (33, .iconst (1000000)), (35, .invokeinterface 208 20), (38, .aload 0), (39, .getstatic 606), (42, .iconst (0)), (43, .iconst (0)), (44, .iastore), (45, .iconst (0)), (46, .istore 2), (47, .goto_w 100047)]
def bX6_leastCost_2 : CD := [(47, .iload 2), (48, .aload 0), (49, .getstatic 600), (52, .getfield 4), (55, .if_icmp .ge 3), (58, .aload 0), (59, .aload 0), (60, .getstatic 600), (63, .getstatic 3), (66, .iload 2), (67, .iaload), (68, .iload 1), (69, .invokeinterface 65 7030), (72, .iinc 2 (1)), (75, .goto 100047)]
def bX6_leastCost_3 : CD := [(78, .aload 0), (79, .getstatic 606), (82, .iload 1), (83, .iconst (1)), (84, .isub), (85, .iaload), (86, .ireturn)]
def bX6_leastCost : List CD := [bX6_leastCost_0, bX6_leastCost_1, bX6_leastCost_2, bX6_leastCost_3]
theorem kX6_leastCost : bX6_leastCost.all (chkL 6 false cX6_leastCost bX6_leastCost) = true := by decide +kernel
theorem mX6_leastCost : MB 63 bX6_leastCost 1 3 := ⟨by decide, by decide +kernel, kX6_leastCost, rfl, rfl⟩
def bX6_priceSets_0 : CD := [(0, .iconst (0)), (1, .istore 2), (2, .goto_w 100002)]
def bX6_priceSets_1 : CD := [(2, .iload 2), (3, .iload 1), (4, .if_icmp .ge 8), (7, .iconst (0)), (8, .istore 3), (9, .iconst (0)), (10, .istore 4), (12, .iconst (0)), (13, .istore 5), (15, .goto_w 100015)]
def bX6_priceSets_2 : CD := [(15, .iload 5), (17, .aload 0), (18, .getstatic 600), (21, .getfield 1), (24, .if_icmp .ge 7), (27, .iload 2), (28, .iload 5), (30, .ishr), (31, .iconst (1)), (32, .iand), (33, .ifCond .eq 6), (36, .iload 4), (38, .aload 0), (39, .iload 5), (41, .invokeinterface 47 7021), (44, .iadd), (45, .istore 4), (47, .iload 5), (49, .iconst (1)), (50, .iadd), (51, .istore 6), (53, .goto_w 100053)]
def bX6_priceSets_3 : CD := [(53, .iload 6), (55, .aload 0), (56, .getstatic 600), (59, .getfield 1), (62, .if_icmp .ge 6), (65, .iload 3), (66, .iload 2), (67, .iload 6), (69, .ishr), (70, .iconst (1)), (71, .iand), (72, .ifCond .eq 4), (75, .aload 0), (76, .iload 5), (78, .iload 6), (80, .invokeinterface 46 7031), (83, .goto 5)]
def bX6_priceSets_4 : CD := [(86, .iconst (0)), (87, .goto_w 5)]
def bX6_priceSets_5 : CD := [(87, .iadd), (88, .istore 3), (89, .iinc 6 (1)), (92, .goto 100053)]
def bX6_priceSets_6 : CD := [(95, .iinc 5 (1)), (98, .goto 100015)]
def bX6_priceSets_7 : CD := [(101, .aload 0), (102, .getstatic 605), (105, .iload 2), (106, .iload 3), (107, .iload 4), (109, .invokeinterface 48 11), (112, .iadd), (113, .iastore), (114, .iinc 2 (1)), (117, .goto 100002)]
def bX6_priceSets_8 : CD := [(120, .return_)]
def bX6_priceSets : List CD := [bX6_priceSets_0, bX6_priceSets_1, bX6_priceSets_2, bX6_priceSets_3, bX6_priceSets_4, bX6_priceSets_5, bX6_priceSets_6, bX6_priceSets_7, bX6_priceSets_8]
theorem kX6_priceSets : bX6_priceSets.all (chkL 6 false cX6_priceSets bX6_priceSets) = true := by decide +kernel
theorem mX6_priceSets : MB 64 bX6_priceSets 0 7 := ⟨by decide, by decide +kernel, kX6_priceSets, rfl, rfl⟩
def bX6_openCabin_0 : CD := [(0, .iload 2), (1, .iconst (1)), (2, .isub), (3, .istore 3), (4, .goto_w 100004)]
def bX6_openCabin_1 : CD := [(4, .iload 3), (5, .ifCond .le 5), (8, .aload 0), (9, .getstatic 606), (12, .iload 3), (13, .iaload), (14, .istore 4), (16, .iload 3), (17, .istore 5), (19, .goto_w 100019)]
def bX6_openCabin_2 : CD := [(19, .iload 5), (21, .ifCond .le 4), (24, .iload 5), (26, .invokeinterface 203 11), (29, .iload 1), (30, .if_icmp .gt 3), (33, .iload 4), (35, .aload 0), (36, .getstatic 606), (39, .iload 3), (40, .iload 5), (42, .isub), (43, .iaload), (44, .aload 0), (45, .getstatic 605), (48, .iload 5), (50, .iaload), (51, .iadd), (52, .fsub), (55, .istore 4), (57, .goto_w 3)]
def bX6_openCabin_3 : CD := [(57, .iload 5), (59, .iconst (1)), (60, .isub), (61, .iload 3), (62, .iand), (63, .istore 5), (65, .goto 100019)]
def bX6_openCabin_4 : CD := [(68, .aload 0), (69, .getstatic 606), (72, .iload 3), (73, .iload 4), (75, .iastore), (76, .iinc 3 (-1)), (79, .goto 100004)]
def bX6_openCabin_5 : CD := [(82, .return_)]
def bX6_openCabin : List CD := [bX6_openCabin_0, bX6_openCabin_1, bX6_openCabin_2, bX6_openCabin_3, bX6_openCabin_4, bX6_openCabin_5]
theorem kX6_openCabin : bX6_openCabin.all (chkL 6 false cX6_openCabin bX6_openCabin) = true := by decide +kernel
theorem mX6_openCabin : MB 65 bX6_openCabin 0 6 := ⟨by decide, by decide +kernel, kX6_openCabin, rfl, rfl⟩
def bX7_init_0 : CD := [(0, .aload 0), (1, .pop), (4, .return_)]
def bX7_init : List CD := [bX7_init_0]
theorem kX7_init : bX7_init.all (chkL 7 true cX7_init bX7_init) = true := by decide +kernel
theorem mX7_init : MB 66 bX7_init 0 1 := ⟨by decide, by decide +kernel, kX7_init, rfl, rfl⟩
def bX7_beSaid_0 : CD := [(0, .aload 0), (1, .iload 1), (2, .putfield 700), (5, .aload 0), (6, .iload 2), (7, .putfield 701), (10, .aload 0), (11, .iload 3), (12, .putfield 702), (15, .aload 0), (16, .iload 4), (18, .instanceof 703), (21, .aload 0), (22, .iload 5), (24, .instanceof 704), (27, .aload 0), (28, .iconst (0)), (29, .instanceof 705), (32, .return_)]
def bX7_beSaid : List CD := [bX7_beSaid_0]
theorem kX7_beSaid : bX7_beSaid.all (chkL 7 false cX7_beSaid bX7_beSaid) = true := by decide +kernel
theorem mX7_beSaid : MB 67 bX7_beSaid 0 6 := ⟨by decide, by decide +kernel, kX7_beSaid, rfl, rfl⟩
def bX7_beSilent_0 : CD := [(0, .aload 0), (1, .iload 1), (2, .iload 2), (3, .iconst (0)), (4, .iconst (0)), (5, .iconst (0)), (6, .invokeinterface 67 8060), (9, .aload 0), (10, .iconst (1)), (11, .instanceof 705), (14, .return_)]
def bX7_beSilent : List CD := [bX7_beSilent_0]
theorem kX7_beSilent : bX7_beSilent.all (chkL 7 false cX7_beSilent bX7_beSilent) = true := by decide +kernel
theorem mX7_beSilent : MB 68 bX7_beSilent 0 3 := ⟨by decide, by decide +kernel, kX7_beSilent, rfl, rfl⟩
def bX8_init_0 : CD := [(0, .aload 0), (1, .pop), (4, .aload 0), (5, .new 2), (8, .dup), (9, .invokeinterface 16 799010), (12, .putstatic 800), (15, .aload 0), (16, .aload 1), (17, .putstatic 801), (20, .return_)]
def bX8_init : List CD := [bX8_init_0]
theorem kX8_init : bX8_init.all (chkL 8 true cX8_init bX8_init) = true := by decide +kernel
theorem mX8_init : MB 69 bX8_init 0 2 := ⟨by decide, by decide +kernel, kX8_init, rfl, rfl⟩
def bX8_readTape_0 : CD := [(0, .aload 0), (1, .invokeinterface 72 9010), (4, .iconst (0)), (5, .istore 1), (6, .goto_w 100006)]
def bX8_readTape_1 : CD := [(6, .iload 1), (7, .iconst (500)), (10, .if_icmp .gt 3), (13, .aload 0), (14, .getfield 803), (17, .iconst (24)), (19, .if_icmp .eq 3), (22, .aload 0), (23, .getfield 814), (26, .iconst (-1)), (27, .if_icmp .ne 3), (30, .aload 0), (31, .invokeinterface 85 9010), (34, .aload 0), (35, .invokeinterface 73 9011), (38, .ifCond .ne 2), (41, .aload 0), (42, .aload 0), (43, .getfield 804), (46, .putfield 814), (49, .goto_w 2)]
def bX8_readTape_2 : CD := [(49, .iinc 1 (1)), (52, .goto 100006)]
def bX8_readTape_3 : CD := [(55, .aload 0), (56, .getfield 814), (59, .iconst (-1)), (60, .if_icmp .eq 4), (63, .iconst (1)), (64, .ireturn)]
def bX8_readTape_4 : CD := [(65, .aload 0), (66, .getfield 815), (69, .iconst (-1)), (70, .if_icmp .eq 5), (73, .iconst (3)), (74, .goto 6)]
def bX8_readTape_5 : CD := [(77, .iconst (0)), (78, .goto_w 6)]
def bX8_readTape_6 : CD := [(78, .ireturn)]
def bX8_readTape : List CD := [bX8_readTape_0, bX8_readTape_1, bX8_readTape_2, bX8_readTape_3, bX8_readTape_4, bX8_readTape_5, bX8_readTape_6]
theorem kX8_readTape : bX8_readTape.all (chkL 8 false cX8_readTape bX8_readTape) = true := by decide +kernel
theorem mX8_readTape : MB 70 bX8_readTape 1 2 := ⟨by decide, by decide +kernel, kX8_readTape, rfl, rfl⟩
def bX8_placeOfFault_0 : CD := [(0, .aload 0), (1, .getfield 814), (4, .iconst (-1)), (5, .if_icmp .eq 1), (8, .aload 0), (9, .getfield 814), (12, .goto 2)]
def bX8_placeOfFault_1 : CD := [(15, .aload 0), (16, .getfield 815), (19, .goto_w 2)]
def bX8_placeOfFault_2 : CD := [(19, .ireturn)]
def bX8_placeOfFault : List CD := [bX8_placeOfFault_0, bX8_placeOfFault_1, bX8_placeOfFault_2]
theorem kX8_placeOfFault : bX8_placeOfFault.all (chkL 8 false cX8_placeOfFault bX8_placeOfFault) = true := by decide +kernel
theorem mX8_placeOfFault : MB 71 bX8_placeOfFault 1 1 := ⟨by decide, by decide +kernel, kX8_placeOfFault, rfl, rfl⟩
def bX8_begin_0 : CD := [(0, .aload 0), (1, .getstatic 800), (4, .iconst (0)), (5, .putfield 200), (8, .aload 0), (9, .iconst (0)), (10, .putfield 802), (13, .aload 0), (14, .iconst (25)), (16, .putfield 803), (19, .aload 0), (20, .iconst (0)), (21, .putfield 806), (24, .aload 0), (25, .iconst (0)), (26, .putfield 807), (29, .aload 0), (30, .iconst (-1)), (31, .putfield 814), (34, .aload 0), (35, .iconst (-1)), (36, .putfield 815), (39, .return_)]
def bX8_begin : List CD := [bX8_begin_0]
theorem kX8_begin : bX8_begin.all (chkL 8 false cX8_begin bX8_begin) = true := by decide +kernel
theorem mX8_begin : MB 72 bX8_begin 0 1 := ⟨by decide, by decide +kernel, kX8_begin, rfl, rfl⟩
def bX8_takeToken_0 : CD := [(0, .aload 0), (1, .getfield 806), (4, .tableswitch 12 (0) (7) #[1, 5, 6, 7, 8, 9, 10, 11])]
def bX8_takeToken_1 : CD := [(52, .aload 0), (53, .getfield 803), (56, .iconst (24)), (58, .if_icmp .eq 2), (61, .aload 0), (62, .invokeinterface 74 9011), (65, .ifCond .eq 3), (68, .goto_w 2)]
def bX8_takeToken_2 : CD := [(68, .iconst (1)), (69, .goto 4)]
def bX8_takeToken_3 : CD := [(72, .iconst (0)), (73, .goto_w 4)]
def bX8_takeToken_4 : CD := [(73, .ireturn)]
def bX8_takeToken_5 : CD := [(74, .aload 0), (75, .invokeinterface 75 9011), (78, .ireturn)]
def bX8_takeToken_6 : CD := [(79, .aload 0), (80, .invokeinterface 76 9011), (83, .ireturn)]
def bX8_takeToken_7 : CD := [(84, .aload 0), (85, .invokeinterface 77 9011), (88, .ireturn)]
def bX8_takeToken_8 : CD := [(89, .aload 0), (90, .invokeinterface 78 9011), (93, .ireturn)]
def bX8_takeToken_9 : CD := [(94, .aload 0), (95, .invokeinterface 80 9011), (98, .ireturn)]
def bX8_takeToken_10 : CD := [(99, .aload 0), (100, .invokeinterface 81 9011), (103, .ireturn)]
def bX8_takeToken_11 : CD := [(104, .aload 0), (105, .invokeinterface 82 9011), (108, .ireturn)]
def bX8_takeToken_12 : CD := [(109, .aload 0), (110, .invokeinterface 83 9011), (113, .ireturn)]
def bX8_takeToken : List CD := [bX8_takeToken_0, bX8_takeToken_1, bX8_takeToken_2, bX8_takeToken_3, bX8_takeToken_4, bX8_takeToken_5, bX8_takeToken_6, bX8_takeToken_7, bX8_takeToken_8, bX8_takeToken_9, bX8_takeToken_10, bX8_takeToken_11, bX8_takeToken_12]
theorem kX8_takeToken : bX8_takeToken.all (chkL 8 false cX8_takeToken bX8_takeToken) = true := by decide +kernel
theorem mX8_takeToken : MB 73 bX8_takeToken 2 1 := ⟨by decide, by decide +kernel, kX8_takeToken, rfl, rfl⟩
def bX8_takeLine_0 : CD := [(0, .aload 0), (1, .getfield 807), (4, .iconst (16)), (6, .if_icmp .lt 1), (9, .aload 0), (10, .invokeinterface 84 9010), (13, .goto_w 1)]
def bX8_takeLine_1 : CD := [(13, .aload 0), (14, .iconst (0)), (15, .putfield 808), (18, .aload 0), (19, .iconst (0)), (20, .putfield 813), (23, .aload 0), (24, .getfield 803), (27, .ifCond .ne 2), (30, .aload 0), (31, .iconst (1)), (32, .putfield 806), (35, .iconst (1)), (36, .ireturn)]
def bX8_takeLine_2 : CD := [(37, .aload 0), (38, .invokeinterface 81 9011), (41, .ireturn)]
def bX8_takeLine : List CD := [bX8_takeLine_0, bX8_takeLine_1, bX8_takeLine_2]
theorem kX8_takeLine : bX8_takeLine.all (chkL 8 false cX8_takeLine bX8_takeLine) = true := by decide +kernel
theorem mX8_takeLine : MB 74 bX8_takeLine 2 1 := ⟨by decide, by decide +kernel, kX8_takeLine, rfl, rfl⟩
def bX8_takeTest_0 : CD := [(0, .aload 0), (1, .getfield 808), (4, .iconst (4)), (5, .if_icmp .lt 1), (8, .aload 0), (9, .invokeinterface 84 9010), (12, .goto_w 1)]
def bX8_takeTest_1 : CD := [(12, .aload 0), (13, .aload 0), (14, .getfield 803), (17, .iconst (2)), (18, .if_icmp .ne 2), (21, .iconst (1)), (22, .goto 3)]
def bX8_takeTest_2 : CD := [(25, .iconst (0)), (26, .goto_w 3)]
def bX8_takeTest_3 : CD := [(26, .instanceof 809), (29, .aload 0), (30, .getfield 809), (33, .ifCond .eq 4), (36, .aload 0), (37, .iconst (2)), (38, .putfield 806), (41, .iconst (1)), (42, .ireturn)]
def bX8_takeTest_4 : CD := [(43, .aload 0), (44, .invokeinterface 76 9011), (47, .ireturn)]
def bX8_takeTest : List CD := [bX8_takeTest_0, bX8_takeTest_1, bX8_takeTest_2, bX8_takeTest_3, bX8_takeTest_4]
theorem kX8_takeTest : bX8_takeTest.all (chkL 8 false cX8_takeTest bX8_takeTest) = true := by decide +kernel
theorem mX8_takeTest : MB 75 bX8_takeTest 2 1 := ⟨by decide, by decide +kernel, kX8_takeTest, rfl, rfl⟩
def bX8_takeAsked_0 : CD := [(0, .aload 0), (1, .aload 0), (2, .getfield 803), (5, .putfield 810), (8, .aload 0), (9, .iconst (23)), (11, .putfield 811), (14, .aload 0), (15, .getfield 803), (18, .iconst (7)), (20, .if_icmp .lt 1), (23, .aload 0), (24, .getfield 803), (27, .iconst (10)), (29, .if_icmp .gt 1), (32, .aload 0), (33, .iconst (0)), (34, .invokeinterface 79 9020), (37, .iconst (1)), (38, .ireturn)]
def bX8_takeAsked_1 : CD := [(39, .aload 0), (40, .iconst (3)), (41, .putfield 806), (44, .aload 0), (45, .getfield 803), (48, .iconst (11)), (50, .if_icmp .lt 2), (53, .aload 0), (54, .getfield 803), (57, .iconst (17)), (59, .if_icmp .gt 2), (62, .iconst (1)), (63, .goto 3)]
def bX8_takeAsked_2 : CD := [(66, .iconst (0)), (67, .goto_w 3)]
def bX8_takeAsked_3 : CD := [(67, .ireturn)]
def bX8_takeAsked : List CD := [bX8_takeAsked_0, bX8_takeAsked_1, bX8_takeAsked_2, bX8_takeAsked_3]
theorem kX8_takeAsked : bX8_takeAsked.all (chkL 8 false cX8_takeAsked bX8_takeAsked) = true := by decide +kernel
theorem mX8_takeAsked : MB 76 bX8_takeAsked 2 1 := ⟨by decide, by decide +kernel, kX8_takeAsked, rfl, rfl⟩
def bX8_takeSign_0 : CD := [(0, .aload 0), (1, .aload 0), (2, .getfield 803), (5, .putfield 811), (8, .aload 0), (9, .iconst (4)), (10, .putfield 806), (13, .aload 0), (14, .getfield 803), (17, .iconst (21)), (19, .if_icmp .eq 1), (22, .aload 0), (23, .getfield 803), (26, .iconst (22)), (28, .if_icmp .eq 1), (31, .aload 0), (32, .getfield 803), (35, .iconst (23)), (37, .if_icmp .ne 2), (40, .goto_w 1)]
def bX8_takeSign_1 : CD := [(40, .iconst (1)), (41, .goto 3)]
def bX8_takeSign_2 : CD := [(44, .iconst (0)), (45, .goto_w 3)]
def bX8_takeSign_3 : CD := [(45, .ireturn)]
def bX8_takeSign : List CD := [bX8_takeSign_0, bX8_takeSign_1, bX8_takeSign_2, bX8_takeSign_3]
theorem kX8_takeSign : bX8_takeSign.all (chkL 8 false cX8_takeSign bX8_takeSign) = true := by decide +kernel
theorem mX8_takeSign : MB 77 bX8_takeSign 2 1 := ⟨by decide, by decide +kernel, kX8_takeSign, rfl, rfl⟩
def bX8_takeBound_0 : CD := [(0, .aload 0), (1, .aload 0), (2, .getfield 805), (5, .invokeinterface 79 9020), (8, .aload 0), (9, .getfield 803), (12, .iconst (18)), (14, .if_icmp .ne 1), (17, .iconst (1)), (18, .goto 2)]
def bX8_takeBound_1 : CD := [(21, .iconst (0)), (22, .goto_w 2)]
def bX8_takeBound_2 : CD := [(22, .ireturn)]
def bX8_takeBound : List CD := [bX8_takeBound_0, bX8_takeBound_1, bX8_takeBound_2]
theorem kX8_takeBound : bX8_takeBound.all (chkL 8 false cX8_takeBound bX8_takeBound) = true := by decide +kernel
theorem mX8_takeBound : MB 78 bX8_takeBound 2 1 := ⟨by decide, by decide +kernel, kX8_takeBound, rfl, rfl⟩
def bX8_endTest_0 : CD := [(0, .aload 0), (1, .getstatic 800), (4, .aload 0), (5, .getfield 807), (8, .aload 0), (9, .getfield 808), (12, .aload 0), (13, .getfield 809), (16, .aload 0), (17, .getfield 810), (20, .aload 0), (21, .getfield 811), (24, .iload 1), (25, .invokeinterface 18 3070), (28, .aload 0), (29, .dup), (30, .getfield 808), (33, .iconst (1)), (34, .iadd), (35, .putfield 808), (38, .aload 0), (39, .iconst (5)), (40, .putfield 806), (43, .return_)]
def bX8_endTest : List CD := [bX8_endTest_0]
theorem kX8_endTest : bX8_endTest.all (chkL 8 false cX8_endTest bX8_endTest) = true := by decide +kernel
theorem mX8_endTest : MB 79 bX8_endTest 0 2 := ⟨by decide, by decide +kernel, kX8_endTest, rfl, rfl⟩
def bX8_takeJoint_0 : CD := [(0, .aload 0), (1, .aload 0), (2, .getfield 803), (5, .iconst (1)), (6, .if_icmp .ne 1), (9, .iconst (1)), (10, .goto 2)]
def bX8_takeJoint_1 : CD := [(13, .iconst (6)), (15, .goto_w 2)]
def bX8_takeJoint_2 : CD := [(15, .putfield 806), (18, .aload 0), (19, .getfield 803), (22, .iconst (1)), (23, .if_icmp .eq 3), (26, .aload 0), (27, .getfield 803), (30, .iconst (19)), (32, .if_icmp .ne 4), (35, .goto_w 3)]
def bX8_takeJoint_3 : CD := [(35, .iconst (1)), (36, .goto 5)]
def bX8_takeJoint_4 : CD := [(39, .iconst (0)), (40, .goto_w 5)]
def bX8_takeJoint_5 : CD := [(40, .ireturn)]
def bX8_takeJoint : List CD := [bX8_takeJoint_0, bX8_takeJoint_1, bX8_takeJoint_2, bX8_takeJoint_3, bX8_takeJoint_4, bX8_takeJoint_5]
theorem kX8_takeJoint : bX8_takeJoint.all (chkL 8 false cX8_takeJoint bX8_takeJoint) = true := by decide +kernel
theorem mX8_takeJoint : MB 80 bX8_takeJoint 2 1 := ⟨by decide, by decide +kernel, kX8_takeJoint, rfl, rfl⟩
def bX8_takeVerb_0 : CD := [(0, .aload 0), (1, .aload 0), (2, .getfield 803), (5, .putfield 812), (8, .aload 0), (9, .aload 0), (10, .getfield 803), (13, .iconst (6)), (15, .if_icmp .ne 1), (18, .iconst (8)), (20, .goto 2)]
def bX8_takeVerb_1 : CD := [(23, .iconst (7)), (25, .goto_w 2)]
def bX8_takeVerb_2 : CD := [(25, .putfield 806), (28, .aload 0), (29, .getfield 803), (32, .iconst (3)), (33, .if_icmp .lt 3), (36, .aload 0), (37, .getfield 803), (40, .iconst (6)), (42, .if_icmp .gt 3), (45, .iconst (1)), (46, .goto 4)]
def bX8_takeVerb_3 : CD := [(49, .iconst (0)), (50, .goto_w 4)]
def bX8_takeVerb_4 : CD := [(50, .ireturn)]
def bX8_takeVerb : List CD := [bX8_takeVerb_0, bX8_takeVerb_1, bX8_takeVerb_2, bX8_takeVerb_3, bX8_takeVerb_4]
theorem kX8_takeVerb : bX8_takeVerb.all (chkL 8 false cX8_takeVerb bX8_takeVerb) = true := by decide +kernel
theorem mX8_takeVerb : MB 81 bX8_takeVerb 2 1 := ⟨by decide, by decide +kernel, kX8_takeVerb, rfl, rfl⟩
def bX8_takeAmount_0 : CD := [(0, .aload 0), (1, .aload 0), (2, .getfield 805), (5, .putfield 813), (8, .aload 0), (9, .iconst (8)), (11, .putfield 806), (14, .aload 0), (15, .getfield 803), (18, .iconst (18)), (20, .if_icmp .ne 1), (23, .iconst (1)), (24, .goto 2)]
def bX8_takeAmount_1 : CD := [(27, .iconst (0)), (28, .goto_w 2)]
def bX8_takeAmount_2 : CD := [(28, .ireturn)]
def bX8_takeAmount : List CD := [bX8_takeAmount_0, bX8_takeAmount_1, bX8_takeAmount_2]
theorem kX8_takeAmount : bX8_takeAmount.all (chkL 8 false cX8_takeAmount bX8_takeAmount) = true := by decide +kernel
theorem mX8_takeAmount : MB 82 bX8_takeAmount 2 1 := ⟨by decide, by decide +kernel, kX8_takeAmount, rfl, rfl⟩
def bX8_takeClose_0 : CD := [(0, .aload 0), (1, .getstatic 800), (4, .aload 0), (5, .getfield 807), (8, .aload 0), (9, .getfield 812), (12, .aload 0), (13, .getfield 813), (16, .aload 0), (17, .getfield 808), (20, .invokeinterface 19 3050), (23, .aload 0), (24, .dup), (25, .getfield 807), (28, .iconst (1)), (29, .iadd), (30, .putfield 807), (33, .aload 0), (34, .iconst (0)), (35, .putfield 806), (38, .aload 0), (39, .getfield 803), (42, .iconst (20)), (44, .if_icmp .ne 1), (47, .iconst (1)), (48, .goto 2)]
def bX8_takeClose_1 : CD := [(51, .iconst (0)), (52, .goto_w 2)]
def bX8_takeClose_2 : CD := [(52, .ireturn)]
def bX8_takeClose : List CD := [bX8_takeClose_0, bX8_takeClose_1, bX8_takeClose_2]
theorem kX8_takeClose : bX8_takeClose.all (chkL 8 false cX8_takeClose bX8_takeClose) = true := by decide +kernel
theorem mX8_takeClose : MB 83 bX8_takeClose 2 1 := ⟨by decide, by decide +kernel, kX8_takeClose, rfl, rfl⟩
def bX8_tooMany_0 : CD := [(0, .aload 0), (1, .getfield 815), (4, .iconst (-1)), (5, .if_icmp .ne 1), (8, .aload 0), (9, .aload 0), (10, .getfield 804), (13, .putfield 815), (16, .goto_w 1)]
def bX8_tooMany_1 : CD := [(16, .return_)]
def bX8_tooMany : List CD := [bX8_tooMany_0, bX8_tooMany_1]
theorem kX8_tooMany : bX8_tooMany.all (chkL 8 false cX8_tooMany bX8_tooMany) = true := by decide +kernel
theorem mX8_tooMany : MB 84 bX8_tooMany 0 1 := ⟨by decide, by decide +kernel, kX8_tooMany, rfl, rfl⟩
def bX8_advance_0 : CD := [(0, .aload 0), (1, .getfield 802), (4, .aload 0), (5, .getstatic 801), (8, .getfield 13), (11, .if_icmp .ge 1), (14, .aload 0), (15, .getstatic 801), (18, .getstatic 12), (21, .aload 0), (22, .getfield 802), (25, .baload), (26, .invokeinterface 90 11), (29, .ifCond .eq 1), (32, .aload 0), (33, .dup), (34, .getfield 802), (37, .iconst (1)), (38, .iadd), (39, .putfield 802), (42, .goto 100000)]
def bX8_advance_1 : CD := [(45, .aload 0), (46, .aload 0), (47, .getfield 802), (50, .putfield 804), (53, .aload 0), (54, .getfield 802), (57, .aload 0), (58, .getstatic 801), (61, .getfield 13), (64, .if_icmp .lt 2), (67, .aload 0), (68, .iconst (24)), (70, .putfield 803), (73, .return_)]
def bX8_advance_2 : CD := [(74, .aload 0), (75, .getstatic 801), (78, .getstatic 12), (81, .aload 0), (82, .getfield 802), (85, .baload), (86, .istore 1), (87, .iload 1), (88, .invokeinterface 91 11), (91, .ifCond .eq 3), (94, .aload 0), (95, .aload 0), (96, .invokeinterface 86 9011), (99, .putfield 803), (102, .goto 5)]
def bX8_advance_3 : CD := [(105, .iload 1), (106, .invokeinterface 92 11), (109, .ifCond .eq 4), (112, .aload 0), (113, .aload 0), (114, .invokeinterface 88 9011), (117, .putfield 803), (120, .goto 5)]
def bX8_advance_4 : CD := [(123, .aload 0), (124, .dup), (125, .getfield 802), (128, .iconst (1)), (129, .iadd), (130, .putfield 802), (133, .aload 0), (134, .iload 1), (135, .invokeinterface 89 11), (138, .putfield 803), (141, .goto_w 5)]
def bX8_advance_5 : CD := [(141, .return_)]
def bX8_advance : List CD := [bX8_advance_0, bX8_advance_1, bX8_advance_2, bX8_advance_3, bX8_advance_4, bX8_advance_5]
theorem kX8_advance : bX8_advance.all (chkL 8 false cX8_advance bX8_advance) = true := by decide +kernel
theorem mX8_advance : MB 85 bX8_advance 0 2 := ⟨by decide, by decide +kernel, kX8_advance, rfl, rfl⟩
def bX8_takeWord_0 : CD := [(0, .aload 0), (1, .getfield 802), (4, .aload 0), (5, .getstatic 801), (8, .getfield 13), (11, .if_icmp .ge 1), (14, .aload 0), (15, .getstatic 801), (18, .getstatic 12), (21, .aload 0), (22, .getfield 802), (25, .baload), (26, .invokeinterface 91 11), (29, .ifCond .eq 1), (32, .aload 0), (33, .dup), (34, .getfield 802), (37, .iconst (1)), (38, .iadd), (39, .putfield 802), (42, .goto 100000)]
def bX8_takeWord_1 : CD := [(45, .iconst (0)), (46, .istore 1), (47, .goto_w 100047)]
def bX8_takeWord_2 : CD := [(47, .iload 1), (48, .iconst (17)), (50, .if_icmp .gt 4), (53, .aload 0), (54, .iload 1), (55, .aload 0), (56, .getfield 802), (59, .aload 0), (60, .getfield 804), (63, .isub), (64, .invokeinterface 87 9031), (67, .ifCond .eq 3), (70, .iload 1), (71, .ireturn)]
def bX8_takeWord_3 : CD := [(72, .iinc 1 (1)), (75, .goto 100047)]
def bX8_takeWord_4 : CD := [(78, .iconst (25)), (80, .ireturn)]
def bX8_takeWord : List CD := [bX8_takeWord_0, bX8_takeWord_1, bX8_takeWord_2, bX8_takeWord_3, bX8_takeWord_4]
theorem kX8_takeWord : bX8_takeWord.all (chkL 8 false cX8_takeWord bX8_takeWord) = true := by decide +kernel
theorem mX8_takeWord : MB 86 bX8_takeWord 1 2 := ⟨by decide, by decide +kernel, kX8_takeWord, rfl, rfl⟩
def bX8_isSpelled_0 : CD := [(0, .iload 1), (1, .iconst (7)), (3, .imul), (4, .istore 3), (5, .iload 2), (6, .iconst (7)), (8, .if_icmp .ge 5), (11, .goto_w 100011)]
def bX8_isSpelled_1 : CD := [(11, .dup_x1), (13, .goto_w 100013)]
def bX8_isSpelled_2 : CD := [(13, .iload 3), (14, .iload 2), (15, .iadd), (16, .goto_w 100016)]
def bX8_isSpelled_3 : CD := [(16, .caload), (19, .goto_w 100019)]
def bX8_isSpelled_4 : CD := [(19, .iconst (32)), (21, .if_icmp .eq 6), (24, .goto_w 5)]
def bX8_isSpelled_5 : CD := [(24, .iconst (0)), (25, .ireturn)]
def bX8_isSpelled_6 : CD := [(26, .iconst (0)), (27, .istore 4), (29, .goto_w 100029)]
def bX8_isSpelled_7 : CD := [(29, .iload 4), (31, .iload 2), (32, .if_icmp .ge 13), (35, .goto_w 100035)]
def bX8_isSpelled_8 : CD := [(35, .dup_x1), (37, .goto_w 100037)]
def bX8_isSpelled_9 : CD := [(37, .iload 3), (38, .iload 4), (40, .iadd), (41, .goto_w 100041)]
def bX8_isSpelled_10 : CD := [(41, .caload), (44, .goto_w 100044)]
def bX8_isSpelled_11 : CD := [(44, .aload 0), (45, .getstatic 801), (48, .getstatic 12), (51, .aload 0), (52, .getfield 804), (55, .iload 4), (57, .iadd), (58, .baload), (59, .if_icmp .eq 12), (62, .iconst (0)), (63, .ireturn)]
def bX8_isSpelled_12 : CD := [(64, .iinc 4 (1)), (67, .goto 100029)]
def bX8_isSpelled_13 : CD := [(70, .iconst (1)), (71, .ireturn)]
def bX8_isSpelled : List CD := [bX8_isSpelled_0, bX8_isSpelled_1, bX8_isSpelled_2, bX8_isSpelled_3, bX8_isSpelled_4, bX8_isSpelled_5, bX8_isSpelled_6, bX8_isSpelled_7, bX8_isSpelled_8, bX8_isSpelled_9, bX8_isSpelled_10, bX8_isSpelled_11, bX8_isSpelled_12, bX8_isSpelled_13]
theorem kX8_isSpelled : bX8_isSpelled.all (chkL 8 false cX8_isSpelled bX8_isSpelled) = true := by decide +kernel
theorem mX8_isSpelled : MB 87 bX8_isSpelled 2 5 := ⟨by decide, by decide +kernel, kX8_isSpelled, rfl, rfl⟩
def bX8_takeNumber_0 : CD := [(0, .aload 0), (1, .iconst (0)), (2, .putfield 805), (5, .goto_w 100005)]
def bX8_takeNumber_1 : CD := [(5, .aload 0), (6, .getfield 802), (9, .aload 0), (10, .getstatic 801), (13, .getfield 13), (16, .if_icmp .ge 2), (19, .aload 0), (20, .getstatic 801), (23, .getstatic 12), (26, .aload 0), (27, .getfield 802), (30, .baload), (31, .invokeinterface 92 11), (34, .ifCond .eq 2), (37, .aload 0), (38, .aload 0), (39, .getfield 805), (42, .iconst (10)), (44, .imul), (45, .aload 0), (46, .getstatic 801), (49, .getstatic 12), (52, .aload 0), (53, .getfield 802), (56, .baload), (57, .iadd), (58, .iconst (48)), (60, .isub), (61, .putfield 805), (64, .aload 0), (65, .dup), (66, .getfield 802), (69, .iconst (1)), (70, .iadd), (71, .putfield 802), (74, .goto 100005)]
def bX8_takeNumber_2 : CD := [(77, .aload 0), (78, .getfield 802), (81, .aload 0), (82, .getfield 804), (85, .isub), (86, .iconst (4)), (87, .if_icmp .gt 3), (90, .iconst (18)), (92, .goto 4)]
def bX8_takeNumber_3 : CD := [(95, .iconst (25)), (97, .goto_w 4)]
def bX8_takeNumber_4 : CD := [(97, .ireturn)]
def bX8_takeNumber : List CD := [bX8_takeNumber_0, bX8_takeNumber_1, bX8_takeNumber_2, bX8_takeNumber_3, bX8_takeNumber_4]
theorem kX8_takeNumber : bX8_takeNumber.all (chkL 8 false cX8_takeNumber bX8_takeNumber) = true := by decide +kernel
theorem mX8_takeNumber : MB 88 bX8_takeNumber 1 1 := ⟨by decide, by decide +kernel, kX8_takeNumber, rfl, rfl⟩
def bX8_signOf_0 : CD := [(0, .iload 0), (1, .tableswitch 6 (58) (62) #[1, 2, 3, 5, 4])]
def bX8_signOf_1 : CD := [(36, .iconst (19)), (38, .ireturn)]
def bX8_signOf_2 : CD := [(39, .iconst (20)), (41, .ireturn)]
def bX8_signOf_3 : CD := [(42, .iconst (21)), (44, .ireturn)]
def bX8_signOf_4 : CD := [(45, .iconst (22)), (47, .ireturn)]
def bX8_signOf_5 : CD := [(48, .iconst (23)), (50, .ireturn)]
def bX8_signOf_6 : CD := [(51, .iconst (25)), (53, .ireturn)]
def bX8_signOf : List CD := [bX8_signOf_0, bX8_signOf_1, bX8_signOf_2, bX8_signOf_3, bX8_signOf_4, bX8_signOf_5, bX8_signOf_6]
theorem kX8_signOf : bX8_signOf.all (chkL 8 false cX8_signOf bX8_signOf) = true := by decide +kernel
theorem mX8_signOf : MB 89 bX8_signOf 1 1 := ⟨by decide, by decide +kernel, kX8_signOf, rfl, rfl⟩
def bX8_isBlank_0 : CD := [(0, .iload 0), (1, .iconst (10)), (3, .if_icmp .eq 1), (6, .iload 0), (7, .iconst (32)), (9, .if_icmp .ne 2), (12, .goto_w 1)]
def bX8_isBlank_1 : CD := [(12, .iconst (1)), (13, .goto 3)]
def bX8_isBlank_2 : CD := [(16, .iconst (0)), (17, .goto_w 3)]
def bX8_isBlank_3 : CD := [(17, .ireturn)]
def bX8_isBlank : List CD := [bX8_isBlank_0, bX8_isBlank_1, bX8_isBlank_2, bX8_isBlank_3]
theorem kX8_isBlank : bX8_isBlank.all (chkL 8 false cX8_isBlank bX8_isBlank) = true := by decide +kernel
theorem mX8_isBlank : MB 90 bX8_isBlank 2 1 := ⟨by decide, by decide +kernel, kX8_isBlank, rfl, rfl⟩
def bX8_isLetter_0 : CD := [(0, .iload 0), (1, .iconst (97)), (3, .if_icmp .lt 1), (6, .iload 0), (7, .iconst (122)), (9, .if_icmp .gt 1), (12, .iconst (1)), (13, .goto 2)]
def bX8_isLetter_1 : CD := [(16, .iconst (0)), (17, .goto_w 2)]
def bX8_isLetter_2 : CD := [(17, .ireturn)]
def bX8_isLetter : List CD := [bX8_isLetter_0, bX8_isLetter_1, bX8_isLetter_2]
theorem kX8_isLetter : bX8_isLetter.all (chkL 8 false cX8_isLetter bX8_isLetter) = true := by decide +kernel
theorem mX8_isLetter : MB 91 bX8_isLetter 2 1 := ⟨by decide, by decide +kernel, kX8_isLetter, rfl, rfl⟩
def bX8_isDigit_0 : CD := [(0, .iload 0), (1, .iconst (48)), (3, .if_icmp .lt 1), (6, .iload 0), (7, .iconst (57)), (9, .if_icmp .gt 1), (12, .iconst (1)), (13, .goto 2)]
def bX8_isDigit_1 : CD := [(16, .iconst (0)), (17, .goto_w 2)]
def bX8_isDigit_2 : CD := [(17, .ireturn)]
def bX8_isDigit : List CD := [bX8_isDigit_0, bX8_isDigit_1, bX8_isDigit_2]
theorem kX8_isDigit : bX8_isDigit.all (chkL 8 false cX8_isDigit bX8_isDigit) = true := by decide +kernel
theorem mX8_isDigit : MB 92 bX8_isDigit 2 1 := ⟨by decide, by decide +kernel, kX8_isDigit, rfl, rfl⟩
def bX9_init_0 : CD := [(0, .aload 0), (1, .pop), (4, .aload 0), (5, .iconst (14)), (7, .newarray .int), (9, .putstatic 901), (12, .aload 0), (13, .iconst (14)), (15, .newarray .int), (17, .putstatic 902), (20, .aload 0), (21, .iconst (896)), (24, .newarray .long), (26, .putstatic 903), (29, .aload 0), (30, .aload 1), (31, .putstatic 900), (34, .return_)]
def bX9_init : List CD := [bX9_init_0]
theorem kX9_init : bX9_init.all (chkL 9 true cX9_init bX9_init) = true := by decide +kernel
theorem mX9_init : MB 93 bX9_init 0 2 := ⟨by decide, by decide +kernel, kX9_init, rfl, rfl⟩
def bX9_planWatch_0 : CD := [(0, .iload 1), (1, .iconst (14)), (3, .if_icmp .le 1), (6, .iconst (-1)), (7, .ireturn)]
def bX9_planWatch_1 : CD := [(8, .aload 0), (9, .iload 1), (10, .putfield 904), (13, .aload 0), (14, .iload 2), (15, .putfield 905), (18, .aload 0), (19, .iload 3), (20, .putfield 906), (23, .aload 0), (24, .getstatic 903), (27, .ldc2_w 0), (28, .invokeinterface 207 20), (31, .iconst (0)), (32, .istore 4), (34, .goto_w 100034)]
def bX9_planWatch_2 : CD := [(34, .iload 4), (36, .iload 1), (37, .if_icmp .ge 3), (40, .aload 0), (41, .getstatic 902), (44, .iload 4), (46, .aload 0), (47, .iload 4), (49, .invokeinterface 95 10021), (52, .iastore), (53, .iinc 4 (1)), (56, .goto 100034)]
def bX9_planWatch_3 : CD := [(59, .aload 0), (60, .iconst (0)), (61, .invokeinterface 96 21), (64, .ifCond .ne 4), (67, .iconst (-1)), (68, .ireturn)]
def bX9_planWatch_4 : CD := [(69, .aload 0), (70, .getstatic 901), (73, .iconst (0)), (74, .aload 0), (75, .getstatic 900), (78, .getstatic 16), (81, .iconst (0)), (82, .iload 1), (83, .pop2), (86, .aload 0), (87, .getstatic 900), (90, .iload 1), (91, .putfield 17), (94, .iload 1), (95, .ireturn)]
def bX9_planWatch : List CD := [bX9_planWatch_0, bX9_planWatch_1, bX9_planWatch_2, bX9_planWatch_3, bX9_planWatch_4]
theorem kX9_planWatch : bX9_planWatch.all (chkL 9 false cX9_planWatch bX9_planWatch) = true := by decide +kernel
theorem mX9_planWatch : MB 94 bX9_planWatch 1 5 := ⟨by decide, by decide +kernel, kX9_planWatch, rfl, rfl⟩
def bX9_awayOn_0 : CD := [(0, .iconst (0)), (1, .istore 2), (2, .iconst (0)), (3, .istore 3), (4, .goto_w 100004)]
def bX9_awayOn_1 : CD := [(4, .iload 3), (5, .aload 0), (6, .getstatic 900), (9, .getfield 6), (12, .if_icmp .ge 3), (15, .aload 0), (16, .getstatic 900), (19, .getstatic 5), (22, .iload 3), (23, .iaload), (24, .iload 1), (25, .ishr), (26, .iconst (1)), (27, .iand), (28, .ifCond .eq 2), (31, .iload 2), (32, .iconst (1)), (33, .iload 3), (34, .ishl), (35, .ior), (36, .istore 2), (37, .goto_w 2)]
def bX9_awayOn_2 : CD := [(37, .iinc 3 (1)), (40, .goto 100004)]
def bX9_awayOn_3 : CD := [(43, .iload 2), (44, .ireturn)]
def bX9_awayOn : List CD := [bX9_awayOn_0, bX9_awayOn_1, bX9_awayOn_2, bX9_awayOn_3]
theorem kX9_awayOn : bX9_awayOn.all (chkL 9 false cX9_awayOn bX9_awayOn) = true := by decide +kernel
theorem mX9_awayOn : MB 95 bX9_awayOn 1 4 := ⟨by decide, by decide +kernel, kX9_awayOn, rfl, rfl⟩
def bX9_fillFrom_0 : CD := [(0, .iload 1), (1, .ifCond .lt 1), (4, .iload 1), (5, .aload 0), (6, .getfield 904), (9, .if_icmp .ge 1), (12, .iload 1), (13, .iconst (14)), (15, .if_icmp .lt 2), (18, .goto_w 1)]
def bX9_fillFrom_1 : CD := [(18, .iconst (1)), (19, .ireturn)]
def bX9_fillFrom_2 : CD := [(20, .aload 0), (21, .iload 1), (22, .iconst (1)), (23, .invokeinterface 97 10031), (26, .istore 2), (27, .aload 0), (28, .iload 1), (29, .iconst (2)), (30, .invokeinterface 97 10031), (33, .istore 3), (34, .iload 1), (35, .iconst (64)), (37, .imul), (38, .iload 2), (39, .iadd), (40, .istore 4), (42, .aload 0), (43, .getstatic 903), (46, .iload 4), (48, .laload), (49, .iload 3), (50, .lushr), (51, .ldc2_w 1), (52, .land), (53, .ldc2_w 0), (54, .lcmp), (55, .ifCond .eq 3), (58, .iconst (0)), (59, .ireturn)]
def bX9_fillFrom_3 : CD := [(60, .aload 0), (61, .getstatic 902), (64, .iload 1), (65, .iaload), (66, .iload 2), (67, .ior), (68, .iload 3), (69, .ior), (70, .istore 5), (72, .iconst (1)), (73, .aload 0), (74, .getstatic 900), (77, .getfield 6), (80, .ishl), (81, .istore 6), (83, .iconst (1)), (84, .istore 7), (86, .goto_w 100086)]
def bX9_fillFrom_4 : CD := [(86, .iload 7), (88, .iload 6), (90, .if_icmp .ge 6), (93, .iload 7), (95, .iload 5), (97, .iand), (98, .ifCond .ne 5), (101, .iload 7), (103, .invokeinterface 203 11), (106, .aload 0), (107, .getfield 905), (110, .if_icmp .ne 5), (113, .aload 0), (114, .getstatic 901), (117, .iload 1), (118, .iload 7), (120, .iastore), (121, .aload 0), (122, .iload 1), (123, .iconst (1)), (124, .iadd), (125, .invokeinterface 96 21), (128, .ifCond .eq 5), (131, .iconst (1)), (132, .ireturn)]
def bX9_fillFrom_5 : CD := [(133, .iinc 7 (1)), (136, .goto 100086)]
def bX9_fillFrom_6 : CD := [(139, .aload 0), (140, .getstatic 903), (143, .iload 4), (145, .dup2), (146, .laload), (147, .ldc2_w 1), (148, .iload 3), (149, .lshl), (150, .lor), (151, .lastore), (152, .iconst (0)), (153, .ireturn)]
def bX9_fillFrom : List CD := [bX9_fillFrom_0, bX9_fillFrom_1, bX9_fillFrom_2, bX9_fillFrom_3, bX9_fillFrom_4, bX9_fillFrom_5, bX9_fillFrom_6]
theorem kX9_fillFrom : bX9_fillFrom.all (chkL 9 false cX9_fillFrom bX9_fillFrom) = true := by decide +kernel
theorem mX9_fillFrom : MB 96 bX9_fillFrom 2 8 := ⟨by decide, by decide +kernel, kX9_fillFrom, rfl, rfl⟩
def bX9_restingSince_0 : CD := [(0, .iload 2), (1, .aload 0), (2, .getfield 906), (5, .if_icmp .gt 1), (8, .iload 2), (9, .iload 1), (10, .if_icmp .gt 1), (13, .aload 0), (14, .getstatic 901), (17, .iload 1), (18, .iload 2), (19, .isub), (20, .iaload), (21, .goto 2)]
def bX9_restingSince_1 : CD := [(24, .iconst (0)), (25, .goto_w 2)]
def bX9_restingSince_2 : CD := [(25, .ireturn)]
def bX9_restingSince : List CD := [bX9_restingSince_0, bX9_restingSince_1, bX9_restingSince_2]
theorem kX9_restingSince : bX9_restingSince.all (chkL 9 false cX9_restingSince bX9_restingSince) = true := by decide +kernel
theorem mX9_restingSince : MB 97 bX9_restingSince 1 3 := ⟨by decide, by decide +kernel, kX9_restingSince, rfl, rfl⟩
def bX10_init_0 : CD := [(0, .aload 0), (1, .pop), (4, .aload 0), (5, .new 0), (8, .dup), (9, .invokeinterface 0 3899010), (12, .putstatic 1000), (15, .aload 0), (16, .iconst (3)), (17, .anewarray 6), (20, .putstatic 1001), (23, .aload 0), (24, .new 6), (27, .dup), (28, .aload 0), (29, .getstatic 1000), (32, .invokeinterface 42 699020), (35, .putstatic 1002), (38, .aload 0), (39, .new 4), (42, .dup), (43, .aload 0), (44, .getstatic 1000), (47, .invokeinterface 30 399020), (50, .putstatic 1003), (53, .aload 0), (54, .new 8), (57, .dup), (58, .aload 0), (59, .getstatic 1000), (62, .invokeinterface 69 899020), (65, .putstatic 1004), (68, .aload 0), (69, .new 7), (72, .dup), (73, .invokeinterface 66 99010), (76, .putstatic 1005), (79, .aload 0), (80, .new 9), (83, .dup), (84, .aload 0), (85, .getstatic 1000), (88, .invokeinterface 93 399020), (91, .putstatic 1006), (94, .aload 0), (95, .new 3), (98, .dup), (99, .aload 0), (100, .getstatic 1000), (103, .invokeinterface 25 199020), (106, .putstatic 1007), (109, .aload 0), (110, .new 5), (113, .dup), (114, .aload 0), (115, .getstatic 1000), (118, .invokeinterface 36 399020), (121, .putstatic 1008), (124, .aload 0), (125, .iconst (24)), (127, .newarray .int), (129, .putstatic 1009), (132, .return_)]
def bX10_init : List CD := [bX10_init_0]
theorem kX10_init : bX10_init.all (chkL 10 true cX10_init bX10_init) = true := by decide +kernel
theorem mX10_init : MB 98 bX10_init 0 1 := ⟨by decide, by decide +kernel, kX10_init, rfl, rfl⟩
def bX10_within_0 : CD := [(0, .iload 0), (1, .iload 1), (2, .if_icmp .lt 1), (5, .iload 0), (6, .iload 2), (7, .if_icmp .gt 1), (10, .iconst (1)), (11, .goto 2)]
def bX10_within_1 : CD := [(14, .iconst (0)), (15, .goto_w 2)]
def bX10_within_2 : CD := [(15, .ireturn)]
def bX10_within : List CD := [bX10_within_0, bX10_within_1, bX10_within_2]
theorem kX10_within : bX10_within.all (chkL 10 false cX10_within bX10_within) = true := by decide +kernel
theorem mX10_within : MB 99 bX10_within 2 3 := ⟨by decide, by decide +kernel, kX10_within, rfl, rfl⟩
def bX10_child_0 : CD := [(0, .aload 0), (1, .getstatic 1000), (4, .getfield 1), (7, .iconst (24)), (9, .if_icmp .ge 1), (12, .iload 1), (13, .iconst (0)), (14, .iconst (5)), (15, .invokeinterface 99 31), (18, .ifCond .eq 1), (21, .iload 2), (22, .iconst (8)), (24, .iconst (17)), (26, .invokeinterface 99 31), (29, .ifCond .ne 2), (32, .goto_w 1)]
def bX10_child_1 : CD := [(32, .iconst (-1)), (33, .ireturn)]
def bX10_child_2 : CD := [(34, .aload 0), (35, .getstatic 1000), (38, .getfield 1), (41, .istore 4), (43, .aload 0), (44, .getstatic 1000), (47, .getstatic 0), (50, .iload 4), (52, .aaload), (53, .iload 1), (54, .iload 2), (55, .iload 3), (56, .invokeinterface 11 2040), (59, .aload 0), (60, .getstatic 1000), (63, .iload 4), (65, .iconst (1)), (66, .iadd), (67, .putfield 1), (70, .iload 4), (72, .ireturn)]
def bX10_child : List CD := [bX10_child_0, bX10_child_1, bX10_child_2]
theorem kX10_child : bX10_child.all (chkL 10 false cX10_child bX10_child) = true := by decide +kernel
theorem mX10_child : MB 100 bX10_child 1 5 := ⟨by decide, by decide +kernel, kX10_child, rfl, rfl⟩
def bX10_bar_0 : CD := [(0, .aload 0), (1, .getstatic 1000), (4, .iload 1), (5, .invokeinterface 2 1021), (8, .ifCond .eq 1), (11, .aload 0), (12, .getstatic 1000), (15, .iload 2), (16, .invokeinterface 2 1021), (19, .ifCond .eq 1), (22, .iload 1), (23, .iload 2), (24, .if_icmp .ne 2), (27, .goto_w 1)]
def bX10_bar_1 : CD := [(27, .iconst (0)), (28, .ireturn)]
def bX10_bar_2 : CD := [(29, .aload 0), (30, .getstatic 1000), (33, .getstatic 0), (36, .iload 1), (37, .aaload), (38, .astore 3), (39, .aload 0), (40, .getstatic 1000), (43, .getstatic 0), (46, .iload 2), (47, .aaload), (48, .astore 4), (50, .aload 3), (51, .iload 2), (52, .invokeinterface 13 2021), (55, .ifCond .ne 3), (58, .aload 0), (59, .getstatic 1000), (62, .getfield 2), (65, .iconst (30)), (67, .if_icmp .lt 4), (70, .goto_w 3)]
def bX10_bar_3 : CD := [(70, .iconst (0)), (71, .ireturn)]
def bX10_bar_4 : CD := [(72, .aload 3), (73, .dup), (74, .getfield 103), (77, .iconst (1)), (78, .iload 2), (79, .ishl), (80, .ior), (81, .putfield 103), (84, .aload 4), (86, .dup), (87, .getfield 103), (90, .iconst (1)), (91, .iload 1), (92, .ishl), (93, .ior), (94, .putfield 103), (97, .aload 0), (98, .getstatic 1000), (101, .dup), (102, .getfield 2), (105, .iconst (1)), (106, .iadd), (107, .putfield 2), (110, .iconst (1)), (111, .ireturn)]
def bX10_bar : List CD := [bX10_bar_0, bX10_bar_1, bX10_bar_2, bX10_bar_3, bX10_bar_4]
theorem kX10_bar : bX10_bar.all (chkL 10 false cX10_bar bX10_bar) = true := by decide +kernel
theorem mX10_bar : MB 101 bX10_bar 2 5 := ⟨by decide, by decide +kernel, kX10_bar, rfl, rfl⟩
def bX10_cabin_0 : CD := [(0, .aload 0), (1, .getstatic 1000), (4, .getfield 4), (7, .iconst (6)), (9, .if_icmp .ge 1), (12, .iload 1), (13, .iconst (1)), (14, .iconst (8)), (16, .invokeinterface 99 31), (19, .ifCond .ne 2), (22, .goto_w 1)]
def bX10_cabin_1 : CD := [(22, .iconst (-1)), (23, .ireturn)]
def bX10_cabin_2 : CD := [(24, .aload 0), (25, .getstatic 1000), (28, .getfield 4), (31, .istore 2), (32, .aload 0), (33, .getstatic 1000), (36, .getstatic 3), (39, .iload 2), (40, .iload 1), (41, .iastore), (42, .aload 0), (43, .getstatic 1000), (46, .iload 2), (47, .iconst (1)), (48, .iadd), (49, .putfield 4), (52, .iload 2), (53, .ireturn)]
def bX10_cabin : List CD := [bX10_cabin_0, bX10_cabin_1, bX10_cabin_2]
theorem kX10_cabin : bX10_cabin.all (chkL 10 false cX10_cabin bX10_cabin) = true := by decide +kernel
theorem mX10_cabin : MB 102 bX10_cabin 1 3 := ⟨by decide, by decide +kernel, kX10_cabin, rfl, rfl⟩
def bX10_lie_0 : CD := [(0, .aload 0), (1, .getstatic 1000), (4, .iload 1), (5, .invokeinterface 2 1021), (8, .ifCond .eq 1), (11, .iload 2), (12, .iconst (-1)), (13, .if_icmp .eq 2), (16, .aload 0), (17, .getstatic 1000), (20, .iload 2), (21, .invokeinterface 3 1021), (24, .ifCond .ne 2), (27, .goto_w 1)]
def bX10_lie_1 : CD := [(27, .iconst (0)), (28, .ireturn)]
def bX10_lie_2 : CD := [(29, .aload 0), (30, .getstatic 1000), (33, .getstatic 0), (36, .iload 1), (37, .aaload), (38, .astore 3), (39, .aload 3), (40, .getfield 104), (43, .iload 2), (44, .if_icmp .eq 3), (47, .iload 2), (48, .iconst (-1)), (49, .if_icmp .eq 4), (52, .aload 0), (53, .getstatic 1000), (56, .iload 2), (57, .invokeinterface 6 1021), (60, .aload 0), (61, .getstatic 1000), (64, .getstatic 3), (67, .iload 2), (68, .iaload), (69, .if_icmp .lt 4), (72, .goto_w 3)]
def bX10_lie_3 : CD := [(72, .iconst (0)), (73, .ireturn)]
def bX10_lie_4 : CD := [(74, .aload 3), (75, .iload 2), (76, .putfield 104), (79, .iconst (1)), (80, .ireturn)]
def bX10_lie : List CD := [bX10_lie_0, bX10_lie_1, bX10_lie_2, bX10_lie_3, bX10_lie_4]
theorem kX10_lie : bX10_lie.all (chkL 10 false cX10_lie bX10_lie) = true := by decide +kernel
theorem mX10_lie : MB 103 bX10_lie 2 4 := ⟨by decide, by decide +kernel, kX10_lie, rfl, rfl⟩
def bX10_house_0 : CD := [(0, .aload 0), (1, .getstatic 1000), (4, .invokeinterface 5 1011), (7, .aload 0), (8, .getstatic 1000), (11, .getfield 1), (14, .if_icmp .ge 1), (17, .iconst (-1)), (18, .ireturn)]
def bX10_house_1 : CD := [(19, .aload 0), (20, .getstatic 1002), (23, .invokeinterface 49 7010), (26, .aload 0), (27, .getstatic 1002), (30, .invokeinterface 43 7011), (33, .ireturn)]
def bX10_house : List CD := [bX10_house_0, bX10_house_1]
theorem kX10_house : bX10_house.all (chkL 10 false cX10_house bX10_house) = true := by decide +kernel
theorem mX10_house : MB 104 bX10_house 1 1 := ⟨by decide, by decide +kernel, kX10_house, rfl, rfl⟩
def bX10_step_0 : CD := [(0, .aload 0), (1, .getstatic 1002), (4, .invokeinterface 51 7011), (7, .ireturn)]
def bX10_step : List CD := [bX10_step_0]
theorem kX10_step : bX10_step.all (chkL 10 false cX10_step bX10_step) = true := by decide +kernel
theorem mX10_step : MB 105 bX10_step 1 1 := ⟨by decide, by decide +kernel, kX10_step, rfl, rfl⟩
def bX10_better_0 : CD := [(0, .aload 0), (1, .getstatic 1002), (4, .invokeinterface 52 7011), (7, .ireturn)]
def bX10_better : List CD := [bX10_better_0]
theorem kX10_better : bX10_better.all (chkL 10 false cX10_better bX10_better) = true := by decide +kernel
theorem mX10_better : MB 106 bX10_better 1 1 := ⟨by decide, by decide +kernel, kX10_better, rfl, rfl⟩
def bX10_cost_0 : CD := [(0, .iload 1), (1, .iconst (-1)), (2, .if_icmp .ne 1), (5, .aload 0), (6, .getstatic 1002), (9, .invokeinterface 43 7011), (12, .ireturn)]
def bX10_cost_1 : CD := [(13, .aload 0), (14, .getstatic 1000), (17, .iload 1), (18, .invokeinterface 3 1021), (21, .ifCond .eq 2), (24, .aload 0), (25, .getstatic 1002), (28, .iload 1), (29, .invokeinterface 44 7021), (32, .goto 3)]
def bX10_cost_2 : CD := [(35, .iconst (-1)), (36, .goto_w 3)]
def bX10_cost_3 : CD := [(36, .ireturn)]
def bX10_cost : List CD := [bX10_cost_0, bX10_cost_1, bX10_cost_2, bX10_cost_3]
theorem kX10_cost : bX10_cost.all (chkL 10 false cX10_cost bX10_cost) = true := by decide +kernel
theorem mX10_cost : MB 107 bX10_cost 1 2 := ⟨by decide, by decide +kernel, kX10_cost, rfl, rfl⟩
def bX10_least_0 : CD := [(0, .aload 0), (1, .getstatic 1000), (4, .getfield 1), (7, .iconst (7)), (9, .if_icmp .gt 1), (12, .aload 0), (13, .getstatic 1000), (16, .invokeinterface 5 1011), (19, .aload 0), (20, .getstatic 1000), (23, .getfield 1), (26, .if_icmp .ge 2), (29, .goto_w 1)]
def bX10_least_1 : CD := [(29, .iconst (-1)), (30, .ireturn)]
def bX10_least_2 : CD := [(31, .aload 0), (32, .getstatic 1002), (35, .invokeinterface 63 7011), (38, .ireturn)]
def bX10_least : List CD := [bX10_least_0, bX10_least_1, bX10_least_2]
theorem kX10_least : bX10_least.all (chkL 10 false cX10_least bX10_least) = true := by decide +kernel
theorem mX10_least : MB 108 bX10_least 1 1 := ⟨by decide, by decide +kernel, kX10_least, rfl, rfl⟩
def bX10_task_0 : CD := [(0, .aload 0), (1, .getstatic 1000), (4, .iload 1), (5, .invokeinterface 2 1021), (8, .ifCond .eq 1), (11, .iload 2), (12, .iconst (1)), (13, .iconst (10)), (15, .invokeinterface 99 31), (18, .ifCond .ne 2), (21, .goto_w 1)]
def bX10_task_1 : CD := [(21, .iconst (-1)), (22, .ireturn)]
def bX10_task_2 : CD := [(23, .aload 0), (24, .getstatic 1000), (27, .getstatic 0), (30, .iload 1), (31, .aaload), (32, .astore 4), (34, .aload 4), (36, .iload 2), (37, .iload 3), (38, .invokeinterface 14 2030), (41, .aload 4), (43, .getfield 106), (46, .aload 4), (48, .getfield 105), (51, .isub), (52, .ireturn)]
def bX10_task : List CD := [bX10_task_0, bX10_task_1, bX10_task_2]
theorem kX10_task : bX10_task.all (chkL 10 false cX10_task bX10_task) = true := by decide +kernel
theorem mX10_task : MB 109 bX10_task 1 5 := ⟨by decide, by decide +kernel, kX10_task, rfl, rfl⟩
def bX10_groups_0 : CD := [(0, .iload 1), (1, .iconst (1)), (2, .iconst (6)), (4, .invokeinterface 99 31), (7, .ifCond .eq 1), (10, .iload 2), (11, .iconst (1)), (12, .iload 3), (13, .invokeinterface 99 31), (16, .ifCond .ne 2), (19, .goto_w 1)]
def bX10_groups_1 : CD := [(19, .iconst (-1)), (20, .ireturn)]
def bX10_groups_2 : CD := [(21, .aload 0), (22, .getstatic 1003), (25, .iload 1), (26, .iload 2), (27, .iload 3), (28, .invokeinterface 31 5041), (31, .ireturn)]
def bX10_groups : List CD := [bX10_groups_0, bX10_groups_1, bX10_groups_2]
theorem kX10_groups : bX10_groups.all (chkL 10 false cX10_groups bX10_groups) = true := by decide +kernel
theorem mX10_groups : MB 110 bX10_groups 1 4 := ⟨by decide, by decide +kernel, kX10_groups, rfl, rfl⟩
def bX10_feed_0 : CD := [(0, .aload 0), (1, .getstatic 1000), (4, .getfield 13), (7, .iconst (20)), (9, .iadd), (10, .iconst (500)), (13, .if_icmp .le 1), (16, .iconst (-1)), (17, .ireturn)]
def bX10_feed_1 : CD := [(18, .aload 0), (19, .getstatic 1000), (22, .iload 1), (23, .invokeinterface 9 1020), (26, .aload 0), (27, .getstatic 1000), (30, .iload 2), (31, .invokeinterface 9 1020), (34, .aload 0), (35, .getstatic 1000), (38, .iload 3), (39, .invokeinterface 9 1020), (42, .aload 0), (43, .getstatic 1000), (46, .iload 4), (48, .invokeinterface 9 1020), (51, .aload 0), (52, .getstatic 1000), (55, .iload 5), (57, .invokeinterface 9 1020), (60, .aload 0), (61, .getstatic 1000), (64, .getfield 13), (67, .ireturn)]
def bX10_feed : List CD := [bX10_feed_0, bX10_feed_1]
theorem kX10_feed : bX10_feed.all (chkL 10 false cX10_feed bX10_feed) = true := by decide +kernel
theorem mX10_feed : MB 111 bX10_feed 1 6 := ⟨by decide, by decide +kernel, kX10_feed, rfl, rfl⟩
def bX10_end_0 : CD := [(0, .iload 1), (1, .iconst (0)), (2, .aload 0), (3, .getstatic 1000), (6, .getfield 13), (9, .invokeinterface 99 31), (12, .ifCond .ne 1), (15, .iconst (-1)), (16, .ireturn)]
def bX10_end_1 : CD := [(17, .aload 0), (18, .getstatic 1000), (21, .iload 1), (22, .putfield 13), (25, .iload 1), (26, .ireturn)]
def bX10_end : List CD := [bX10_end_0, bX10_end_1]
theorem kX10_end : bX10_end.all (chkL 10 false cX10_end bX10_end) = true := by decide +kernel
theorem mX10_end : MB 112 bX10_end 1 2 := ⟨by decide, by decide +kernel, kX10_end, rfl, rfl⟩
def bX10_game_0 : CD := [(0, .aload 0), (1, .getstatic 1000), (4, .aload 0), (5, .getstatic 1004), (8, .invokeinterface 70 9011), (11, .putfield 14), (14, .aload 0), (15, .getstatic 1000), (18, .aload 0), (19, .getstatic 1004), (22, .invokeinterface 71 9011), (25, .putfield 15), (28, .aload 0), (29, .getstatic 1000), (32, .iconst (0)), (33, .putfield 13), (36, .aload 0), (37, .getstatic 1000), (40, .getfield 14), (43, .ifCond .eq 1), (46, .iconst (-1)), (47, .ireturn)]
def bX10_game_1 : CD := [(48, .aload 0), (49, .getstatic 1000), (52, .getstatic 11), (55, .aload 0), (56, .getstatic 1004), (59, .getstatic 800), (62, .invokeinterface 17 3020), (65, .aload 0), (66, .getstatic 1000), (69, .getstatic 11), (72, .getfield 200), (75, .ireturn)]
def bX10_game : List CD := [bX10_game_0, bX10_game_1]
theorem kX10_game : bX10_game.all (chkL 10 false cX10_game bX10_game) = true := by decide +kernel
theorem mX10_game : MB 113 bX10_game 1 1 := ⟨by decide, by decide +kernel, kX10_game, rfl, rfl⟩
def bX10_fault_0 : CD := [(0, .iload 1), (1, .ifCond .ne 1), (4, .aload 0), (5, .getstatic 1000), (8, .getfield 14), (11, .ireturn)]
def bX10_fault_1 : CD := [(12, .iload 1), (13, .iconst (1)), (14, .if_icmp .ne 2), (17, .aload 0), (18, .getstatic 1000), (21, .getfield 15), (24, .goto 3)]
def bX10_fault_2 : CD := [(27, .iconst (-1)), (28, .goto_w 3)]
def bX10_fault_3 : CD := [(28, .ireturn)]
def bX10_fault : List CD := [bX10_fault_0, bX10_fault_1, bX10_fault_2, bX10_fault_3]
theorem kX10_fault : bX10_fault.all (chkL 10 false cX10_fault bX10_fault) = true := by decide +kernel
theorem mX10_fault : MB 114 bX10_fault 1 2 := ⟨by decide, by decide +kernel, kX10_fault, rfl, rfl⟩
def bX10_said_0 : CD := [(0, .aload 0), (1, .getstatic 1000), (4, .iload 1), (5, .invokeinterface 2 1021), (8, .ifCond .eq 1), (11, .iload 2), (12, .aload 0), (13, .getstatic 1000), (16, .getfield 10), (19, .iconst (23)), (21, .invokeinterface 99 31), (24, .ifCond .eq 1), (27, .iload 3), (28, .iconst (0)), (29, .iconst (50)), (31, .invokeinterface 99 31), (34, .ifCond .ne 2), (37, .goto_w 1)]
def bX10_said_1 : CD := [(37, .iconst (-1)), (38, .ireturn)]
def bX10_said_2 : CD := [(39, .aload 0), (40, .getstatic 1000), (43, .iload 2), (44, .putfield 10), (47, .aload 0), (48, .getstatic 1000), (51, .getstatic 0), (54, .iload 1), (55, .aaload), (56, .astore 6), (58, .aload 6), (60, .iconst (1)), (61, .instanceof 112), (64, .aload 6), (66, .dup), (67, .getfield 111), (70, .iload 3), (71, .iadd), (72, .putfield 111), (75, .iload 4), (77, .ifCond .eq 3), (80, .aload 6), (82, .aload 0), (83, .getstatic 1000), (86, .getfield 9), (89, .putfield 110), (92, .goto_w 3)]
def bX10_said_3 : CD := [(92, .aload 0), (93, .getstatic 1005), (96, .aload 0), (97, .getstatic 1000), (100, .getfield 9), (103, .iload 2), (104, .iload 3), (105, .iload 4), (107, .iload 5), (109, .invokeinterface 67 8060), (112, .aload 6), (114, .aload 0), (115, .getstatic 1000), (118, .getstatic 11), (121, .aload 6), (123, .aload 0), (124, .getstatic 1005), (127, .invokeinterface 20 3031), (130, .putfield 109), (133, .aload 6), (135, .getfield 109), (138, .ireturn)]
def bX10_said : List CD := [bX10_said_0, bX10_said_1, bX10_said_2, bX10_said_3]
theorem kX10_said : bX10_said.all (chkL 10 false cX10_said bX10_said) = true := by decide +kernel
theorem mX10_said : MB 115 bX10_said 1 7 := ⟨by decide, by decide +kernel, kX10_said, rfl, rfl⟩
def bX10_night_0 : CD := [(0, .aload 0), (1, .getstatic 1000), (4, .getfield 9), (7, .iconst (9999)), (10, .if_icmp .lt 1), (13, .iconst (-1)), (14, .ireturn)]
def bX10_night_1 : CD := [(15, .aload 0), (16, .getstatic 1005), (19, .aload 0), (20, .getstatic 1000), (23, .getfield 9), (26, .iconst (23)), (28, .invokeinterface 68 8030), (31, .iconst (0)), (32, .istore 1), (33, .iconst (0)), (34, .istore 2), (35, .goto_w 100035)]
def bX10_night_2 : CD := [(35, .iload 2), (36, .aload 0), (37, .getstatic 1000), (40, .getfield 1), (43, .if_icmp .ge 4), (46, .aload 0), (47, .getstatic 1000), (50, .getstatic 0), (53, .iload 2), (54, .aaload), (55, .astore 3), (56, .aload 3), (57, .getfield 112), (60, .ifCond .ne 3), (63, .aload 3), (64, .aload 0), (65, .getstatic 1000), (68, .getstatic 11), (71, .aload 3), (72, .aload 0), (73, .getstatic 1005), (76, .invokeinterface 20 3031), (79, .putfield 109), (82, .iinc 1 (1)), (85, .goto_w 3)]
def bX10_night_3 : CD := [(85, .aload 3), (86, .iconst (0)), (87, .instanceof 112), (90, .aload 3), (91, .iconst (0)), (92, .putfield 111), (95, .iinc 2 (1)), (98, .goto 100035)]
def bX10_night_4 : CD := [(101, .aload 0), (102, .getstatic 1000), (105, .dup), (106, .getfield 9), (109, .iconst (1)), (110, .iadd), (111, .putfield 9), (114, .aload 0), (115, .getstatic 1000), (118, .iconst (0)), (119, .putfield 10), (122, .iload 1), (123, .ireturn)]
def bX10_night : List CD := [bX10_night_0, bX10_night_1, bX10_night_2, bX10_night_3, bX10_night_4]
theorem kX10_night : bX10_night.all (chkL 10 false cX10_night bX10_night) = true := by decide +kernel
theorem mX10_night : MB 116 bX10_night 1 4 := ⟨by decide, by decide +kernel, kX10_night, rfl, rfl⟩
def bX10_paysSilence_0 : CD := [(0, .aload 0), (1, .getstatic 1000), (4, .iload 1), (5, .invokeinterface 2 1021), (8, .ifCond .ne 1), (11, .iconst (0)), (12, .ireturn)]
def bX10_paysSilence_1 : CD := [(13, .aload 0), (14, .getstatic 1000), (17, .getstatic 0), (20, .iload 1), (21, .aaload), (22, .astore 2), (23, .aload 0), (24, .getstatic 1005), (27, .aload 0), (28, .getstatic 1000), (31, .getfield 9), (34, .iconst (23)), (36, .invokeinterface 68 8030), (39, .aload 0), (40, .getstatic 1000), (43, .getstatic 11), (46, .aload 2), (47, .aload 0), (48, .getstatic 1005), (51, .invokeinterface 20 3031), (54, .aload 2), (55, .getfield 109), (58, .if_icmp .le 2), (61, .iconst (1)), (62, .goto 3)]
def bX10_paysSilence_2 : CD := [(65, .iconst (0)), (66, .goto_w 3)]
def bX10_paysSilence_3 : CD := [(66, .ireturn)]
def bX10_paysSilence : List CD := [bX10_paysSilence_0, bX10_paysSilence_1, bX10_paysSilence_2, bX10_paysSilence_3]
theorem kX10_paysSilence : bX10_paysSilence.all (chkL 10 false cX10_paysSilence bX10_paysSilence) = true := by decide +kernel
theorem mX10_paysSilence : MB 117 bX10_paysSilence 2 3 := ⟨by decide, by decide +kernel, kX10_paysSilence, rfl, rfl⟩
def bX10_tell_0 : CD := [(0, .aload 0), (1, .getstatic 1000), (4, .iload 1), (5, .invokeinterface 2 1021), (8, .ifCond .ne 1), (11, .iconst (-100)), (13, .ireturn)]
def bX10_tell_1 : CD := [(14, .aload 0), (15, .getstatic 1000), (18, .getstatic 0), (21, .iload 1), (22, .aaload), (23, .astore 3), (24, .iload 2), (25, .tableswitch 20 (0) (13) #[2, 3, 4, 7, 8, 9, 10, 11, 12, 13, 14, 15, 16, 17])]
def bX10_tell_2 : CD := [(96, .aload 3), (97, .getfield 100), (100, .ireturn)]
def bX10_tell_3 : CD := [(101, .aload 3), (102, .getfield 101), (105, .ireturn)]
def bX10_tell_4 : CD := [(106, .aload 3), (107, .getfield 102), (110, .ifCond .eq 5), (113, .iconst (1)), (114, .goto 6)]
def bX10_tell_5 : CD := [(117, .iconst (0)), (118, .goto_w 6)]
def bX10_tell_6 : CD := [(118, .ireturn)]
def bX10_tell_7 : CD := [(119, .aload 3), (120, .getfield 104), (123, .ireturn)]
def bX10_tell_8 : CD := [(124, .aload 3), (125, .getfield 105), (128, .ireturn)]
def bX10_tell_9 : CD := [(129, .aload 3), (130, .getfield 106), (133, .ireturn)]
def bX10_tell_10 : CD := [(134, .aload 3), (135, .getfield 107), (138, .ireturn)]
def bX10_tell_11 : CD := [(139, .aload 3), (140, .invokeinterface 15 2011), (143, .ireturn)]
def bX10_tell_12 : CD := [(144, .aload 3), (145, .getfield 108), (148, .ireturn)]
def bX10_tell_13 : CD := [(149, .aload 3), (150, .getfield 109), (153, .ireturn)]
def bX10_tell_14 : CD := [(154, .aload 0), (155, .getstatic 1000), (158, .getfield 9), (161, .aload 3), (162, .getfield 110), (165, .isub), (166, .ireturn)]
def bX10_tell_15 : CD := [(167, .aload 3), (168, .getfield 111), (171, .ireturn)]
def bX10_tell_16 : CD := [(172, .aload 3), (173, .getfield 113), (176, .ireturn)]
def bX10_tell_17 : CD := [(177, .aload 3), (178, .getfield 112), (181, .ifCond .eq 18), (184, .iconst (1)), (185, .goto 19)]
def bX10_tell_18 : CD := [(188, .iconst (0)), (189, .goto_w 19)]
def bX10_tell_19 : CD := [(189, .ireturn)]
def bX10_tell_20 : CD := [(190, .iconst (-100)), (192, .ireturn)]
def bX10_tell : List CD := [bX10_tell_0, bX10_tell_1, bX10_tell_2, bX10_tell_3, bX10_tell_4, bX10_tell_5, bX10_tell_6, bX10_tell_7, bX10_tell_8, bX10_tell_9, bX10_tell_10, bX10_tell_11, bX10_tell_12, bX10_tell_13, bX10_tell_14, bX10_tell_15, bX10_tell_16, bX10_tell_17, bX10_tell_18, bX10_tell_19, bX10_tell_20]
theorem kX10_tell : bX10_tell.all (chkL 10 false cX10_tell bX10_tell) = true := by decide +kernel
theorem mX10_tell : MB 118 bX10_tell 1 4 := ⟨by decide, by decide +kernel, kX10_tell, rfl, rfl⟩
def bX10_helper_0 : CD := [(0, .aload 0), (1, .getstatic 1000), (4, .getfield 6), (7, .iconst (6)), (9, .if_icmp .ge 1), (12, .iload 1), (13, .iconst (0)), (14, .iconst (16383)), (17, .invokeinterface 99 31), (20, .ifCond .ne 2), (23, .goto_w 1)]
def bX10_helper_1 : CD := [(23, .iconst (-1)), (24, .ireturn)]
def bX10_helper_2 : CD := [(25, .aload 0), (26, .getstatic 1000), (29, .getfield 6), (32, .istore 2), (33, .aload 0), (34, .getstatic 1000), (37, .getstatic 5), (40, .iload 2), (41, .iload 1), (42, .iastore), (43, .aload 0), (44, .getstatic 1000), (47, .iload 2), (48, .iconst (1)), (49, .iadd), (50, .putfield 6), (53, .iload 2), (54, .ireturn)]
def bX10_helper : List CD := [bX10_helper_0, bX10_helper_1, bX10_helper_2]
theorem kX10_helper : bX10_helper.all (chkL 10 false cX10_helper bX10_helper) = true := by decide +kernel
theorem mX10_helper : MB 119 bX10_helper 1 3 := ⟨by decide, by decide +kernel, kX10_helper, rfl, rfl⟩
def bX10_watch_0 : CD := [(0, .iload 1), (1, .iconst (1)), (2, .iconst (14)), (4, .invokeinterface 99 31), (7, .ifCond .eq 1), (10, .iload 2), (11, .iconst (1)), (12, .iconst (3)), (13, .invokeinterface 99 31), (16, .ifCond .eq 1), (19, .iload 3), (20, .iconst (0)), (21, .iconst (2)), (22, .invokeinterface 99 31), (25, .ifCond .ne 2), (28, .goto_w 1)]
def bX10_watch_1 : CD := [(28, .iconst (-1)), (29, .ireturn)]
def bX10_watch_2 : CD := [(30, .aload 0), (31, .getstatic 1006), (34, .iload 1), (35, .iload 2), (36, .iload 3), (37, .invokeinterface 94 10041), (40, .ireturn)]
def bX10_watch : List CD := [bX10_watch_0, bX10_watch_1, bX10_watch_2]
theorem kX10_watch : bX10_watch.all (chkL 10 false cX10_watch bX10_watch) = true := by decide +kernel
theorem mX10_watch : MB 120 bX10_watch 1 4 := ⟨by decide, by decide +kernel, kX10_watch, rfl, rfl⟩
def bX10_watcher_0 : CD := [(0, .iload 1), (1, .iconst (0)), (2, .aload 0), (3, .getstatic 1000), (6, .getfield 17), (9, .iconst (1)), (10, .isub), (11, .invokeinterface 99 31), (14, .ifCond .eq 1), (17, .aload 0), (18, .getstatic 1000), (21, .getstatic 16), (24, .iload 1), (25, .iaload), (26, .goto 2)]
def bX10_watcher_1 : CD := [(29, .iconst (-1)), (30, .goto_w 2)]
def bX10_watcher_2 : CD := [(30, .ireturn)]
def bX10_watcher : List CD := [bX10_watcher_0, bX10_watcher_1, bX10_watcher_2]
theorem kX10_watcher : bX10_watcher.all (chkL 10 false cX10_watcher bX10_watcher) = true := by decide +kernel
theorem mX10_watcher : MB 121 bX10_watcher 1 2 := ⟨by decide, by decide +kernel, kX10_watcher, rfl, rfl⟩
def bX10_table_0 : CD := [(0, .aload 0), (1, .iload 1), (2, .iload 2), (3, .invokeinterface 124 11031), (6, .ifCond .eq 1), (9, .aload 0), (10, .getstatic 1000), (13, .iload 3), (14, .invokeinterface 2 1021), (17, .ifCond .eq 1), (20, .iload 4), (22, .iconst (0)), (23, .iconst (19)), (25, .invokeinterface 99 31), (28, .ifCond .ne 2), (31, .goto_w 1)]
def bX10_table_1 : CD := [(31, .iconst (-1)), (32, .ireturn)]
def bX10_table_2 : CD := [(33, .iload 3), (34, .iload 2), (35, .idiv), (36, .iload 4), (38, .iload 3), (39, .iload 2), (40, .irem), (41, .imul), (42, .iadd), (43, .iload 1), (44, .irem), (45, .ireturn)]
def bX10_table : List CD := [bX10_table_0, bX10_table_1, bX10_table_2]
theorem kX10_table : bX10_table.all (chkL 10 false cX10_table bX10_table) = true := by decide +kernel
theorem mX10_table : MB 122 bX10_table 1 5 := ⟨by decide, by decide +kernel, kX10_table, rfl, rfl⟩
def bX10_met_0 : CD := [(0, .aload 0), (1, .iload 1), (2, .iload 2), (3, .invokeinterface 124 11031), (6, .ifCond .eq 1), (9, .aload 0), (10, .getstatic 1000), (13, .getfield 1), (16, .ifCond .eq 1), (19, .iload 3), (20, .iconst (1)), (21, .iconst (20)), (23, .invokeinterface 99 31), (26, .ifCond .eq 1), (29, .iload 4), (31, .iconst (0)), (32, .iconst (2)), (33, .invokeinterface 99 31), (36, .ifCond .ne 2), (39, .goto_w 1)]
def bX10_met_1 : CD := [(39, .iconst (-1)), (40, .ireturn)]
def bX10_met_2 : CD := [(41, .aload 0), (42, .iload 1), (43, .iload 2), (44, .iload 3), (45, .invokeinterface 125 11041), (48, .istore 5), (50, .iload 4), (52, .ifCond .ne 3), (55, .iload 5), (57, .ireturn)]
def bX10_met_3 : CD := [(58, .aload 0), (59, .getstatic 1009), (62, .iconst (0)), (63, .iaload), (64, .istore 6), (66, .aload 0), (67, .getstatic 1009), (70, .iconst (0)), (71, .iaload), (72, .istore 7), (74, .iconst (1)), (75, .istore 8), (77, .goto_w 100077)]
def bX10_met_4 : CD := [(77, .iload 8), (79, .aload 0), (80, .getstatic 1000), (83, .getfield 1), (86, .if_icmp .ge 5), (89, .iload 6), (91, .aload 0), (92, .getstatic 1009), (95, .iload 8), (97, .iaload), (98, .fsub), (101, .istore 6), (103, .iload 7), (105, .aload 0), (106, .getstatic 1009), (109, .iload 8), (111, .iaload), (112, .fadd), (115, .istore 7), (117, .iinc 8 (1)), (120, .goto 100077)]
def bX10_met_5 : CD := [(123, .iload 4), (125, .iconst (1)), (126, .if_icmp .ne 6), (129, .iload 6), (131, .goto 7)]
def bX10_met_6 : CD := [(134, .iload 7), (136, .goto_w 7)]
def bX10_met_7 : CD := [(136, .ireturn)]
def bX10_met : List CD := [bX10_met_0, bX10_met_1, bX10_met_2, bX10_met_3, bX10_met_4, bX10_met_5, bX10_met_6, bX10_met_7]
theorem kX10_met : bX10_met.all (chkL 10 false cX10_met bX10_met) = true := by decide +kernel
theorem mX10_met : MB 123 bX10_met 1 9 := ⟨by decide, by decide +kernel, kX10_met, rfl, rfl⟩
def bX10_areTables_0 : CD := [(0, .iload 1), (1, .iconst (2)), (2, .iconst (12)), (4, .invokeinterface 99 31), (7, .ifCond .eq 1), (10, .iload 2), (11, .iconst (2)), (12, .iconst (8)), (14, .invokeinterface 99 31), (17, .ifCond .eq 1), (20, .iload 1), (21, .iload 2), (22, .imul), (23, .aload 0), (24, .getstatic 1000), (27, .getfield 1), (30, .if_icmp .lt 1), (33, .iconst (1)), (34, .goto 2)]
def bX10_areTables_1 : CD := [(37, .iconst (0)), (38, .goto_w 2)]
def bX10_areTables_2 : CD := [(38, .ireturn)]
def bX10_areTables : List CD := [bX10_areTables_0, bX10_areTables_1, bX10_areTables_2]
theorem kX10_areTables : bX10_areTables.all (chkL 10 false cX10_areTables bX10_areTables) = true := by decide +kernel
theorem mX10_areTables : MB 124 bX10_areTables 2 3 := ⟨by decide, by decide +kernel, kX10_areTables, rfl, rfl⟩
def bX10_countMeetings_0 : CD := [(0, .aload 0), (1, .getstatic 1009), (4, .iconst (0)), (5, .invokeinterface 208 20), (8, .iconst (0)), (9, .istore 4), (11, .iconst (0)), (12, .istore 5), (14, .goto_w 100014)]
def bX10_countMeetings_1 : CD := [(14, .iload 5), (16, .aload 0), (17, .getstatic 1000), (20, .getfield 1), (23, .if_icmp .ge 5), (26, .iload 5), (28, .iconst (1)), (29, .iadd), (30, .istore 6), (32, .goto_w 100032)]
def bX10_countMeetings_2 : CD := [(32, .iload 6), (34, .aload 0), (35, .getstatic 1000), (38, .getfield 1), (41, .if_icmp .ge 4), (44, .iload 5), (46, .iload 6), (48, .iload 1), (49, .iload 2), (50, .iload 3), (51, .invokeinterface 126 51), (54, .ifCond .eq 3), (57, .aload 0), (58, .getstatic 1009), (61, .iload 5), (63, .dup2), (64, .iaload), (65, .iconst (1)), (66, .iadd), (67, .iastore), (68, .aload 0), (69, .getstatic 1009), (72, .iload 6), (74, .dup2), (75, .iaload), (76, .iconst (1)), (77, .iadd), (78, .iastore), (79, .iinc 4 (1)), (82, .goto_w 3)]
def bX10_countMeetings_3 : CD := [(82, .iinc 6 (1)), (85, .goto 100032)]
def bX10_countMeetings_4 : CD := [(88, .iinc 5 (1)), (91, .goto 100014)]
def bX10_countMeetings_5 : CD := [(94, .iload 4), (96, .ireturn)]
def bX10_countMeetings : List CD := [bX10_countMeetings_0, bX10_countMeetings_1, bX10_countMeetings_2, bX10_countMeetings_3, bX10_countMeetings_4, bX10_countMeetings_5]
theorem kX10_countMeetings : bX10_countMeetings.all (chkL 10 false cX10_countMeetings bX10_countMeetings) = true := by decide +kernel
theorem mX10_countMeetings : MB 125 bX10_countMeetings 1 7 := ⟨by decide, by decide +kernel, kX10_countMeetings, rfl, rfl⟩
def bX10_doMeet_0 : CD := [(0, .iload 3), (1, .iconst (1)), (2, .if_icmp .lt 1), (5, .iload 2), (6, .iconst (1)), (7, .if_icmp .ge 2), (10, .goto_w 1)]
def bX10_doMeet_1 : CD := [(10, .iconst (0)), (11, .ireturn)]
def bX10_doMeet_2 : CD := [(12, .iload 1), (13, .iload 3), (14, .idiv), (15, .iload 0), (16, .iload 3), (17, .idiv), (18, .isub), (19, .istore 5), (21, .iload 1), (22, .iload 3), (23, .irem), (24, .iload 0), (25, .iload 3), (26, .irem), (27, .isub), (28, .istore 6), (30, .iconst (0)), (31, .istore 7), (33, .goto_w 100033)]
def bX10_doMeet_3 : CD := [(33, .iload 7), (35, .iload 4), (37, .if_icmp .ge 5), (40, .iload 5), (42, .iload 2), (43, .irem), (44, .ifCond .ne 4), (47, .iconst (1)), (48, .ireturn)]
def bX10_doMeet_4 : CD := [(49, .iload 5), (51, .iload 6), (53, .iadd), (54, .istore 5), (56, .iinc 7 (1)), (59, .goto 100033)]
def bX10_doMeet_5 : CD := [(62, .iconst (0)), (63, .ireturn)]
def bX10_doMeet : List CD := [bX10_doMeet_0, bX10_doMeet_1, bX10_doMeet_2, bX10_doMeet_3, bX10_doMeet_4, bX10_doMeet_5]
theorem kX10_doMeet : bX10_doMeet.all (chkL 10 false cX10_doMeet bX10_doMeet) = true := by decide +kernel
theorem mX10_doMeet : MB 126 bX10_doMeet 2 8 := ⟨by decide, by decide +kernel, kX10_doMeet, rfl, rfl⟩
def bX10_host_0 : CD := [(0, .aload 0), (1, .getstatic 1000), (4, .getfield 8), (7, .iconst (8)), (9, .if_icmp .lt 1), (12, .iconst (-1)), (13, .ireturn)]
def bX10_host_1 : CD := [(14, .aload 0), (15, .getstatic 1000), (18, .getfield 8), (21, .istore 1), (22, .aload 0), (23, .getstatic 1000), (26, .iload 1), (27, .iconst (1)), (28, .iadd), (29, .putfield 8), (32, .iload 1), (33, .ireturn)]
def bX10_host : List CD := [bX10_host_0, bX10_host_1]
theorem kX10_host : bX10_host.all (chkL 10 false cX10_host bX10_host) = true := by decide +kernel
theorem mX10_host : MB 127 bX10_host 1 2 := ⟨by decide, by decide +kernel, kX10_host, rfl, rfl⟩
def bX10_like_0 : CD := [(0, .aload 0), (1, .getstatic 1000), (4, .iload 1), (5, .invokeinterface 4 1021), (8, .ifCond .eq 1), (11, .aload 0), (12, .getstatic 1000), (15, .iload 2), (16, .invokeinterface 2 1021), (19, .ifCond .eq 1), (22, .iload 3), (23, .iconst (-1)), (24, .iconst (9)), (26, .invokeinterface 99 31), (29, .ifCond .ne 2), (32, .goto_w 1)]
def bX10_like_1 : CD := [(32, .iconst (0)), (33, .ireturn)]
def bX10_like_2 : CD := [(34, .aload 0), (35, .getstatic 1000), (38, .getstatic 7), (41, .iload 1), (42, .iconst (24)), (44, .imul), (45, .iload 2), (46, .iadd), (47, .iload 3), (48, .iastore), (49, .iconst (1)), (50, .ireturn)]
def bX10_like : List CD := [bX10_like_0, bX10_like_1, bX10_like_2]
theorem kX10_like : bX10_like.all (chkL 10 false cX10_like bX10_like) = true := by decide +kernel
theorem mX10_like : MB 128 bX10_like 2 4 := ⟨by decide, by decide +kernel, kX10_like, rfl, rfl⟩
def bX10_give_0 : CD := [(0, .aload 0), (1, .getstatic 1007), (4, .invokeinterface 26 4011), (7, .ireturn)]
def bX10_give : List CD := [bX10_give_0]
theorem kX10_give : bX10_give.all (chkL 10 false cX10_give bX10_give) = true := by decide +kernel
theorem mX10_give : MB 129 bX10_give 1 1 := ⟨by decide, by decide +kernel, kX10_give, rfl, rfl⟩
def bX10_mark_0 : CD := [(0, .aload 0), (1, .getstatic 1000), (4, .iload 1), (5, .invokeinterface 2 1021), (8, .ifCond .eq 1), (11, .iload 2), (12, .iconst (0)), (13, .iconst (100)), (15, .invokeinterface 99 31), (18, .ifCond .eq 1), (21, .iload 3), (22, .iconst (0)), (23, .iconst (100)), (25, .invokeinterface 99 31), (28, .ifCond .eq 1), (31, .iload 4), (33, .iconst (0)), (34, .iconst (1)), (35, .invokeinterface 99 31), (38, .ifCond .ne 2), (41, .goto_w 1)]
def bX10_mark_1 : CD := [(41, .iconst (0)), (42, .ireturn)]
def bX10_mark_2 : CD := [(43, .aload 0), (44, .getstatic 1000), (47, .getstatic 0), (50, .iload 1), (51, .aaload), (52, .astore 5), (54, .aload 5), (56, .getfield 114), (59, .ifCond .ne 3), (62, .aload 0), (63, .getstatic 1000), (66, .invokeinterface 8 1011), (69, .iconst (16)), (71, .if_icmp .lt 3), (74, .iconst (0)), (75, .ireturn)]
def bX10_mark_3 : CD := [(76, .aload 5), (78, .iconst (1)), (79, .instanceof 114), (82, .aload 5), (84, .iload 3), (85, .iload 2), (86, .isub), (87, .putfield 115), (90, .aload 5), (92, .iload 4), (94, .putfield 116), (97, .iconst (1)), (98, .ireturn)]
def bX10_mark : List CD := [bX10_mark_0, bX10_mark_1, bX10_mark_2, bX10_mark_3]
theorem kX10_mark : bX10_mark.all (chkL 10 false cX10_mark bX10_mark) = true := by decide +kernel
theorem mX10_mark : MB 130 bX10_mark 2 6 := ⟨by decide, by decide +kernel, kX10_mark, rfl, rfl⟩
def bX10_held_0 : CD := [(0, .iload 1), (1, .iconst (0)), (2, .iconst (3)), (3, .invokeinterface 99 31), (6, .ifCond .ne 1), (9, .iconst (-100000)), (12, .ireturn)]
def bX10_held_1 : CD := [(13, .aload 0), (14, .getstatic 1008), (17, .invokeinterface 37 6010), (20, .iload 1), (21, .tableswitch 5 (0) (2) #[2, 3, 4])]
def bX10_held_2 : CD := [(48, .aload 0), (49, .getstatic 1008), (52, .invokeinterface 39 6011), (55, .ireturn)]
def bX10_held_3 : CD := [(56, .aload 0), (57, .getstatic 1008), (60, .invokeinterface 38 6011), (63, .ireturn)]
def bX10_held_4 : CD := [(64, .aload 0), (65, .getstatic 1008), (68, .getfield 500), (71, .ireturn)]
def bX10_held_5 : CD := [(72, .aload 0), (73, .getstatic 1008), (76, .getfield 501), (79, .ireturn)]
def bX10_held : List CD := [bX10_held_0, bX10_held_1, bX10_held_2, bX10_held_3, bX10_held_4, bX10_held_5]
theorem kX10_held : bX10_held.all (chkL 10 false cX10_held bX10_held) = true := by decide +kernel
theorem mX10_held : MB 131 bX10_held 1 2 := ⟨by decide, by decide +kernel, kX10_held, rfl, rfl⟩
def bX10_count_0 : CD := [(0, .iload 1), (1, .tableswitch 13 (0) (11) #[1, 2, 3, 4, 5, 6, 7, 8, 9, 10, 11, 12])]
def bX10_count_1 : CD := [(64, .aload 0), (65, .getstatic 1000), (68, .getfield 1), (71, .ireturn)]
def bX10_count_2 : CD := [(72, .aload 0), (73, .getstatic 1000), (76, .getfield 4), (79, .ireturn)]
def bX10_count_3 : CD := [(80, .aload 0), (81, .getstatic 1000), (84, .invokeinterface 5 1011), (87, .ireturn)]
def bX10_count_4 : CD := [(88, .aload 0), (89, .getstatic 1000), (92, .getfield 6), (95, .ireturn)]
def bX10_count_5 : CD := [(96, .aload 0), (97, .getstatic 1000), (100, .getfield 8), (103, .ireturn)]
def bX10_count_6 : CD := [(104, .aload 0), (105, .getstatic 1000), (108, .getfield 9), (111, .ireturn)]
def bX10_count_7 : CD := [(112, .aload 0), (113, .getstatic 1000), (116, .getfield 10), (119, .ireturn)]
def bX10_count_8 : CD := [(120, .aload 0), (121, .getstatic 1000), (124, .getstatic 11), (127, .getfield 200), (130, .ireturn)]
def bX10_count_9 : CD := [(131, .aload 0), (132, .getstatic 1000), (135, .getfield 2), (138, .ireturn)]
def bX10_count_10 : CD := [(139, .aload 0), (140, .getstatic 1000), (143, .getfield 1), (146, .aload 0), (147, .getstatic 1000), (150, .iconst (-1)), (151, .invokeinterface 6 1021), (154, .isub), (155, .ireturn)]
def bX10_count_11 : CD := [(156, .aload 0), (157, .getstatic 1000), (160, .invokeinterface 7 1011), (163, .ireturn)]
def bX10_count_12 : CD := [(164, .aload 0), (165, .getstatic 1000), (168, .invokeinterface 8 1011), (171, .ireturn)]
def bX10_count_13 : CD := [(172, .iconst (-1)), (173, .ireturn)]
def bX10_count : List CD := [bX10_count_0, bX10_count_1, bX10_count_2, bX10_count_3, bX10_count_4, bX10_count_5, bX10_count_6, bX10_count_7, bX10_count_8, bX10_count_9, bX10_count_10, bX10_count_11, bX10_count_12, bX10_count_13]
theorem kX10_count : bX10_count.all (chkL 10 false cX10_count bX10_count) = true := by decide +kernel
theorem mX10_count : MB 132 bX10_count 1 2 := ⟨by decide, by decide +kernel, kX10_count, rfl, rfl⟩
def bX10_image_0 : CD := [(0, .iload 1), (1, .iconst (0)), (2, .iconst (2)), (3, .invokeinterface 99 31), (6, .ifCond .ne 1), (9, .iconst (0)), (10, .ireturn)]
def bX10_image_1 : CD := [(11, .aload 0), (12, .getstatic 1001), (15, .iload 1), (16, .aaload), (17, .astore 2), (18, .aload 2), (19, .ifnonnull 2), (22, .new 0), (25, .dup), (26, .invokeinterface 0 3899010), (29, .astore 2), (30, .aload 0), (31, .getstatic 1001), (34, .iload 1), (35, .aload 2), (36, .aastore), (37, .goto_w 2)]
def bX10_image_2 : CD := [(37, .aload 2), (38, .aload 0), (39, .getstatic 1000), (42, .invokeinterface 1 1020), (45, .iconst (1)), (46, .ireturn)]
def bX10_image : List CD := [bX10_image_0, bX10_image_1, bX10_image_2]
theorem kX10_image : bX10_image.all (chkL 10 false cX10_image bX10_image) = true := by decide +kernel
theorem mX10_image : MB 133 bX10_image 2 3 := ⟨by decide, by decide +kernel, kX10_image, rfl, rfl⟩
def bX10_again_0 : CD := [(0, .iload 1), (1, .iconst (0)), (2, .iconst (2)), (3, .invokeinterface 99 31), (6, .ifCond .ne 1), (9, .iconst (0)), (10, .ireturn)]
def bX10_again_1 : CD := [(11, .aload 0), (12, .getstatic 1001), (15, .iload 1), (16, .aaload), (17, .astore 2), (18, .aload 2), (19, .ifnonnull 2), (22, .iconst (0)), (23, .ireturn)]
def bX10_again_2 : CD := [(24, .aload 0), (25, .getstatic 1000), (28, .aload 2), (29, .invokeinterface 1 1020), (32, .iconst (1)), (33, .ireturn)]
def bX10_again : List CD := [bX10_again_0, bX10_again_1, bX10_again_2]
theorem kX10_again : bX10_again.all (chkL 10 false cX10_again bX10_again) = true := by decide +kernel
theorem mX10_again : MB 134 bX10_again 2 3 := ⟨by decide, by decide +kernel, kX10_again, rfl, rfl⟩
def bX11_init_0 : CD := [(0, .aload 0), (1, .pop), (4, .aload 0), (5, .iconst (2000)), (8, .newarray .byte), (10, .putstatic 1101), (13, .aload 0), (14, .iconst (4)), (15, .newarray .int), (17, .putstatic 1102), (20, .aload 0), (21, .iconst (4)), (22, .newarray .int), (24, .putstatic 1103), (27, .aload 0), (28, .iconst (4)), (29, .newarray .int), (31, .putstatic 1104), (34, .aload 0), (35, .iconst (4)), (36, .newarray .int), (38, .putstatic 1105), (41, .aload 0), (42, .iconst (96)), (44, .newarray .int), (46, .putstatic 1106), (49, .aload 0), (50, .iconst (96)), (52, .newarray .int), (54, .putstatic 1107), (57, .aload 0), (58, .iconst (96)), (60, .newarray .boolean), (62, .putstatic 1108), (65, .aload 0), (66, .iconst (96)), (68, .newarray .int), (70, .putstatic 1109), (73, .aload 0), (74, .iconst (96)), (76, .newarray .int), (78, .putstatic 1110), (81, .aload 0), (82, .iconst (96)), (84, .newarray .int), (86, .putstatic 1111), (89, .aload 0), (90, .iconst (96)), (92, .newarray .int), (94, .putstatic 1112), (97, .aload 0), (98, .iconst (96)), (100, .newarray .int), (102, .putstatic 1113), (105, .aload 0), (106, .iconst (96)), (108, .newarray .int), (110, .putstatic 1114), (113, .aload 0), (114, .iconst (96)), (116, .newarray .int), (118, .putstatic 1115), (121, .aload 0), (122, .iconst (96)), (124, .newarray .int), (126, .putstatic 1116), (129, .aload 0), (130, .iconst (96)), (132, .newarray .boolean), (134, .putstatic 1117), (137, .aload 0), (138, .iconst (96)), (140, .newarray .int), (142, .putstatic 1118), (145, .aload 0), (146, .iconst (4)), (147, .newarray .int), (149, .putstatic 1119), (152, .aload 0), (153, .iconst (96)), (155, .newarray .int), (157, .putstatic 1120), (160, .aload 0), (161, .iconst (4)), (162, .newarray .int), (164, .putstatic 1121), (167, .aload 0), (168, .iconst (24)), (170, .newarray .int), (172, .putstatic 1122), (175, .aload 0), (176, .iconst (4)), (177, .newarray .int), (179, .putstatic 1123), (182, .aload 0), (183, .iconst (4)), (184, .newarray .int), (186, .putstatic 1124), (189, .aload 0), (190, .iconst (4)), (191, .newarray .int), (193, .putstatic 1125), (196, .aload 0), (197, .iconst (64)), (199, .newarray .int), (201, .putstatic 1126), (204, .aload 0), (205, .iconst (256)), (208, .newarray .int), (210, .putstatic 1127), (213, .aload 0), (214, .iconst (256)), (217, .newarray .int), (219, .putstatic 1128), (222, .aload 0), (223, .iconst (256)), (226, .newarray .int), (228, .putstatic 1129), (231, .aload 0), (232, .iconst (64)), (234, .newarray .int), (236, .putstatic 1130), (239, .aload 0), (240, .iconst (64)), (242, .newarray .int), (244, .putstatic 1131), (247, .aload 0), (248, .iconst (4)), (249, .newarray .int), (251, .putstatic 1132), (254, .aload 0), (255, .iconst (24)), (257, .newarray .int), (259, .putstatic 1133), (262, .aload 0), (263, .iconst (4)), (264, .newarray .int), (266, .putstatic 1134), (269, .aload 0), (270, .iconst (56)), (272, .newarray .int), (274, .putstatic 1135), (277, .aload 0), (278, .iconst (4)), (279, .newarray .int), (281, .putstatic 1136), (284, .aload 0), (285, .iconst (768)), (288, .newarray .int), (290, .putstatic 1137), (293, .aload 0), (294, .iconst (96)), (296, .newarray .boolean), (298, .putstatic 1138), (301, .aload 0), (302, .iconst (96)), (304, .newarray .int), (306, .putstatic 1139), (309, .aload 0), (310, .iconst (96)), (312, .newarray .int), (314, .putstatic 1140), (317, .aload 0), (318, .iconst (96)), (320, .newarray .int), (322, .putstatic 1141), (325, .aload 0), (326, .iconst (24)), (328, .newarray .int), (330, .putstatic 1142), (333, .aload 0), (334, .iconst (9)), (336, .newarray .int), (338, .putstatic 1143), (341, .aload 0), (342, .iconst (24)), (344, .newarray .int), (346, .putstatic 1144), (349, .aload 0), (350, .iconst (175)), (353, .newarray .int), (355, .putstatic 1145), (358, .aload 0), (359, .iconst (6)), (361, .newarray .int), (363, .putstatic 1146), (366, .aload 0), (367, .iconst (17)), (369, .newarray .int), (371, .putstatic 1156), (374, .aload 0), (375, .iconst (64)), (377, .newarray .int), (379, .putstatic 1157), (382, .aload 0), (383, .iconst (64)), (385, .newarray .int), (387, .putstatic 1158), (390, .aload 0), (391, .iconst (64)), (393, .newarray .int), (395, .putstatic 1159), (398, .aload 0), (399, .iconst (17)), (401, .newarray .int), (403, .putstatic 1160), (406, .aload 0), (407, .iconst (17)), (409, .newarray .int), (411, .putstatic 1161), (414, .aload 0), (415, .iconst (11)), (417, .newarray .int), (419, .putstatic 1162), (422, .aload 0), (423, .iconst (61440)), (425, .newarray .boolean), (427, .putstatic 1163), (430, .aload 0), (431, .iconst (6400)), (434, .newarray .int), (436, .putstatic 1164), (439, .aload 0), (440, .iconst (16)), (442, .newarray .int), (444, .putstatic 1165), (447, .aload 0), (448, .iconst (3)), (449, .newarray .boolean), (451, .putstatic 1166), (454, .aload 0), (455, .getstatic 1104), (458, .iconst (0)), (459, .iconst (-1)), (460, .iastore), (461, .return_)]
def bX11_init : List CD := [bX11_init_0]
theorem kX11_init : bX11_init.all (chkL 11 true cX11_init bX11_init) = true := by decide +kernel
theorem mX11_init : MB 135 bX11_init 0 1 := ⟨by decide, by decide +kernel, kX11_init, rfl, rfl⟩
def bX11_in_0 : CD := [(0, .iload 0), (1, .iload 1), (2, .if_icmp .lt 1), (5, .iload 0), (6, .iload 2), (7, .if_icmp .gt 1), (10, .iconst (1)), (11, .goto 2)]
def bX11_in_1 : CD := [(14, .iconst (0)), (15, .goto_w 2)]
def bX11_in_2 : CD := [(15, .ireturn)]
def bX11_in : List CD := [bX11_in_0, bX11_in_1, bX11_in_2]
theorem kX11_in : bX11_in.all (chkL 11 false cX11_in bX11_in) = true := by decide +kernel
theorem mX11_in : MB 136 bX11_in 2 3 := ⟨by decide, by decide +kernel, kX11_in, rfl, rfl⟩
def bX11_move_0 : CD := [(0, .iconst (0)), (1, .istore 4), (3, .goto_w 100003)]
def bX11_move_1 : CD := [(3, .iload 4), (5, .iload 1), (6, .if_icmp .ge 2), (9, .aload 0), (10, .iload 1), (11, .iload 3), (12, .imul), (13, .iload 4), (15, .iadd), (16, .aload 0), (17, .iload 1), (18, .iload 2), (19, .imul), (20, .iload 4), (22, .iadd), (23, .iaload), (24, .iastore), (25, .iinc 4 (1)), (28, .goto 100003)]
def bX11_move_2 : CD := [(31, .return_)]
def bX11_move : List CD := [bX11_move_0, bX11_move_1, bX11_move_2]
theorem kX11_move : bX11_move.all (chkL 11 false cX11_move bX11_move) = true := by decide +kernel
theorem mX11_move : MB 137 bX11_move 0 5 := ⟨by decide, by decide +kernel, kX11_move, rfl, rfl⟩
def bX11_moveBits_0 : CD := [(0, .iconst (0)), (1, .istore 4), (3, .goto_w 100003)]
def bX11_moveBits_1 : CD := [(3, .iload 4), (5, .iload 1), (6, .if_icmp .ge 2), (9, .aload 0), (10, .iload 1), (11, .iload 3), (12, .imul), (13, .iload 4), (15, .iadd), (16, .aload 0), (17, .iload 1), (18, .iload 2), (19, .imul), (20, .iload 4), (22, .iadd), (23, .baload), (24, .bastore), (25, .iinc 4 (1)), (28, .goto 100003)]
def bX11_moveBits_2 : CD := [(31, .return_)]
def bX11_moveBits : List CD := [bX11_moveBits_0, bX11_moveBits_1, bX11_moveBits_2]
theorem kX11_moveBits : bX11_moveBits.all (chkL 11 false cX11_moveBits bX11_moveBits) = true := by decide +kernel
theorem mX11_moveBits : MB 138 bX11_moveBits 0 5 := ⟨by decide, by decide +kernel, kX11_moveBits, rfl, rfl⟩
def bX11_copy_0 : CD := [(0, .iconst (0)), (1, .istore 3), (2, .goto_w 100002)]
def bX11_copy_1 : CD := [(2, .iload 3), (3, .iconst (500)), (6, .if_icmp .ge 2), (9, .aload 0), (10, .getstatic 1101), (13, .iconst (500)), (16, .iload 2), (17, .imul), (18, .iload 3), (19, .iadd), (20, .aload 0), (21, .getstatic 1101), (24, .iconst (500)), (27, .iload 1), (28, .imul), (29, .iload 3), (30, .iadd), (31, .baload), (32, .bastore), (33, .iinc 3 (1)), (36, .goto 100002)]
def bX11_copy_2 : CD := [(39, .aload 0), (40, .getstatic 1102), (43, .iconst (1)), (44, .iload 1), (45, .iload 2), (46, .invokeinterface 137 40), (49, .aload 0), (50, .getstatic 1103), (53, .iconst (1)), (54, .iload 1), (55, .iload 2), (56, .invokeinterface 137 40), (59, .aload 0), (60, .getstatic 1104), (63, .iconst (1)), (64, .iload 1), (65, .iload 2), (66, .invokeinterface 137 40), (69, .aload 0), (70, .getstatic 1105), (73, .iconst (1)), (74, .iload 1), (75, .iload 2), (76, .invokeinterface 137 40), (79, .aload 0), (80, .getstatic 1106), (83, .iconst (24)), (85, .iload 1), (86, .iload 2), (87, .invokeinterface 137 40), (90, .aload 0), (91, .getstatic 1107), (94, .iconst (24)), (96, .iload 1), (97, .iload 2), (98, .invokeinterface 137 40), (101, .aload 0), (102, .getstatic 1108), (105, .iconst (24)), (107, .iload 1), (108, .iload 2), (109, .invokeinterface 138 40), (112, .aload 0), (113, .getstatic 1109), (116, .iconst (24)), (118, .iload 1), (119, .iload 2), (120, .invokeinterface 137 40), (123, .aload 0), (124, .getstatic 1110), (127, .iconst (24)), (129, .iload 1), (130, .iload 2), (131, .invokeinterface 137 40), (134, .aload 0), (135, .getstatic 1111), (138, .iconst (24)), (140, .iload 1), (141, .iload 2), (142, .invokeinterface 137 40), (145, .aload 0), (146, .getstatic 1112), (149, .iconst (24)), (151, .iload 1), (152, .iload 2), (153, .invokeinterface 137 40), (156, .aload 0), (157, .getstatic 1113), (160, .iconst (24)), (162, .iload 1), (163, .iload 2), (164, .invokeinterface 137 40), (167, .aload 0), (168, .getstatic 1114), (171, .iconst (24)), (173, .iload 1), (174, .iload 2), (175, .invokeinterface 137 40), (178, .aload 0), (179, .getstatic 1115), (182, .iconst (24)), (184, .iload 1), (185, .iload 2), (186, .invokeinterface 137 40), (189, .aload 0), (190, .getstatic 1116), (193, .iconst (24)), (195, .iload 1), (196, .iload 2), (197, .invokeinterface 137 40), (200, .aload 0), (201, .getstatic 1117), (204, .iconst (24)), (206, .iload 1), (207, .iload 2), (208, .invokeinterface 138 40), (211, .aload 0), (212, .getstatic 1118), (215, .iconst (24)), (217, .iload 1), (218, .iload 2), (219, .invokeinterface 137 40), (222, .aload 0), (223, .getstatic 1119), (226, .iconst (1)), (227, .iload 1), (228, .iload 2), (229, .invokeinterface 137 40), (232, .aload 0), (233, .getstatic 1120), (236, .iconst (24)), (238, .iload 1), (239, .iload 2), (240, .invokeinterface 137 40), (243, .aload 0), (244, .getstatic 1121), (247, .iconst (1)), (248, .iload 1), (249, .iload 2), (250, .invokeinterface 137 40), (253, .aload 0), (254, .getstatic 1122), (257, .iconst (6)), (259, .iload 1), (260, .iload 2), (261, .invokeinterface 137 40), (264, .aload 0), (265, .getstatic 1123), (268, .iconst (1)), (269, .iload 1), (270, .iload 2), (271, .invokeinterface 137 40), (274, .aload 0), (275, .getstatic 1124), (278, .iconst (1)), (279, .iload 1), (280, .iload 2), (281, .invokeinterface 137 40), (284, .aload 0), (285, .getstatic 1125), (288, .iconst (1)), (289, .iload 1), (290, .iload 2), (291, .invokeinterface 137 40), (294, .aload 0), (295, .getstatic 1126), (298, .iconst (16)), (300, .iload 1), (301, .iload 2), (302, .invokeinterface 137 40), (305, .aload 0), (306, .getstatic 1127), (309, .iconst (64)), (311, .iload 1), (312, .iload 2), (313, .invokeinterface 137 40), (316, .aload 0), (317, .getstatic 1128), (320, .iconst (64)), (322, .iload 1), (323, .iload 2), (324, .invokeinterface 137 40), (327, .aload 0), (328, .getstatic 1129), (331, .iconst (64)), (333, .iload 1), (334, .iload 2), (335, .invokeinterface 137 40), (338, .aload 0), (339, .getstatic 1130), (342, .iconst (16)), (344, .iload 1), (345, .iload 2), (346, .invokeinterface 137 40), (349, .aload 0), (350, .getstatic 1131), (353, .iconst (16)), (355, .iload 1), (356, .iload 2), (357, .invokeinterface 137 40), (360, .aload 0), (361, .getstatic 1132), (364, .iconst (1)), (365, .iload 1), (366, .iload 2), (367, .invokeinterface 137 40), (370, .aload 0), (371, .getstatic 1133), (374, .iconst (6)), (376, .iload 1), (377, .iload 2), (378, .invokeinterface 137 40), (381, .aload 0), (382, .getstatic 1134), (385, .iconst (1)), (386, .iload 1), (387, .iload 2), (388, .invokeinterface 137 40), (391, .aload 0), (392, .getstatic 1135), (395, .iconst (14)), (397, .iload 1), (398, .iload 2), (399, .invokeinterface 137 40), (402, .aload 0), (403, .getstatic 1136), (406, .iconst (1)), (407, .iload 1), (408, .iload 2), (409, .invokeinterface 137 40), (412, .aload 0), (413, .getstatic 1137), (416, .iconst (192)), (419, .iload 1), (420, .iload 2), (421, .invokeinterface 137 40), (424, .aload 0), (425, .getstatic 1138), (428, .iconst (24)), (430, .iload 1), (431, .iload 2), (432, .invokeinterface 138 40), (435, .aload 0), (436, .getstatic 1139), (439, .iconst (24)), (441, .iload 1), (442, .iload 2), (443, .invokeinterface 137 40), (446, .aload 0), (447, .getstatic 1140), (450, .iconst (24)), (452, .iload 1), (453, .iload 2), (454, .invokeinterface 137 40), (457, .aload 0), (458, .getstatic 1141), (461, .iconst (24)), (463, .iload 1), (464, .iload 2), (465, .invokeinterface 137 40), (468, .return_)]
def bX11_copy : List CD := [bX11_copy_0, bX11_copy_1, bX11_copy_2]
theorem kX11_copy : bX11_copy.all (chkL 11 false cX11_copy bX11_copy) = true := by decide +kernel
theorem mX11_copy : MB 139 bX11_copy 0 4 := ⟨by decide, by decide +kernel, kX11_copy, rfl, rfl⟩
def bX11_isChild_0 : CD := [(0, .iload 1), (1, .iconst (0)), (2, .aload 0), (3, .getstatic 1105), (6, .iconst (0)), (7, .iaload), (8, .iconst (1)), (9, .isub), (10, .invokeinterface 136 31), (13, .ireturn)]
def bX11_isChild : List CD := [bX11_isChild_0]
theorem kX11_isChild : bX11_isChild.all (chkL 11 false cX11_isChild bX11_isChild) = true := by decide +kernel
theorem mX11_isChild : MB 140 bX11_isChild 2 2 := ⟨by decide, by decide +kernel, kX11_isChild, rfl, rfl⟩
def bX11_isCabin_0 : CD := [(0, .iload 1), (1, .iconst (0)), (2, .aload 0), (3, .getstatic 1121), (6, .iconst (0)), (7, .iaload), (8, .iconst (1)), (9, .isub), (10, .invokeinterface 136 31), (13, .ireturn)]
def bX11_isCabin : List CD := [bX11_isCabin_0]
theorem kX11_isCabin : bX11_isCabin.all (chkL 11 false cX11_isCabin bX11_isCabin) = true := by decide +kernel
theorem mX11_isCabin : MB 141 bX11_isCabin 2 2 := ⟨by decide, by decide +kernel, kX11_isCabin, rfl, rfl⟩
def bX11_child_0 : CD := [(0, .aload 0), (1, .iconst (0)), (2, .putfield 1100), (5, .aload 0), (6, .getstatic 1105), (9, .iconst (0)), (10, .iaload), (11, .iconst (24)), (13, .if_icmp .eq 1), (16, .iload 1), (17, .iconst (0)), (18, .iconst (5)), (19, .invokeinterface 136 31), (22, .ifCond .eq 1), (25, .iload 2), (26, .iconst (8)), (28, .iconst (17)), (30, .invokeinterface 136 31), (33, .ifCond .ne 2), (36, .goto_w 1)]
def bX11_child_1 : CD := [(36, .iconst (-1)), (37, .ireturn)]
def bX11_child_2 : CD := [(38, .aload 0), (39, .getstatic 1105), (42, .iconst (0)), (43, .iaload), (44, .istore 4), (46, .aload 0), (47, .getstatic 1105), (50, .iconst (0)), (51, .dup2), (52, .iaload), (53, .iconst (1)), (54, .iadd), (55, .iastore), (56, .aload 0), (57, .getstatic 1106), (60, .iload 4), (62, .iload 1), (63, .iastore), (64, .aload 0), (65, .getstatic 1107), (68, .iload 4), (70, .iload 2), (71, .iastore), (72, .aload 0), (73, .getstatic 1108), (76, .iload 4), (78, .iload 3), (79, .bastore), (80, .aload 0), (81, .getstatic 1109), (84, .iload 4), (86, .iconst (-1)), (87, .iastore), (88, .aload 0), (89, .getstatic 1110), (92, .iload 4), (94, .iconst (0)), (95, .iastore), (96, .aload 0), (97, .getstatic 1111), (100, .iload 4), (102, .iconst (10)), (104, .iastore), (105, .aload 0), (106, .getstatic 1112), (109, .iload 4), (111, .iconst (0)), (112, .iastore), (113, .aload 0), (114, .getstatic 1113), (117, .iload 4), (119, .iconst (-1)), (120, .iastore), (121, .aload 0), (122, .getstatic 1114), (125, .iload 4), (127, .iconst (10)), (129, .iastore), (130, .aload 0), (131, .getstatic 1115), (134, .iload 4), (136, .iconst (0)), (137, .iastore), (138, .aload 0), (139, .getstatic 1116), (142, .iload 4), (144, .iconst (0)), (145, .iastore), (146, .aload 0), (147, .getstatic 1117), (150, .iload 4), (152, .iconst (0)), (153, .bastore), (154, .aload 0), (155, .getstatic 1118), (158, .iload 4), (160, .iconst (-1)), (161, .iastore), (162, .aload 0), (163, .getstatic 1120), (166, .iload 4), (168, .iconst (0)), (169, .iastore), (170, .aload 0), (171, .getstatic 1138), (174, .iload 4), (176, .iconst (0)), (177, .bastore), (178, .iconst (0)), (179, .istore 5), (181, .goto_w 100181)]
def bX11_child_3 : CD := [(181, .iload 5), (183, .iconst (8)), (185, .if_icmp .ge 4), (188, .aload 0), (189, .getstatic 1137), (192, .iconst (24)), (194, .iload 5), (196, .imul), (197, .iload 4), (199, .iadd), (200, .iconst (0)), (201, .iastore), (202, .iinc 5 (1)), (205, .goto 100181)]
def bX11_child_4 : CD := [(208, .iload 4), (210, .ireturn)]
def bX11_child : List CD := [bX11_child_0, bX11_child_1, bX11_child_2, bX11_child_3, bX11_child_4]
theorem kX11_child : bX11_child.all (chkL 11 false cX11_child bX11_child) = true := by decide +kernel
theorem mX11_child : MB 142 bX11_child 1 6 := ⟨by decide, by decide +kernel, kX11_child, rfl, rfl⟩
def bX11_areBarred_0 : CD := [(0, .aload 0), (1, .getstatic 1120), (4, .iload 1), (5, .iaload), (6, .iload 2), (7, .ishr), (8, .iconst (1)), (9, .iand), (10, .ifCond .eq 1), (13, .iconst (1)), (14, .goto 2)]
def bX11_areBarred_1 : CD := [(17, .iconst (0)), (18, .goto_w 2)]
def bX11_areBarred_2 : CD := [(18, .ireturn)]
def bX11_areBarred : List CD := [bX11_areBarred_0, bX11_areBarred_1, bX11_areBarred_2]
theorem kX11_areBarred : bX11_areBarred.all (chkL 11 false cX11_areBarred bX11_areBarred) = true := by decide +kernel
theorem mX11_areBarred : MB 143 bX11_areBarred 2 3 := ⟨by decide, by decide +kernel, kX11_areBarred, rfl, rfl⟩
def bX11_bar_0 : CD := [(0, .aload 0), (1, .iconst (0)), (2, .putfield 1100), (5, .aload 0), (6, .iload 1), (7, .invokeinterface 140 12021), (10, .ifCond .eq 1), (13, .aload 0), (14, .iload 2), (15, .invokeinterface 140 12021), (18, .ifCond .eq 1), (21, .iload 1), (22, .iload 2), (23, .if_icmp .eq 1), (26, .aload 0), (27, .iload 1), (28, .iload 2), (29, .invokeinterface 143 12031), (32, .ifCond .ne 1), (35, .aload 0), (36, .getstatic 1119), (39, .iconst (0)), (40, .iaload), (41, .iconst (30)), (43, .if_icmp .ne 2), (46, .goto_w 1)]
def bX11_bar_1 : CD := [(46, .iconst (0)), (47, .ireturn)]
def bX11_bar_2 : CD := [(48, .aload 0), (49, .getstatic 1120), (52, .iload 1), (53, .dup2), (54, .iaload), (55, .iconst (1)), (56, .iload 2), (57, .ishl), (58, .ior), (59, .iastore), (60, .aload 0), (61, .getstatic 1120), (64, .iload 2), (65, .dup2), (66, .iaload), (67, .iconst (1)), (68, .iload 1), (69, .ishl), (70, .ior), (71, .iastore), (72, .aload 0), (73, .getstatic 1119), (76, .iconst (0)), (77, .dup2), (78, .iaload), (79, .iconst (1)), (80, .iadd), (81, .iastore), (82, .iconst (1)), (83, .ireturn)]
def bX11_bar : List CD := [bX11_bar_0, bX11_bar_1, bX11_bar_2]
theorem kX11_bar : bX11_bar.all (chkL 11 false cX11_bar bX11_bar) = true := by decide +kernel
theorem mX11_bar : MB 144 bX11_bar 2 3 := ⟨by decide, by decide +kernel, kX11_bar, rfl, rfl⟩
def bX11_cabin_0 : CD := [(0, .aload 0), (1, .iconst (0)), (2, .putfield 1100), (5, .aload 0), (6, .getstatic 1121), (9, .iconst (0)), (10, .iaload), (11, .iconst (6)), (13, .if_icmp .eq 1), (16, .iload 1), (17, .iconst (1)), (18, .iconst (8)), (20, .invokeinterface 136 31), (23, .ifCond .ne 2), (26, .goto_w 1)]
def bX11_cabin_1 : CD := [(26, .iconst (-1)), (27, .ireturn)]
def bX11_cabin_2 : CD := [(28, .aload 0), (29, .getstatic 1122), (32, .aload 0), (33, .getstatic 1121), (36, .iconst (0)), (37, .iaload), (38, .iload 1), (39, .iastore), (40, .aload 0), (41, .getstatic 1121), (44, .iconst (0)), (45, .dup2), (46, .iaload), (47, .iconst (1)), (48, .iadd), (49, .iastore), (50, .aload 0), (51, .getstatic 1121), (54, .iconst (0)), (55, .iaload), (56, .iconst (1)), (57, .isub), (58, .ireturn)]
def bX11_cabin : List CD := [bX11_cabin_0, bX11_cabin_1, bX11_cabin_2]
theorem kX11_cabin : bX11_cabin.all (chkL 11 false cX11_cabin bX11_cabin) = true := by decide +kernel
theorem mX11_cabin : MB 145 bX11_cabin 1 2 := ⟨by decide, by decide +kernel, kX11_cabin, rfl, rfl⟩
def bX11_lying_0 : CD := [(0, .iconst (0)), (1, .istore 2), (2, .iconst (0)), (3, .istore 3), (4, .goto_w 100004)]
def bX11_lying_1 : CD := [(4, .iload 3), (5, .aload 0), (6, .getstatic 1105), (9, .iconst (0)), (10, .iaload), (11, .if_icmp .ge 4), (14, .iload 2), (15, .aload 0), (16, .getstatic 1109), (19, .iload 3), (20, .iaload), (21, .iload 1), (22, .if_icmp .ne 2), (25, .iconst (1)), (26, .goto 3)]
def bX11_lying_2 : CD := [(29, .iconst (0)), (30, .goto_w 3)]
def bX11_lying_3 : CD := [(30, .iadd), (31, .istore 2), (32, .iinc 3 (1)), (35, .goto 100004)]
def bX11_lying_4 : CD := [(38, .iload 2), (39, .ireturn)]
def bX11_lying : List CD := [bX11_lying_0, bX11_lying_1, bX11_lying_2, bX11_lying_3, bX11_lying_4]
theorem kX11_lying : bX11_lying.all (chkL 11 false cX11_lying bX11_lying) = true := by decide +kernel
theorem mX11_lying : MB 146 bX11_lying 1 4 := ⟨by decide, by decide +kernel, kX11_lying, rfl, rfl⟩
def bX11_lie_0 : CD := [(0, .aload 0), (1, .iconst (0)), (2, .putfield 1100), (5, .aload 0), (6, .iload 1), (7, .invokeinterface 140 12021), (10, .ifCond .eq 2), (13, .iload 2), (14, .iconst (-1)), (15, .if_icmp .eq 1), (18, .aload 0), (19, .iload 2), (20, .invokeinterface 141 12021), (23, .ifCond .eq 2), (26, .goto_w 1)]
def bX11_lie_1 : CD := [(26, .aload 0), (27, .getstatic 1109), (30, .iload 1), (31, .iaload), (32, .iload 2), (33, .if_icmp .eq 2), (36, .iload 2), (37, .iconst (-1)), (38, .if_icmp .eq 3), (41, .aload 0), (42, .iload 2), (43, .invokeinterface 146 12021), (46, .aload 0), (47, .getstatic 1122), (50, .iload 2), (51, .iaload), (52, .if_icmp .ne 3), (55, .goto_w 2)]
def bX11_lie_2 : CD := [(55, .iconst (0)), (56, .ireturn)]
def bX11_lie_3 : CD := [(57, .aload 0), (58, .getstatic 1109), (61, .iload 1), (62, .iload 2), (63, .iastore), (64, .iconst (1)), (65, .ireturn)]
def bX11_lie : List CD := [bX11_lie_0, bX11_lie_1, bX11_lie_2, bX11_lie_3]
theorem kX11_lie : bX11_lie.all (chkL 11 false cX11_lie bX11_lie) = true := by decide +kernel
theorem mX11_lie : MB 147 bX11_lie 2 3 := ⟨by decide, by decide +kernel, kX11_lie, rfl, rfl⟩
def bX11_pairCost_0 : CD := [(0, .aload 0), (1, .getstatic 1107), (4, .iload 1), (5, .iaload), (6, .aload 0), (7, .getstatic 1107), (10, .iload 2), (11, .iaload), (12, .if_icmp .ge 1), (15, .aload 0), (16, .getstatic 1107), (19, .iload 2), (20, .iaload), (21, .aload 0), (22, .getstatic 1107), (25, .iload 1), (26, .iaload), (27, .isub), (28, .goto 2)]
def bX11_pairCost_1 : CD := [(31, .aload 0), (32, .getstatic 1107), (35, .iload 1), (36, .iaload), (37, .aload 0), (38, .getstatic 1107), (41, .iload 2), (42, .iaload), (43, .isub), (44, .goto_w 2)]
def bX11_pairCost_2 : CD := [(44, .istore 3), (45, .aload 0), (46, .getstatic 1106), (49, .iload 1), (50, .iaload), (51, .aload 0), (52, .getstatic 1106), (55, .iload 2), (56, .iaload), (57, .if_icmp .ne 3), (60, .iconst (30)), (62, .goto 4)]
def bX11_pairCost_3 : CD := [(65, .iconst (0)), (66, .goto_w 4)]
def bX11_pairCost_4 : CD := [(66, .aload 0), (67, .iload 1), (68, .iload 2), (69, .invokeinterface 143 12031), (72, .ifCond .eq 5), (75, .iconst (300)), (78, .goto 6)]
def bX11_pairCost_5 : CD := [(81, .iconst (0)), (82, .goto_w 6)]
def bX11_pairCost_6 : CD := [(82, .iadd), (83, .iload 3), (84, .iconst (2)), (85, .if_icmp .le 7), (88, .iconst (5)), (89, .iload 3), (90, .iconst (2)), (91, .isub), (92, .imul), (93, .goto 8)]
def bX11_pairCost_7 : CD := [(96, .iconst (0)), (97, .goto_w 8)]
def bX11_pairCost_8 : CD := [(97, .iadd), (98, .ireturn)]
def bX11_pairCost : List CD := [bX11_pairCost_0, bX11_pairCost_1, bX11_pairCost_2, bX11_pairCost_3, bX11_pairCost_4, bX11_pairCost_5, bX11_pairCost_6, bX11_pairCost_7, bX11_pairCost_8]
theorem kX11_pairCost : bX11_pairCost.all (chkL 11 false cX11_pairCost bX11_pairCost) = true := by decide +kernel
theorem mX11_pairCost : MB 148 bX11_pairCost 1 4 := ⟨by decide, by decide +kernel, kX11_pairCost, rfl, rfl⟩
def bX11_costOf_0 : CD := [(0, .iconst (0)), (1, .istore 2), (2, .iconst (0)), (3, .istore 3), (4, .iconst (0)), (5, .istore 4), (7, .goto_w 100007)]
def bX11_costOf_1 : CD := [(7, .iload 4), (9, .aload 0), (10, .getstatic 1105), (13, .iconst (0)), (14, .iaload), (15, .if_icmp .ge 9), (18, .aload 0), (19, .getstatic 1109), (22, .iload 4), (24, .iaload), (25, .iload 1), (26, .if_icmp .eq 2), (29, .goto 8)]
def bX11_costOf_2 : CD := [(32, .iload 3), (33, .aload 0), (34, .getstatic 1108), (37, .iload 4), (39, .baload), (40, .ifCond .eq 3), (43, .iconst (1)), (44, .goto 4)]
def bX11_costOf_3 : CD := [(47, .iconst (0)), (48, .goto_w 4)]
def bX11_costOf_4 : CD := [(48, .iadd), (49, .istore 3), (50, .iload 4), (52, .iconst (1)), (53, .iadd), (54, .istore 5), (56, .goto_w 100056)]
def bX11_costOf_5 : CD := [(56, .iload 5), (58, .aload 0), (59, .getstatic 1105), (62, .iconst (0)), (63, .iaload), (64, .if_icmp .ge 8), (67, .iload 2), (68, .aload 0), (69, .getstatic 1109), (72, .iload 5), (74, .iaload), (75, .iload 1), (76, .if_icmp .ne 6), (79, .aload 0), (80, .iload 4), (82, .iload 5), (84, .invokeinterface 148 12031), (87, .goto 7)]
def bX11_costOf_6 : CD := [(90, .iconst (0)), (91, .goto_w 7)]
def bX11_costOf_7 : CD := [(91, .iadd), (92, .istore 2), (93, .iinc 5 (1)), (96, .goto 100056)]
def bX11_costOf_8 : CD := [(99, .iinc 4 (1)), (102, .goto 100007)]
def bX11_costOf_9 : CD := [(105, .iload 3), (106, .iconst (1)), (107, .if_icmp .ne 10), (110, .iload 2), (111, .iconst (12)), (113, .iadd), (114, .goto 11)]
def bX11_costOf_10 : CD := [(117, .iload 2), (118, .goto_w 11)]
def bX11_costOf_11 : CD := [(118, .ireturn)]
def bX11_costOf : List CD := [bX11_costOf_0, bX11_costOf_1, bX11_costOf_2, bX11_costOf_3, bX11_costOf_4, bX11_costOf_5, bX11_costOf_6, bX11_costOf_7, bX11_costOf_8, bX11_costOf_9, bX11_costOf_10, bX11_costOf_11]
theorem kX11_costOf : bX11_costOf.all (chkL 11 false cX11_costOf bX11_costOf) = true := by decide +kernel
theorem mX11_costOf : MB 149 bX11_costOf 1 6 := ⟨by decide, by decide +kernel, kX11_costOf, rfl, rfl⟩
def bX11_allCost_0 : CD := [(0, .iconst (0)), (1, .istore 1), (2, .iconst (0)), (3, .istore 2), (4, .goto_w 100004)]
def bX11_allCost_1 : CD := [(4, .iload 2), (5, .aload 0), (6, .getstatic 1121), (9, .iconst (0)), (10, .iaload), (11, .if_icmp .ge 2), (14, .iload 1), (15, .aload 0), (16, .iload 2), (17, .invokeinterface 149 12021), (20, .iadd), (21, .istore 1), (22, .iinc 2 (1)), (25, .goto 100004)]
def bX11_allCost_2 : CD := [(28, .iload 1), (29, .ireturn)]
def bX11_allCost : List CD := [bX11_allCost_0, bX11_allCost_1, bX11_allCost_2]
theorem kX11_allCost : bX11_allCost.all (chkL 11 false cX11_allCost bX11_allCost) = true := by decide +kernel
theorem mX11_allCost : MB 150 bX11_allCost 1 3 := ⟨by decide, by decide +kernel, kX11_allCost, rfl, rfl⟩
def bX11_allBeds_0 : CD := [(0, .iconst (0)), (1, .istore 1), (2, .iconst (0)), (3, .istore 2), (4, .goto_w 100004)]
def bX11_allBeds_1 : CD := [(4, .iload 2), (5, .aload 0), (6, .getstatic 1121), (9, .iconst (0)), (10, .iaload), (11, .if_icmp .ge 2), (14, .iload 1), (15, .aload 0), (16, .getstatic 1122), (19, .iload 2), (20, .iaload), (21, .iadd), (22, .istore 1), (23, .iinc 2 (1)), (26, .goto 100004)]
def bX11_allBeds_2 : CD := [(29, .iload 1), (30, .ireturn)]
def bX11_allBeds : List CD := [bX11_allBeds_0, bX11_allBeds_1, bX11_allBeds_2]
theorem kX11_allBeds : bX11_allBeds.all (chkL 11 false cX11_allBeds bX11_allBeds) = true := by decide +kernel
theorem mX11_allBeds : MB 151 bX11_allBeds 1 3 := ⟨by decide, by decide +kernel, kX11_allBeds, rfl, rfl⟩
def bX11_house_0 : CD := [(0, .aload 0), (1, .iconst (0)), (2, .putfield 1100), (5, .aload 0), (6, .invokeinterface 151 12011), (9, .aload 0), (10, .getstatic 1105), (13, .iconst (0)), (14, .iaload), (15, .if_icmp .ge 1), (18, .iconst (-1)), (19, .ireturn)]
def bX11_house_1 : CD := [(20, .iconst (0)), (21, .istore 1), (22, .goto_w 100022)]
def bX11_house_2 : CD := [(22, .iload 1), (23, .aload 0), (24, .getstatic 1105), (27, .iconst (0)), (28, .iaload), (29, .if_icmp .ge 3), (32, .aload 0), (33, .getstatic 1109), (36, .iload 1), (37, .iconst (-1)), (38, .iastore), (39, .iinc 1 (1)), (42, .goto 100022)]
def bX11_house_3 : CD := [(45, .iconst (0)), (46, .istore 1), (47, .goto_w 100047)]
def bX11_house_4 : CD := [(47, .iload 1), (48, .aload 0), (49, .getstatic 1105), (52, .iconst (0)), (53, .iaload), (54, .if_icmp .ge 10), (57, .iconst (-1)), (58, .istore 2), (59, .iconst (0)), (60, .istore 3), (61, .iconst (0)), (62, .istore 4), (64, .goto_w 100064)]
def bX11_house_5 : CD := [(64, .iload 4), (66, .aload 0), (67, .getstatic 1121), (70, .iconst (0)), (71, .iaload), (72, .if_icmp .ge 9), (75, .aload 0), (76, .iload 4), (78, .invokeinterface 146 12021), (81, .aload 0), (82, .getstatic 1122), (85, .iload 4), (87, .iaload), (88, .if_icmp .ne 6), (91, .goto 8)]
def bX11_house_6 : CD := [(94, .aload 0), (95, .getstatic 1109), (98, .iload 1), (99, .iload 4), (101, .iastore), (102, .aload 0), (103, .invokeinterface 150 12011), (106, .istore 5), (108, .aload 0), (109, .getstatic 1109), (112, .iload 1), (113, .iconst (-1)), (114, .iastore), (115, .iload 2), (116, .iconst (-1)), (117, .if_icmp .eq 7), (120, .iload 5), (122, .iload 3), (123, .if_icmp .ge 8), (126, .goto_w 7)]
def bX11_house_7 : CD := [(126, .iload 4), (128, .istore 2), (129, .iload 5), (131, .istore 3), (132, .goto_w 8)]
def bX11_house_8 : CD := [(132, .iinc 4 (1)), (135, .goto 100064)]
def bX11_house_9 : CD := [(138, .aload 0), (139, .getstatic 1109), (142, .iload 1), (143, .iload 2), (144, .iastore), (145, .iinc 1 (1)), (148, .goto 100047)]
def bX11_house_10 : CD := [(151, .aload 0), (152, .invokeinterface 150 12011), (155, .ireturn)]
def bX11_house : List CD := [bX11_house_0, bX11_house_1, bX11_house_2, bX11_house_3, bX11_house_4, bX11_house_5, bX11_house_6, bX11_house_7, bX11_house_8, bX11_house_9, bX11_house_10]
theorem kX11_house : bX11_house.all (chkL 11 false cX11_house bX11_house) = true := by decide +kernel
theorem mX11_house : MB 152 bX11_house 1 6 := ⟨by decide, by decide +kernel, kX11_house, rfl, rfl⟩
def bX11_oneStep_0 : CD := [(0, .aload 0), (1, .invokeinterface 150 12011), (4, .istore 1), (5, .iload 1), (6, .istore 2), (7, .iconst (-1)), (8, .istore 3), (9, .iconst (-1)), (10, .istore 4), (12, .iconst (-1)), (13, .istore 5), (15, .iconst (0)), (16, .istore 6), (18, .goto_w 100018)]
def bX11_oneStep_1 : CD := [(18, .iload 6), (20, .aload 0), (21, .getstatic 1105), (24, .iconst (0)), (25, .iaload), (26, .if_icmp .ge 6), (29, .iload 6), (31, .iconst (1)), (32, .iadd), (33, .istore 7), (35, .goto_w 100035)]
def bX11_oneStep_2 : CD := [(35, .iload 7), (37, .aload 0), (38, .getstatic 1105), (41, .iconst (0)), (42, .iaload), (43, .if_icmp .ge 5), (46, .aload 0), (47, .getstatic 1109), (50, .iload 6), (52, .iaload), (53, .istore 8), (55, .aload 0), (56, .getstatic 1109), (59, .iload 7), (61, .iaload), (62, .istore 9), (64, .iload 8), (66, .iconst (-1)), (67, .if_icmp .eq 4), (70, .iload 9), (72, .iconst (-1)), (73, .if_icmp .eq 4), (76, .iload 8), (78, .iload 9), (80, .if_icmp .ne 3), (83, .goto 4)]
def bX11_oneStep_3 : CD := [(86, .aload 0), (87, .iload 8), (89, .invokeinterface 149 12021), (92, .aload 0), (93, .iload 9), (95, .invokeinterface 149 12021), (98, .iadd), (99, .istore 10), (101, .aload 0), (102, .getstatic 1109), (105, .iload 6), (107, .iload 9), (109, .iastore), (110, .aload 0), (111, .getstatic 1109), (114, .iload 7), (116, .iload 8), (118, .iastore), (119, .iload 1), (120, .iload 10), (122, .isub), (123, .aload 0), (124, .iload 8), (126, .invokeinterface 149 12021), (129, .iadd), (130, .aload 0), (131, .iload 9), (133, .invokeinterface 149 12021), (136, .iadd), (137, .istore 11), (139, .aload 0), (140, .getstatic 1109), (143, .iload 6), (145, .iload 8), (147, .iastore), (148, .aload 0), (149, .getstatic 1109), (152, .iload 7), (154, .iload 9), (156, .iastore), (157, .iload 11), (159, .iload 2), (160, .if_icmp .ge 4), (163, .iload 11), (165, .istore 2), (166, .iload 6), (168, .istore 3), (169, .iload 7), (171, .istore 4), (173, .goto_w 4)]
def bX11_oneStep_4 : CD := [(173, .iinc 7 (1)), (176, .goto 100035)]
def bX11_oneStep_5 : CD := [(179, .iinc 6 (1)), (182, .goto 100018)]
def bX11_oneStep_6 : CD := [(185, .iconst (0)), (186, .istore 6), (188, .goto_w 100188)]
def bX11_oneStep_7 : CD := [(188, .iload 6), (190, .aload 0), (191, .getstatic 1105), (194, .iconst (0)), (195, .iaload), (196, .if_icmp .ge 12), (199, .aload 0), (200, .getstatic 1109), (203, .iload 6), (205, .iaload), (206, .istore 7), (208, .iconst (0)), (209, .istore 8), (211, .goto_w 100211)]
def bX11_oneStep_8 : CD := [(211, .iload 8), (213, .aload 0), (214, .getstatic 1121), (217, .iconst (0)), (218, .iaload), (219, .if_icmp .ge 11), (222, .iload 7), (224, .iconst (-1)), (225, .if_icmp .eq 11), (228, .iload 8), (230, .iload 7), (232, .if_icmp .eq 10), (235, .aload 0), (236, .iload 8), (238, .invokeinterface 146 12021), (241, .aload 0), (242, .getstatic 1122), (245, .iload 8), (247, .iaload), (248, .if_icmp .ne 9), (251, .goto 10)]
def bX11_oneStep_9 : CD := [(254, .aload 0), (255, .iload 7), (257, .invokeinterface 149 12021), (260, .aload 0), (261, .iload 8), (263, .invokeinterface 149 12021), (266, .iadd), (267, .istore 9), (269, .aload 0), (270, .getstatic 1109), (273, .iload 6), (275, .iload 8), (277, .iastore), (278, .iload 1), (279, .iload 9), (281, .isub), (282, .aload 0), (283, .iload 7), (285, .invokeinterface 149 12021), (288, .iadd), (289, .aload 0), (290, .iload 8), (292, .invokeinterface 149 12021), (295, .iadd), (296, .istore 10), (298, .aload 0), (299, .getstatic 1109), (302, .iload 6), (304, .iload 7), (306, .iastore), (307, .iload 10), (309, .iload 2), (310, .if_icmp .ge 10), (313, .iload 10), (315, .istore 2), (316, .iload 6), (318, .istore 3), (319, .iconst (-1)), (320, .istore 4), (322, .iload 8), (324, .istore 5), (326, .goto_w 10)]
def bX11_oneStep_10 : CD := [(326, .iinc 8 (1)), (329, .goto 100211)]
def bX11_oneStep_11 : CD := [(332, .iinc 6 (1)), (335, .goto 100188)]
def bX11_oneStep_12 : CD := [(338, .iload 3), (339, .iconst (-1)), (340, .if_icmp .eq 14), (343, .aload 0), (344, .getstatic 1109), (347, .iload 3), (348, .iaload), (349, .istore 6), (351, .iload 4), (353, .iconst (-1)), (354, .if_icmp .eq 13), (357, .aload 0), (358, .getstatic 1109), (361, .iload 3), (362, .aload 0), (363, .getstatic 1109), (366, .iload 4), (368, .iaload), (369, .iastore), (370, .aload 0), (371, .getstatic 1109), (374, .iload 4), (376, .iload 6), (378, .iastore), (379, .goto 14)]
def bX11_oneStep_13 : CD := [(382, .aload 0), (383, .getstatic 1109), (386, .iload 3), (387, .iload 5), (389, .iastore), (390, .goto_w 14)]
def bX11_oneStep_14 : CD := [(390, .iload 1), (391, .iload 2), (392, .isub), (393, .ireturn)]
def bX11_oneStep : List CD := [bX11_oneStep_0, bX11_oneStep_1, bX11_oneStep_2, bX11_oneStep_3, bX11_oneStep_4, bX11_oneStep_5, bX11_oneStep_6, bX11_oneStep_7, bX11_oneStep_8, bX11_oneStep_9, bX11_oneStep_10, bX11_oneStep_11, bX11_oneStep_12, bX11_oneStep_13, bX11_oneStep_14]
theorem kX11_oneStep : bX11_oneStep.all (chkL 11 false cX11_oneStep bX11_oneStep) = true := by decide +kernel
theorem mX11_oneStep : MB 153 bX11_oneStep 1 12 := ⟨by decide, by decide +kernel, kX11_oneStep, rfl, rfl⟩
def bX11_step_0 : CD := [(0, .aload 0), (1, .iconst (0)), (2, .putfield 1100), (5, .aload 0), (6, .invokeinterface 153 12011), (9, .ireturn)]
def bX11_step : List CD := [bX11_step_0]
theorem kX11_step : bX11_step.all (chkL 11 false cX11_step bX11_step) = true := by decide +kernel
theorem mX11_step : MB 154 bX11_step 1 1 := ⟨by decide, by decide +kernel, kX11_step, rfl, rfl⟩
def bX11_better_0 : CD := [(0, .aload 0), (1, .iconst (0)), (2, .putfield 1100), (5, .iconst (0)), (6, .istore 1), (7, .goto_w 100007)]
def bX11_better_1 : CD := [(7, .aload 0), (8, .invokeinterface 153 12011), (11, .ifCond .le 2), (14, .iinc 1 (1)), (17, .goto 100007)]
def bX11_better_2 : CD := [(20, .iload 1), (21, .ireturn)]
def bX11_better : List CD := [bX11_better_0, bX11_better_1, bX11_better_2]
theorem kX11_better : bX11_better.all (chkL 11 false cX11_better bX11_better) = true := by decide +kernel
theorem mX11_better : MB 155 bX11_better 1 2 := ⟨by decide, by decide +kernel, kX11_better, rfl, rfl⟩
def bX11_cost_0 : CD := [(0, .aload 0), (1, .iconst (0)), (2, .putfield 1100), (5, .iload 1), (6, .iconst (-1)), (7, .if_icmp .ne 1), (10, .aload 0), (11, .invokeinterface 150 12011), (14, .goto 3)]
def bX11_cost_1 : CD := [(17, .aload 0), (18, .iload 1), (19, .invokeinterface 141 12021), (22, .ifCond .eq 2), (25, .aload 0), (26, .iload 1), (27, .invokeinterface 149 12021), (30, .goto 3)]
def bX11_cost_2 : CD := [(33, .iconst (-1)), (34, .goto_w 3)]
def bX11_cost_3 : CD := [(34, .ireturn)]
def bX11_cost : List CD := [bX11_cost_0, bX11_cost_1, bX11_cost_2, bX11_cost_3]
theorem kX11_cost : bX11_cost.all (chkL 11 false cX11_cost bX11_cost) = true := by decide +kernel
theorem mX11_cost : MB 156 bX11_cost 1 2 := ⟨by decide, by decide +kernel, kX11_cost, rfl, rfl⟩
def bX11_least_0 : CD := [(0, .aload 0), (1, .iconst (0)), (2, .putfield 1100), (5, .aload 0), (6, .getstatic 1105), (9, .iconst (0)), (10, .iaload), (11, .istore 1), (12, .iload 1), (13, .iconst (7)), (15, .if_icmp .gt 1), (18, .aload 0), (19, .invokeinterface 151 12011), (22, .iload 1), (23, .if_icmp .ge 2), (26, .goto_w 1)]
def bX11_least_1 : CD := [(26, .iconst (-1)), (27, .ireturn)]
def bX11_least_2 : CD := [(28, .iconst (0)), (29, .istore 2), (30, .goto_w 100030)]
def bX11_least_3 : CD := [(30, .iload 2), (31, .iload 1), (32, .if_icmp .ge 4), (35, .aload 0), (36, .getstatic 1142), (39, .iload 2), (40, .aload 0), (41, .getstatic 1109), (44, .iload 2), (45, .iaload), (46, .iastore), (47, .aload 0), (48, .getstatic 1109), (51, .iload 2), (52, .iconst (-1)), (53, .iastore), (54, .iinc 2 (1)), (57, .goto 100030)]
def bX11_least_4 : CD := [(60, .iconst (1000000)), (62, .istore 2), (63, .iconst (0)), (64, .istore 3), (65, .aload 0), (66, .getstatic 1143), (69, .iconst (0)), (70, .iconst (0)), (71, .iastore), (72, .goto_w 100072)]
def bX11_least_5 : CD := [(72, .iload 3), (73, .ifCond .lt 19), (76, .iload 3), (77, .iload 1), (78, .if_icmp .ne 8), (81, .aload 0), (82, .invokeinterface 150 12011), (85, .istore 4), (87, .iload 4), (89, .iload 2), (90, .if_icmp .ge 6), (93, .iload 4), (95, .goto 7)]
def bX11_least_6 : CD := [(98, .iload 2), (99, .goto_w 7)]
def bX11_least_7 : CD := [(99, .istore 2), (100, .iinc 3 (-1)), (103, .goto 100072)]
def bX11_least_8 : CD := [(106, .aload 0), (107, .getstatic 1109), (110, .iload 3), (111, .iaload), (112, .iconst (1)), (113, .iadd), (114, .istore 4), (116, .aload 0), (117, .getstatic 1109), (120, .iload 3), (121, .iconst (-1)), (122, .iastore), (123, .iconst (0)), (124, .istore 5), (126, .goto_w 100126)]
def bX11_least_9 : CD := [(126, .iload 4), (128, .aload 0), (129, .getstatic 1121), (132, .iconst (0)), (133, .iaload), (134, .if_icmp .ge 16), (137, .iload 5), (139, .ifCond .ne 16), (142, .aload 0), (143, .getstatic 1143), (146, .iload 3), (147, .iaload), (148, .istore 6), (150, .iconst (0)), (151, .istore 7), (153, .goto_w 100153)]
def bX11_least_10 : CD := [(153, .iload 7), (155, .iload 3), (156, .if_icmp .ge 13), (159, .iload 6), (161, .aload 0), (162, .getstatic 1109), (165, .iload 7), (167, .iaload), (168, .iload 4), (170, .if_icmp .ne 11), (173, .aload 0), (174, .iload 7), (176, .iload 3), (177, .invokeinterface 148 12031), (180, .goto 12)]
def bX11_least_11 : CD := [(183, .iconst (0)), (184, .goto_w 12)]
def bX11_least_12 : CD := [(184, .iadd), (185, .istore 6), (187, .iinc 7 (1)), (190, .goto 100153)]
def bX11_least_13 : CD := [(193, .aload 0), (194, .iload 4), (196, .invokeinterface 146 12021), (199, .aload 0), (200, .getstatic 1122), (203, .iload 4), (205, .iaload), (206, .if_icmp .ge 14), (209, .iload 6), (211, .iload 2), (212, .if_icmp .ge 14), (215, .iconst (1)), (216, .istore 5), (218, .aload 0), (219, .getstatic 1143), (222, .iload 3), (223, .iconst (1)), (224, .iadd), (225, .iload 6), (227, .iastore), (228, .goto 15)]
def bX11_least_14 : CD := [(231, .iinc 4 (1)), (234, .goto_w 15)]
def bX11_least_15 : CD := [(234, .goto 100126)]
def bX11_least_16 : CD := [(237, .iload 5), (239, .ifCond .eq 17), (242, .aload 0), (243, .getstatic 1109), (246, .iload 3), (247, .iload 4), (249, .iastore), (250, .iinc 3 (1)), (253, .iload 3), (254, .iload 1), (255, .if_icmp .ge 18), (258, .aload 0), (259, .getstatic 1109), (262, .iload 3), (263, .iconst (-1)), (264, .iastore), (265, .goto 18)]
def bX11_least_17 : CD := [(268, .iinc 3 (-1)), (271, .goto_w 18)]
def bX11_least_18 : CD := [(271, .goto 100072)]
def bX11_least_19 : CD := [(274, .iconst (0)), (275, .istore 4), (277, .goto_w 100277)]
def bX11_least_20 : CD := [(277, .iload 4), (279, .iload 1), (280, .if_icmp .ge 21), (283, .aload 0), (284, .getstatic 1109), (287, .iload 4), (289, .aload 0), (290, .getstatic 1142), (293, .iload 4), (295, .iaload), (296, .iastore), (297, .iinc 4 (1)), (300, .goto 100277)]
def bX11_least_21 : CD := [(303, .iload 2), (304, .ireturn)]
def bX11_least : List CD := [bX11_least_0, bX11_least_1, bX11_least_2, bX11_least_3, bX11_least_4, bX11_least_5, bX11_least_6, bX11_least_7, bX11_least_8, bX11_least_9, bX11_least_10, bX11_least_11, bX11_least_12, bX11_least_13, bX11_least_14, bX11_least_15, bX11_least_16, bX11_least_17, bX11_least_18, bX11_least_19, bX11_least_20, bX11_least_21]
theorem kX11_least : bX11_least.all (chkL 11 false cX11_least bX11_least) = true := by decide +kernel
theorem mX11_least : MB 157 bX11_least 1 8 := ⟨by decide, by decide +kernel, kX11_least, rfl, rfl⟩
def bX11_task_0 : CD := [(0, .aload 0), (1, .iconst (0)), (2, .putfield 1100), (5, .aload 0), (6, .iload 1), (7, .invokeinterface 140 12021), (10, .ifCond .eq 1), (13, .iload 2), (14, .iconst (1)), (15, .iconst (10)), (17, .invokeinterface 136 31), (20, .ifCond .ne 2), (23, .goto_w 1)]
def bX11_task_1 : CD := [(23, .iconst (-1)), (24, .ireturn)]
def bX11_task_2 : CD := [(25, .iload 3), (26, .ifCond .eq 5), (29, .aload 0), (30, .getstatic 1110), (33, .iload 1), (34, .iload 2), (35, .aload 0), (36, .getstatic 1110), (39, .iload 1), (40, .iaload), (41, .if_icmp .le 3), (44, .iload 2), (45, .goto 4)]
def bX11_task_3 : CD := [(48, .aload 0), (49, .getstatic 1110), (52, .iload 1), (53, .iaload), (54, .goto_w 4)]
def bX11_task_4 : CD := [(54, .iastore), (55, .goto 8)]
def bX11_task_5 : CD := [(58, .aload 0), (59, .getstatic 1111), (62, .iload 1), (63, .iload 2), (64, .iconst (1)), (65, .isub), (66, .aload 0), (67, .getstatic 1111), (70, .iload 1), (71, .iaload), (72, .if_icmp .ge 6), (75, .iload 2), (76, .iconst (1)), (77, .isub), (78, .goto 7)]
def bX11_task_6 : CD := [(81, .aload 0), (82, .getstatic 1111), (85, .iload 1), (86, .iaload), (87, .goto_w 7)]
def bX11_task_7 : CD := [(87, .iastore), (88, .goto_w 8)]
def bX11_task_8 : CD := [(88, .aload 0), (89, .getstatic 1110), (92, .iload 1), (93, .iaload), (94, .aload 0), (95, .getstatic 1111), (98, .iload 1), (99, .iaload), (100, .if_icmp .le 9), (103, .aload 0), (104, .getstatic 1110), (107, .iload 1), (108, .iload 2), (109, .iconst (1)), (110, .isub), (111, .iastore), (112, .aload 0), (113, .getstatic 1111), (116, .iload 1), (117, .iload 2), (118, .iastore), (119, .aload 0), (120, .getstatic 1112), (123, .iload 1), (124, .dup2), (125, .iaload), (126, .iconst (1)), (127, .iadd), (128, .iastore), (129, .goto_w 9)]
def bX11_task_9 : CD := [(129, .aload 0), (130, .getstatic 1111), (133, .iload 1), (134, .iaload), (135, .aload 0), (136, .getstatic 1110), (139, .iload 1), (140, .iaload), (141, .isub), (142, .ireturn)]
def bX11_task : List CD := [bX11_task_0, bX11_task_1, bX11_task_2, bX11_task_3, bX11_task_4, bX11_task_5, bX11_task_6, bX11_task_7, bX11_task_8, bX11_task_9]
theorem kX11_task : bX11_task.all (chkL 11 false cX11_task bX11_task) = true := by decide +kernel
theorem mX11_task : MB 158 bX11_task 1 4 := ⟨by decide, by decide +kernel, kX11_task, rfl, rfl⟩
def bX11_sortRow_0 : CD := [(0, .iconst (0)), (1, .istore 1), (2, .goto_w 100002)]
def bX11_sortRow_1 : CD := [(2, .iload 1), (3, .aload 0), (4, .getstatic 1105), (7, .iconst (0)), (8, .iaload), (9, .if_icmp .ge 4), (12, .iload 1), (13, .istore 2), (14, .goto_w 100014)]
def bX11_sortRow_2 : CD := [(14, .iload 2), (15, .ifCond .le 3), (18, .aload 0), (19, .getstatic 1110), (22, .aload 0), (23, .getstatic 1144), (26, .iload 2), (27, .iconst (1)), (28, .isub), (29, .iaload), (30, .iaload), (31, .aload 0), (32, .getstatic 1111), (35, .aload 0), (36, .getstatic 1144), (39, .iload 2), (40, .iconst (1)), (41, .isub), (42, .iaload), (43, .iaload), (44, .iadd), (45, .aload 0), (46, .getstatic 1110), (49, .iload 1), (50, .iaload), (51, .aload 0), (52, .getstatic 1111), (55, .iload 1), (56, .iaload), (57, .iadd), (58, .if_icmp .le 3), (61, .aload 0), (62, .getstatic 1144), (65, .iload 2), (66, .aload 0), (67, .getstatic 1144), (70, .iload 2), (71, .iconst (1)), (72, .isub), (73, .iaload), (74, .iastore), (75, .iinc 2 (-1)), (78, .goto 100014)]
def bX11_sortRow_3 : CD := [(81, .aload 0), (82, .getstatic 1144), (85, .iload 2), (86, .iload 1), (87, .iastore), (88, .iinc 1 (1)), (91, .goto 100002)]
def bX11_sortRow_4 : CD := [(94, .return_)]
def bX11_sortRow : List CD := [bX11_sortRow_0, bX11_sortRow_1, bX11_sortRow_2, bX11_sortRow_3, bX11_sortRow_4]
theorem kX11_sortRow : bX11_sortRow.all (chkL 11 false cX11_sortRow bX11_sortRow) = true := by decide +kernel
theorem mX11_sortRow : MB 159 bX11_sortRow 0 3 := ⟨by decide, by decide +kernel, kX11_sortRow, rfl, rfl⟩
def bX11_runCost_0 : CD := [(0, .iconst (10)), (2, .istore 4), (4, .iconst (0)), (5, .istore 5), (7, .iconst (0)), (8, .istore 6), (10, .iload 1), (11, .istore 7), (13, .goto_w 100013)]
def bX11_runCost_1 : CD := [(13, .iload 7), (15, .iload 2), (16, .if_icmp .ge 8), (19, .aload 0), (20, .getstatic 1144), (23, .iload 7), (25, .iaload), (26, .istore 8), (28, .aload 0), (29, .getstatic 1110), (32, .iload 8), (34, .iaload), (35, .iload 4), (37, .if_icmp .ge 2), (40, .aload 0), (41, .getstatic 1110), (44, .iload 8), (46, .iaload), (47, .goto 3)]
def bX11_runCost_2 : CD := [(50, .iload 4), (52, .goto_w 3)]
def bX11_runCost_3 : CD := [(52, .istore 4), (54, .aload 0), (55, .getstatic 1111), (58, .iload 8), (60, .iaload), (61, .iload 5), (63, .if_icmp .le 4), (66, .aload 0), (67, .getstatic 1111), (70, .iload 8), (72, .iaload), (73, .goto 5)]
def bX11_runCost_4 : CD := [(76, .iload 5), (78, .goto_w 5)]
def bX11_runCost_5 : CD := [(78, .istore 5), (80, .iload 6), (82, .aload 0), (83, .getstatic 1113), (86, .iload 8), (88, .iaload), (89, .iconst (-1)), (90, .if_icmp .eq 6), (93, .aload 0), (94, .getstatic 1113), (97, .iload 8), (99, .iaload), (100, .iload 3), (101, .if_icmp .eq 6), (104, .iconst (1)), (105, .goto 7)]
def bX11_runCost_6 : CD := [(108, .iconst (0)), (109, .goto_w 7)]
def bX11_runCost_7 : CD := [(109, .iadd), (110, .istore 6), (112, .iinc 7 (1)), (115, .goto 100013)]
def bX11_runCost_8 : CD := [(118, .iconst (10)), (120, .iload 5), (122, .iload 4), (124, .isub), (125, .imul), (126, .iload 6), (128, .iadd), (129, .ireturn)]
def bX11_runCost : List CD := [bX11_runCost_0, bX11_runCost_1, bX11_runCost_2, bX11_runCost_3, bX11_runCost_4, bX11_runCost_5, bX11_runCost_6, bX11_runCost_7, bX11_runCost_8]
theorem kX11_runCost : bX11_runCost.all (chkL 11 false cX11_runCost bX11_runCost) = true := by decide +kernel
theorem mX11_runCost : MB 160 bX11_runCost 1 9 := ⟨by decide, by decide +kernel, kX11_runCost, rfl, rfl⟩
def bX11_groups_0 : CD := [(0, .aload 0), (1, .iconst (0)), (2, .putfield 1100), (5, .aload 0), (6, .getstatic 1105), (9, .iconst (0)), (10, .iaload), (11, .istore 4), (13, .iload 1), (14, .iconst (1)), (15, .iconst (6)), (17, .invokeinterface 136 31), (20, .ifCond .eq 1), (23, .iload 2), (24, .iconst (1)), (25, .if_icmp .lt 1), (28, .iload 2), (29, .iload 3), (30, .if_icmp .le 2), (33, .goto_w 1)]
def bX11_groups_1 : CD := [(33, .iconst (-1)), (34, .ireturn)]
def bX11_groups_2 : CD := [(35, .aload 0), (36, .invokeinterface 159 12010), (39, .iload 1), (40, .istore 5), (42, .goto_w 100042)]
def bX11_groups_3 : CD := [(42, .iload 5), (44, .ifCond .lt 12), (47, .iload 4), (49, .istore 6), (51, .goto_w 100051)]
def bX11_groups_4 : CD := [(51, .iload 6), (53, .ifCond .lt 11), (56, .iload 6), (58, .iload 4), (60, .if_icmp .ne 5), (63, .iload 5), (65, .iload 1), (66, .if_icmp .ne 5), (69, .iconst (0)), (70, .goto 6)]
def bX11_groups_5 : CD := [(73, .iconst (1000000)), (75, .goto_w 6)]
def bX11_groups_6 : CD := [(75, .istore 7), (77, .iload 2), (78, .istore 8), (80, .goto_w 100080)]
def bX11_groups_7 : CD := [(80, .iload 5), (82, .iload 1), (83, .if_icmp .ge 10), (86, .iload 8), (88, .iload 3), (89, .if_icmp .gt 10), (92, .iload 8), (94, .iload 4), (96, .iload 6), (98, .isub), (99, .if_icmp .gt 10), (102, .aload 0), (103, .iload 6), (105, .iload 6), (107, .iload 8), (109, .iadd), (110, .iload 5), (112, .invokeinterface 160 12041), (115, .aload 0), (116, .getstatic 1145), (119, .iconst (25)), (121, .iload 5), (123, .iconst (1)), (124, .iadd), (125, .imul), (126, .iload 6), (128, .iadd), (129, .iload 8), (131, .iadd), (132, .iaload), (133, .iadd), (134, .istore 9), (136, .iload 9), (138, .iload 7), (140, .if_icmp .ge 8), (143, .iload 9), (145, .goto 9)]
def bX11_groups_8 : CD := [(148, .iload 7), (150, .goto_w 9)]
def bX11_groups_9 : CD := [(150, .istore 7), (152, .iinc 8 (1)), (155, .goto 100080)]
def bX11_groups_10 : CD := [(158, .aload 0), (159, .getstatic 1145), (162, .iconst (25)), (164, .iload 5), (166, .imul), (167, .iload 6), (169, .iadd), (170, .iload 7), (172, .iastore), (173, .iinc 6 (-1)), (176, .goto 100051)]
def bX11_groups_11 : CD := [(179, .iinc 5 (-1)), (182, .goto 100042)]
def bX11_groups_12 : CD := [(185, .aload 0), (186, .getstatic 1145), (189, .iconst (0)), (190, .iaload), (191, .iconst (1000000)), (193, .if_icmp .lt 13), (196, .iconst (-1)), (197, .ireturn)]
def bX11_groups_13 : CD := [(198, .iconst (0)), (199, .istore 5), (201, .aload 0), (202, .getstatic 1145), (205, .iconst (0)), (206, .iaload), (207, .istore 6), (209, .iconst (0)), (210, .istore 7), (212, .goto_w 100212)]
def bX11_groups_14 : CD := [(212, .iload 7), (214, .iload 1), (215, .if_icmp .ge 17), (218, .iload 2), (219, .istore 8), (221, .goto_w 100221)]
def bX11_groups_15 : CD := [(221, .aload 0), (222, .iload 5), (224, .iload 5), (226, .iload 8), (228, .iadd), (229, .iload 7), (231, .invokeinterface 160 12041), (234, .aload 0), (235, .getstatic 1145), (238, .iconst (25)), (240, .iload 7), (242, .iconst (1)), (243, .iadd), (244, .imul), (245, .iload 5), (247, .iadd), (248, .iload 8), (250, .iadd), (251, .iaload), (252, .iadd), (253, .aload 0), (254, .getstatic 1145), (257, .iconst (25)), (259, .iload 7), (261, .imul), (262, .iload 5), (264, .iadd), (265, .iaload), (266, .if_icmp .eq 16), (269, .iinc 8 (1)), (272, .goto 100221)]
def bX11_groups_16 : CD := [(275, .aload 0), (276, .getstatic 1146), (279, .iload 7), (281, .iload 5), (283, .iload 8), (285, .iadd), (286, .iastore), (287, .iload 5), (289, .iload 8), (291, .iadd), (292, .istore 5), (294, .iinc 7 (1)), (297, .goto 100212)]
def bX11_groups_17 : CD := [(300, .iconst (0)), (301, .istore 7), (303, .iconst (0)), (304, .istore 8), (306, .goto_w 100306)]
def bX11_groups_18 : CD := [(306, .iload 8), (308, .iload 4), (310, .if_icmp .ge 21), (313, .goto_w 100313)]
def bX11_groups_19 : CD := [(313, .iload 8), (315, .aload 0), (316, .getstatic 1146), (319, .iload 7), (321, .iaload), (322, .if_icmp .lt 20), (325, .iinc 7 (1)), (328, .goto 100313)]
def bX11_groups_20 : CD := [(331, .aload 0), (332, .getstatic 1113), (335, .aload 0), (336, .getstatic 1144), (339, .iload 8), (341, .iaload), (342, .iload 7), (344, .iastore), (345, .iinc 8 (1)), (348, .goto 100306)]
def bX11_groups_21 : CD := [(351, .iload 6), (353, .ireturn)]
def bX11_groups : List CD := [bX11_groups_0, bX11_groups_1, bX11_groups_2, bX11_groups_3, bX11_groups_4, bX11_groups_5, bX11_groups_6, bX11_groups_7, bX11_groups_8, bX11_groups_9, bX11_groups_10, bX11_groups_11, bX11_groups_12, bX11_groups_13, bX11_groups_14, bX11_groups_15, bX11_groups_16, bX11_groups_17, bX11_groups_18, bX11_groups_19, bX11_groups_20, bX11_groups_21]
theorem kX11_groups : bX11_groups.all (chkL 11 false cX11_groups bX11_groups) = true := by decide +kernel
theorem mX11_groups : MB 161 bX11_groups 1 10 := ⟨by decide, by decide +kernel, kX11_groups, rfl, rfl⟩
def bX11_feed_0 : CD := [(0, .aload 0), (1, .iconst (0)), (2, .putfield 1100), (5, .aload 0), (6, .getstatic 1102), (9, .iconst (0)), (10, .iaload), (11, .iconst (20)), (13, .iadd), (14, .iconst (500)), (17, .if_icmp .le 1), (20, .iconst (-1)), (21, .ireturn)]
def bX11_feed_1 : CD := [(22, .aload 0), (23, .iload 1), (24, .invokeinterface 163 12020), (27, .aload 0), (28, .iload 2), (29, .invokeinterface 163 12020), (32, .aload 0), (33, .iload 3), (34, .invokeinterface 163 12020), (37, .aload 0), (38, .iload 4), (40, .invokeinterface 163 12020), (43, .aload 0), (44, .iload 5), (46, .invokeinterface 163 12020), (49, .aload 0), (50, .getstatic 1102), (53, .iconst (0)), (54, .iaload), (55, .ireturn)]
def bX11_feed : List CD := [bX11_feed_0, bX11_feed_1]
theorem kX11_feed : bX11_feed.all (chkL 11 false cX11_feed bX11_feed) = true := by decide +kernel
theorem mX11_feed : MB 162 bX11_feed 1 6 := ⟨by decide, by decide +kernel, kX11_feed, rfl, rfl⟩
def bX11_four_0 : CD := [(0, .iconst (24)), (2, .istore 2), (3, .goto_w 100003)]
def bX11_four_1 : CD := [(3, .iload 2), (4, .ifCond .lt 2), (7, .aload 0), (8, .getstatic 1101), (11, .aload 0), (12, .getstatic 1102), (15, .iconst (0)), (16, .iaload), (17, .iload 1), (18, .iload 2), (19, .ishr), (20, .i2b), (21, .bastore), (22, .aload 0), (23, .getstatic 1102), (26, .iconst (0)), (27, .dup2), (28, .iaload), (29, .iconst (1)), (30, .iadd), (31, .iastore), (32, .iinc 2 (-8)), (35, .goto 100003)]
def bX11_four_2 : CD := [(38, .return_)]
def bX11_four : List CD := [bX11_four_0, bX11_four_1, bX11_four_2]
theorem kX11_four : bX11_four.all (chkL 11 false cX11_four bX11_four) = true := by decide +kernel
theorem mX11_four : MB 163 bX11_four 0 3 := ⟨by decide, by decide +kernel, kX11_four, rfl, rfl⟩
def bX11_end_0 : CD := [(0, .aload 0), (1, .iconst (0)), (2, .putfield 1100), (5, .iload 1), (6, .iconst (0)), (7, .aload 0), (8, .getstatic 1102), (11, .iconst (0)), (12, .iaload), (13, .invokeinterface 136 31), (16, .ifCond .ne 1), (19, .iconst (-1)), (20, .ireturn)]
def bX11_end_1 : CD := [(21, .aload 0), (22, .getstatic 1102), (25, .iconst (0)), (26, .iload 1), (27, .iastore), (28, .iload 1), (29, .ireturn)]
def bX11_end : List CD := [bX11_end_0, bX11_end_1]
theorem kX11_end : bX11_end.all (chkL 11 false cX11_end bX11_end) = true := by decide +kernel
theorem mX11_end : MB 164 bX11_end 1 2 := ⟨by decide, by decide +kernel, kX11_end, rfl, rfl⟩
def bX11_see_0 : CD := [(0, .aload 0), (1, .getfield 1147), (4, .aload 0), (5, .getfield 1148), (8, .if_icmp .ge 1), (11, .aload 0), (12, .getstatic 1101), (15, .aload 0), (16, .getfield 1147), (19, .baload), (20, .iconst (255)), (23, .iand), (24, .goto 2)]
def bX11_see_1 : CD := [(27, .iconst (-1)), (28, .goto_w 2)]
def bX11_see_2 : CD := [(28, .ireturn)]
def bX11_see : List CD := [bX11_see_0, bX11_see_1, bX11_see_2]
theorem kX11_see : bX11_see.all (chkL 11 false cX11_see bX11_see) = true := by decide +kernel
theorem mX11_see : MB 165 bX11_see 1 1 := ⟨by decide, by decide +kernel, kX11_see, rfl, rfl⟩
def bX11_next_0 : CD := [(0, .aload 0), (1, .invokeinterface 165 12011), (4, .iconst (10)), (6, .if_icmp .eq 1), (9, .aload 0), (10, .invokeinterface 165 12011), (13, .iconst (32)), (15, .if_icmp .ne 2), (18, .goto_w 1)]
def bX11_next_1 : CD := [(18, .aload 0), (19, .dup), (20, .getfield 1147), (23, .iconst (1)), (24, .iadd), (25, .putfield 1147), (28, .goto 100000)]
def bX11_next_2 : CD := [(31, .aload 0), (32, .aload 0), (33, .getfield 1147), (36, .putfield 1149), (39, .aload 0), (40, .invokeinterface 165 12011), (43, .istore 1), (44, .aload 0), (45, .iload 1), (46, .putfield 1151), (49, .aload 0), (50, .ldc2_w 0), (51, .dstore 1152), (54, .iconst (0)), (55, .istore 2), (56, .iload 1), (57, .ifCond .ge 3), (60, .aload 0), (61, .iconst (0)), (62, .putfield 1150), (65, .goto 19)]
def bX11_next_3 : CD := [(68, .iload 1), (69, .iconst (97)), (71, .iconst (122)), (73, .invokeinterface 136 31), (76, .ifCond .eq 8), (79, .goto_w 100079)]
def bX11_next_4 : CD := [(79, .aload 0), (80, .invokeinterface 165 12011), (83, .iconst (97)), (85, .iconst (122)), (87, .invokeinterface 136 31), (90, .ifCond .eq 5), (93, .aload 0), (94, .aload 0), (95, .dload 1152), (98, .iconst (8)), (100, .lshl), (101, .aload 0), (102, .invokeinterface 165 12011), (105, .i2l), (106, .lor), (107, .dstore 1152), (110, .aload 0), (111, .dup), (112, .getfield 1147), (115, .iconst (1)), (116, .iadd), (117, .putfield 1147), (120, .iinc 2 (1)), (123, .goto 100079)]
def bX11_next_5 : CD := [(126, .aload 0), (127, .iload 2), (128, .iconst (8)), (130, .if_icmp .le 6), (133, .ldc2_w 0), (134, .goto 7)]
def bX11_next_6 : CD := [(137, .aload 0), (138, .dload 1152), (141, .goto_w 7)]
def bX11_next_7 : CD := [(141, .dstore 1152), (144, .aload 0), (145, .iconst (2)), (146, .putfield 1150), (149, .goto 19)]
def bX11_next_8 : CD := [(152, .iload 1), (153, .iconst (48)), (155, .iconst (57)), (157, .invokeinterface 136 31), (160, .ifCond .eq 15), (163, .aload 0), (164, .iconst (0)), (165, .putfield 1151), (168, .goto_w 100168)]
def bX11_next_9 : CD := [(168, .aload 0), (169, .invokeinterface 165 12011), (172, .iconst (48)), (174, .iconst (57)), (176, .invokeinterface 136 31), (179, .ifCond .eq 12), (182, .aload 0), (183, .iload 2), (184, .iconst (4)), (185, .if_icmp .ge 10), (188, .iconst (10)), (190, .aload 0), (191, .getfield 1151), (194, .imul), (195, .aload 0), (196, .invokeinterface 165 12011), (199, .iadd), (200, .iconst (48)), (202, .isub), (203, .goto 11)]
def bX11_next_10 : CD := [(206, .aload 0), (207, .getfield 1151), (210, .goto_w 11)]
def bX11_next_11 : CD := [(210, .putfield 1151), (213, .aload 0), (214, .dup), (215, .getfield 1147), (218, .iconst (1)), (219, .iadd), (220, .putfield 1147), (223, .iinc 2 (1)), (226, .goto 100168)]
def bX11_next_12 : CD := [(229, .aload 0), (230, .iload 2), (231, .iconst (4)), (232, .if_icmp .le 13), (235, .iconst (1)), (236, .goto 14)]
def bX11_next_13 : CD := [(239, .iconst (3)), (240, .goto_w 14)]
def bX11_next_14 : CD := [(240, .putfield 1150), (243, .goto 19)]
def bX11_next_15 : CD := [(246, .aload 0), (247, .dup), (248, .getfield 1147), (251, .iconst (1)), (252, .iadd), (253, .putfield 1147), (256, .aload 0), (257, .iload 1), (258, .iconst (58)), (260, .if_icmp .eq 16), (263, .iload 1), (264, .iconst (59)), (266, .if_icmp .eq 16), (269, .iload 1), (270, .iconst (60)), (272, .if_icmp .eq 16), (275, .iload 1), (276, .iconst (62)), (278, .if_icmp .eq 16), (281, .iload 1), (282, .iconst (61)), (284, .if_icmp .ne 17), (287, .goto_w 16)]
def bX11_next_16 : CD := [(287, .iconst (4)), (288, .goto 18)]
def bX11_next_17 : CD := [(291, .iconst (1)), (292, .goto_w 18)]
def bX11_next_18 : CD := [(292, .putfield 1150), (295, .goto_w 19)]
def bX11_next_19 : CD := [(295, .return_)]
def bX11_next : List CD := [bX11_next_0, bX11_next_1, bX11_next_2, bX11_next_3, bX11_next_4, bX11_next_5, bX11_next_6, bX11_next_7, bX11_next_8, bX11_next_9, bX11_next_10, bX11_next_11, bX11_next_12, bX11_next_13, bX11_next_14, bX11_next_15, bX11_next_16, bX11_next_17, bX11_next_18, bX11_next_19]
theorem kX11_next : bX11_next.all (chkL 11 false cX11_next bX11_next) = true := by decide +kernel
theorem mX11_next : MB 166 bX11_next 0 3 := ⟨by decide, by decide +kernel, kX11_next, rfl, rfl⟩
def bX11_isWord_0 : CD := [(0, .aload 0), (1, .getfield 1150), (4, .iconst (2)), (5, .if_icmp .ne 1), (8, .aload 0), (9, .dload 1152), (12, .lload 1), (13, .lcmp), (14, .ifCond .ne 1), (17, .iconst (1)), (18, .goto 2)]
def bX11_isWord_1 : CD := [(21, .iconst (0)), (22, .goto_w 2)]
def bX11_isWord_2 : CD := [(22, .ireturn)]
def bX11_isWord : List CD := [bX11_isWord_0, bX11_isWord_1, bX11_isWord_2]
theorem kX11_isWord : bX11_isWord.all (chkL 11 false cX11_isWord bX11_isWord) = true := by decide +kernel
theorem mX11_isWord : MB 167 bX11_isWord 2 3 := ⟨by decide, by decide +kernel, kX11_isWord, rfl, rfl⟩
def bX11_isSign_0 : CD := [(0, .aload 0), (1, .getfield 1150), (4, .iconst (4)), (5, .if_icmp .ne 1), (8, .aload 0), (9, .getfield 1151), (12, .iload 1), (13, .if_icmp .ne 1), (16, .iconst (1)), (17, .goto 2)]
def bX11_isSign_1 : CD := [(20, .iconst (0)), (21, .goto_w 2)]
def bX11_isSign_2 : CD := [(21, .ireturn)]
def bX11_isSign : List CD := [bX11_isSign_0, bX11_isSign_1, bX11_isSign_2]
theorem kX11_isSign : bX11_isSign.all (chkL 11 false cX11_isSign bX11_isSign) = true := by decide +kernel
theorem mX11_isSign : MB 168 bX11_isSign 2 2 := ⟨by decide, by decide +kernel, kX11_isSign, rfl, rfl⟩
def bX11_wrong_0 : CD := [(0, .aload 0), (1, .aload 0), (2, .getfield 1149), (5, .putfield 1153), (8, .iconst (0)), (9, .ireturn)]
def bX11_wrong : List CD := [bX11_wrong_0]
theorem kX11_wrong : bX11_wrong.all (chkL 11 false cX11_wrong bX11_wrong) = true := by decide +kernel
theorem mX11_wrong : MB 169 bX11_wrong 2 1 := ⟨by decide, by decide +kernel, kX11_wrong, rfl, rfl⟩
def bX11_tooMany_0 : CD := [(0, .aload 0), (1, .aload 0), (2, .getfield 1154), (5, .iconst (-1)), (6, .if_icmp .ne 1), (9, .aload 0), (10, .getfield 1149), (13, .goto 2)]
def bX11_tooMany_1 : CD := [(16, .aload 0), (17, .getfield 1154), (20, .goto_w 2)]
def bX11_tooMany_2 : CD := [(20, .putfield 1154), (23, .return_)]
def bX11_tooMany : List CD := [bX11_tooMany_0, bX11_tooMany_1, bX11_tooMany_2]
theorem kX11_tooMany : bX11_tooMany.all (chkL 11 false cX11_tooMany bX11_tooMany) = true := by decide +kernel
theorem mX11_tooMany : MB 170 bX11_tooMany 0 1 := ⟨by decide, by decide +kernel, kX11_tooMany, rfl, rfl⟩
def bX11_need_0 : CD := [(0, .aload 0), (1, .iload 1), (2, .invokeinterface 168 12021), (5, .ifCond .ne 1), (8, .aload 0), (9, .invokeinterface 169 12011), (12, .ireturn)]
def bX11_need_1 : CD := [(13, .aload 0), (14, .invokeinterface 166 12010), (17, .iconst (1)), (18, .ireturn)]
def bX11_need : List CD := [bX11_need_0, bX11_need_1]
theorem kX11_need : bX11_need.all (chkL 11 false cX11_need bX11_need) = true := by decide +kernel
theorem mX11_need : MB 171 bX11_need 2 2 := ⟨by decide, by decide +kernel, kX11_need, rfl, rfl⟩
def bX11_oneLine_0 : CD := [(0, .aload 0), (1, .getfield 1155), (4, .iconst (16)), (6, .if_icmp .ge 1), (9, .aload 0), (10, .getfield 1155), (13, .goto 2)]
def bX11_oneLine_1 : CD := [(16, .iconst (16)), (18, .goto_w 2)]
def bX11_oneLine_2 : CD := [(18, .istore 1), (19, .aload 0), (20, .getfield 1155), (23, .iconst (16)), (25, .if_icmp .ne 3), (28, .aload 0), (29, .invokeinterface 170 12010), (32, .goto_w 3)]
def bX11_oneLine_3 : CD := [(32, .aload 0), (33, .getstatic 1156), (36, .iload 1), (37, .iconst (0)), (38, .iastore), (39, .aload 0), (40, .ldc2_w 26982), (43, .invokeinterface 167 12021), (46, .ifCond .eq 7), (49, .iconst (1)), (50, .istore 2), (51, .iconst (0)), (52, .istore 3), (53, .goto_w 100053)]
def bX11_oneLine_4 : CD := [(53, .iload 2), (54, .ifCond .eq 6), (57, .aload 0), (58, .invokeinterface 166 12010), (61, .aload 0), (62, .iload 1), (63, .iload 3), (64, .invokeinterface 173 12031), (67, .ifCond .ne 5), (70, .iconst (0)), (71, .ireturn)]
def bX11_oneLine_5 : CD := [(72, .aload 0), (73, .ldc2_w 6385252), (76, .invokeinterface 167 12021), (79, .istore 2), (80, .iinc 3 (1)), (83, .goto 100053)]
def bX11_oneLine_6 : CD := [(86, .aload 0), (87, .iconst (58)), (89, .invokeinterface 171 12021), (92, .ifCond .ne 7), (95, .iconst (0)), (96, .ireturn)]
def bX11_oneLine_7 : CD := [(97, .aload 0), (98, .getstatic 1160), (101, .iload 1), (102, .aload 0), (103, .ldc2_w 1734437230), (106, .invokeinterface 167 12021), (109, .ifCond .eq 8), (112, .iconst (0)), (113, .goto 12)]
def bX11_oneLine_8 : CD := [(116, .aload 0), (117, .ldc2_w 1819243365), (120, .invokeinterface 167 12021), (123, .ifCond .eq 9), (126, .iconst (1)), (127, .goto 12)]
def bX11_oneLine_9 : CD := [(130, .aload 0), (131, .ldc2_w 7562612), (134, .invokeinterface 167 12021), (137, .ifCond .eq 10), (140, .iconst (2)), (141, .goto 12)]
def bX11_oneLine_10 : CD := [(144, .aload 0), (145, .ldc2_w 1937010544), (148, .invokeinterface 167 12021), (151, .ifCond .eq 11), (154, .iconst (3)), (155, .goto 12)]
def bX11_oneLine_11 : CD := [(158, .iconst (-1)), (159, .goto_w 12)]
def bX11_oneLine_12 : CD := [(159, .iastore), (160, .aload 0), (161, .getstatic 1160), (164, .iload 1), (165, .iaload), (166, .iconst (-1)), (167, .if_icmp .ne 13), (170, .aload 0), (171, .invokeinterface 169 12011), (174, .ireturn)]
def bX11_oneLine_13 : CD := [(175, .aload 0), (176, .invokeinterface 166 12010), (179, .aload 0), (180, .getstatic 1161), (183, .iload 1), (184, .iconst (0)), (185, .iastore), (186, .aload 0), (187, .getstatic 1160), (190, .iload 1), (191, .iaload), (192, .iconst (3)), (193, .if_icmp .ge 15), (196, .aload 0), (197, .getfield 1150), (200, .iconst (3)), (201, .if_icmp .eq 14), (204, .aload 0), (205, .invokeinterface 169 12011), (208, .ireturn)]
def bX11_oneLine_14 : CD := [(209, .aload 0), (210, .getstatic 1161), (213, .iload 1), (214, .aload 0), (215, .getfield 1151), (218, .iastore), (219, .aload 0), (220, .invokeinterface 166 12010), (223, .goto_w 15)]
def bX11_oneLine_15 : CD := [(223, .aload 0), (224, .dup), (225, .getfield 1155), (228, .iconst (1)), (229, .iadd), (230, .putfield 1155), (233, .aload 0), (234, .iconst (59)), (236, .invokeinterface 171 12021), (239, .ireturn)]
def bX11_oneLine : List CD := [bX11_oneLine_0, bX11_oneLine_1, bX11_oneLine_2, bX11_oneLine_3, bX11_oneLine_4, bX11_oneLine_5, bX11_oneLine_6, bX11_oneLine_7, bX11_oneLine_8, bX11_oneLine_9, bX11_oneLine_10, bX11_oneLine_11, bX11_oneLine_12, bX11_oneLine_13, bX11_oneLine_14, bX11_oneLine_15]
theorem kX11_oneLine : bX11_oneLine.all (chkL 11 false cX11_oneLine bX11_oneLine) = true := by decide +kernel
theorem mX11_oneLine : MB 172 bX11_oneLine 2 4 := ⟨by decide, by decide +kernel, kX11_oneLine, rfl, rfl⟩
def bX11_test_0 : CD := [(0, .iload 2), (1, .iconst (4)), (2, .if_icmp .ne 1), (5, .aload 0), (6, .invokeinterface 170 12010), (9, .goto_w 1)]
def bX11_test_1 : CD := [(9, .aload 0), (10, .ldc2_w 7237492), (13, .invokeinterface 167 12021), (16, .istore 3), (17, .iload 3), (18, .ifCond .eq 2), (21, .aload 0), (22, .invokeinterface 166 12010), (25, .goto_w 2)]
def bX11_test_2 : CD := [(25, .aload 0), (26, .ldc2_w 7305070), (29, .invokeinterface 167 12021), (32, .ifCond .eq 3), (35, .iconst (0)), (36, .goto 14)]
def bX11_test_3 : CD := [(39, .aload 0), (40, .ldc2_w 114784820290930), (43, .invokeinterface 167 12021), (46, .ifCond .eq 4), (49, .iconst (1)), (50, .goto 14)]
def bX11_test_4 : CD := [(53, .aload 0), (54, .ldc2_w 7563385), (57, .invokeinterface 167 12021), (60, .ifCond .eq 5), (63, .iconst (2)), (64, .goto 14)]
def bX11_test_5 : CD := [(67, .aload 0), (68, .ldc2_w 126896627347060), (71, .invokeinterface 167 12021), (74, .ifCond .eq 6), (77, .iconst (3)), (78, .goto 14)]
def bX11_test_6 : CD := [(81, .aload 0), (82, .ldc2_w 512970876019), (85, .invokeinterface 167 12021), (88, .ifCond .eq 7), (91, .iconst (4)), (92, .goto 14)]
def bX11_test_7 : CD := [(95, .aload 0), (96, .ldc2_w 1752135026), (99, .invokeinterface 167 12021), (102, .ifCond .eq 8), (105, .iconst (5)), (106, .goto 14)]
def bX11_test_8 : CD := [(109, .aload 0), (110, .ldc2_w 6578553), (113, .invokeinterface 167 12021), (116, .ifCond .eq 9), (119, .iconst (6)), (121, .goto 14)]
def bX11_test_9 : CD := [(124, .aload 0), (125, .ldc2_w 7106423), (128, .invokeinterface 167 12021), (131, .ifCond .eq 10), (134, .iconst (7)), (136, .goto 14)]
def bX11_test_10 : CD := [(139, .aload 0), (140, .ldc2_w 6383461), (143, .invokeinterface 167 12021), (146, .ifCond .eq 11), (149, .iconst (8)), (151, .goto 14)]
def bX11_test_11 : CD := [(154, .aload 0), (155, .ldc2_w 6840691), (158, .invokeinterface 167 12021), (161, .ifCond .eq 12), (164, .iconst (9)), (166, .goto 14)]
def bX11_test_12 : CD := [(169, .aload 0), (170, .ldc2_w 7501166), (173, .invokeinterface 167 12021), (176, .ifCond .eq 13), (179, .iconst (10)), (181, .goto 14)]
def bX11_test_13 : CD := [(184, .iconst (-1)), (185, .goto_w 14)]
def bX11_test_14 : CD := [(185, .istore 4), (187, .iload 4), (189, .iconst (-1)), (190, .if_icmp .ne 15), (193, .aload 0), (194, .invokeinterface 169 12011), (197, .ireturn)]
def bX11_test_15 : CD := [(198, .aload 0), (199, .invokeinterface 166 12010), (202, .iconst (61)), (204, .istore 5), (206, .iconst (1)), (207, .istore 6), (209, .iload 4), (211, .iconst (3)), (212, .if_icmp .le 19), (215, .aload 0), (216, .getfield 1151), (219, .istore 5), (221, .aload 0), (222, .getfield 1150), (225, .iconst (4)), (226, .if_icmp .ne 16), (229, .iload 5), (231, .iconst (60)), (233, .if_icmp .eq 17), (236, .iload 5), (238, .iconst (62)), (240, .if_icmp .eq 17), (243, .iload 5), (245, .iconst (61)), (247, .if_icmp .eq 17), (250, .goto_w 16)]
def bX11_test_16 : CD := [(250, .aload 0), (251, .invokeinterface 169 12011), (254, .ireturn)]
def bX11_test_17 : CD := [(255, .aload 0), (256, .invokeinterface 166 12010), (259, .aload 0), (260, .getfield 1150), (263, .iconst (3)), (264, .if_icmp .eq 18), (267, .aload 0), (268, .invokeinterface 169 12011), (271, .ireturn)]
def bX11_test_18 : CD := [(272, .aload 0), (273, .getfield 1151), (276, .istore 6), (278, .aload 0), (279, .invokeinterface 166 12010), (282, .goto_w 19)]
def bX11_test_19 : CD := [(282, .iload 2), (283, .iconst (4)), (284, .if_icmp .ge 22), (287, .iload 1), (288, .iconst (16)), (290, .if_icmp .ge 22), (293, .iconst (4)), (294, .iload 1), (295, .imul), (296, .iload 2), (297, .iadd), (298, .istore 7), (300, .aload 0), (301, .getstatic 1157), (304, .iload 7), (306, .iload 3), (307, .ifCond .eq 20), (310, .iload 4), (312, .iconst (16)), (314, .iadd), (315, .goto 21)]
def bX11_test_20 : CD := [(318, .iload 4), (320, .goto_w 21)]
def bX11_test_21 : CD := [(320, .iastore), (321, .aload 0), (322, .getstatic 1158), (325, .iload 7), (327, .iload 5), (329, .iastore), (330, .aload 0), (331, .getstatic 1159), (334, .iload 7), (336, .iload 6), (338, .iastore), (339, .aload 0), (340, .getstatic 1156), (343, .iload 1), (344, .iload 2), (345, .iconst (1)), (346, .iadd), (347, .iastore), (348, .goto_w 22)]
def bX11_test_22 : CD := [(348, .iconst (1)), (349, .ireturn)]
def bX11_test : List CD := [bX11_test_0, bX11_test_1, bX11_test_2, bX11_test_3, bX11_test_4, bX11_test_5, bX11_test_6, bX11_test_7, bX11_test_8, bX11_test_9, bX11_test_10, bX11_test_11, bX11_test_12, bX11_test_13, bX11_test_14, bX11_test_15, bX11_test_16, bX11_test_17, bX11_test_18, bX11_test_19, bX11_test_20, bX11_test_21, bX11_test_22]
theorem kX11_test : bX11_test.all (chkL 11 false cX11_test bX11_test) = true := by decide +kernel
theorem mX11_test : MB 173 bX11_test 2 8 := ⟨by decide, by decide +kernel, kX11_test, rfl, rfl⟩
def bX11_game_0 : CD := [(0, .aload 0), (1, .iconst (0)), (2, .putfield 1100), (5, .aload 0), (6, .aload 0), (7, .getstatic 1102), (10, .iconst (0)), (11, .iaload), (12, .putfield 1148), (15, .aload 0), (16, .getstatic 1102), (19, .iconst (0)), (20, .iconst (0)), (21, .iastore), (22, .aload 0), (23, .getstatic 1103), (26, .iconst (0)), (27, .iconst (0)), (28, .iastore), (29, .aload 0), (30, .getstatic 1104), (33, .iconst (0)), (34, .iconst (-1)), (35, .iastore), (36, .aload 0), (37, .iconst (0)), (38, .putfield 1147), (41, .aload 0), (42, .iconst (-1)), (43, .putfield 1153), (46, .aload 0), (47, .iconst (-1)), (48, .putfield 1154), (51, .aload 0), (52, .iconst (0)), (53, .putfield 1155), (56, .iconst (1)), (57, .istore 1), (58, .aload 0), (59, .invokeinterface 166 12010), (62, .goto_w 100062)]
def bX11_game_1 : CD := [(62, .iload 1), (63, .ifCond .eq 2), (66, .aload 0), (67, .getfield 1150), (70, .ifCond .eq 2), (73, .aload 0), (74, .invokeinterface 172 12011), (77, .istore 1), (78, .goto 100062)]
def bX11_game_2 : CD := [(81, .iload 1), (82, .ifCond .eq 3), (85, .aload 0), (86, .getfield 1154), (89, .iconst (-1)), (90, .if_icmp .eq 8), (93, .goto_w 3)]
def bX11_game_3 : CD := [(93, .aload 0), (94, .getstatic 1103), (97, .iconst (0)), (98, .iload 1), (99, .ifCond .eq 4), (102, .iconst (3)), (103, .goto 5)]
def bX11_game_4 : CD := [(106, .iconst (1)), (107, .goto_w 5)]
def bX11_game_5 : CD := [(107, .iastore), (108, .aload 0), (109, .getstatic 1104), (112, .iconst (0)), (113, .iload 1), (114, .ifCond .eq 6), (117, .aload 0), (118, .getfield 1154), (121, .goto 7)]
def bX11_game_6 : CD := [(124, .aload 0), (125, .getfield 1153), (128, .goto_w 7)]
def bX11_game_7 : CD := [(128, .iastore), (129, .iconst (-1)), (130, .ireturn)]
def bX11_game_8 : CD := [(131, .aload 0), (132, .getstatic 1125), (135, .iconst (0)), (136, .aload 0), (137, .getfield 1155), (140, .iastore), (141, .iconst (0)), (142, .istore 2), (143, .goto_w 100143)]
def bX11_game_9 : CD := [(143, .iload 2), (144, .aload 0), (145, .getfield 1155), (148, .if_icmp .ge 12), (151, .aload 0), (152, .getstatic 1126), (155, .iload 2), (156, .aload 0), (157, .getstatic 1156), (160, .iload 2), (161, .iaload), (162, .iastore), (163, .aload 0), (164, .getstatic 1130), (167, .iload 2), (168, .aload 0), (169, .getstatic 1160), (172, .iload 2), (173, .iaload), (174, .iastore), (175, .aload 0), (176, .getstatic 1131), (179, .iload 2), (180, .aload 0), (181, .getstatic 1161), (184, .iload 2), (185, .iaload), (186, .iastore), (187, .iconst (4)), (188, .iload 2), (189, .imul), (190, .istore 3), (191, .goto_w 100191)]
def bX11_game_10 : CD := [(191, .iload 3), (192, .iconst (4)), (193, .iload 2), (194, .imul), (195, .aload 0), (196, .getstatic 1156), (199, .iload 2), (200, .iaload), (201, .iadd), (202, .if_icmp .ge 11), (205, .aload 0), (206, .getstatic 1127), (209, .iload 3), (210, .aload 0), (211, .getstatic 1157), (214, .iload 3), (215, .iaload), (216, .iastore), (217, .aload 0), (218, .getstatic 1128), (221, .iload 3), (222, .aload 0), (223, .getstatic 1158), (226, .iload 3), (227, .iaload), (228, .iastore), (229, .aload 0), (230, .getstatic 1129), (233, .iload 3), (234, .aload 0), (235, .getstatic 1159), (238, .iload 3), (239, .iaload), (240, .iastore), (241, .iinc 3 (1)), (244, .goto 100191)]
def bX11_game_11 : CD := [(247, .iinc 2 (1)), (250, .goto 100143)]
def bX11_game_12 : CD := [(253, .aload 0), (254, .getfield 1155), (257, .ireturn)]
def bX11_game : List CD := [bX11_game_0, bX11_game_1, bX11_game_2, bX11_game_3, bX11_game_4, bX11_game_5, bX11_game_6, bX11_game_7, bX11_game_8, bX11_game_9, bX11_game_10, bX11_game_11, bX11_game_12]
theorem kX11_game : bX11_game.all (chkL 11 false cX11_game bX11_game) = true := by decide +kernel
theorem mX11_game : MB 174 bX11_game 1 4 := ⟨by decide, by decide +kernel, kX11_game, rfl, rfl⟩
def bX11_fault_0 : CD := [(0, .aload 0), (1, .iconst (0)), (2, .putfield 1100), (5, .iload 1), (6, .ifCond .ne 1), (9, .aload 0), (10, .getstatic 1103), (13, .iconst (0)), (14, .iaload), (15, .goto 3)]
def bX11_fault_1 : CD := [(18, .iload 1), (19, .iconst (1)), (20, .if_icmp .ne 2), (23, .aload 0), (24, .getstatic 1104), (27, .iconst (0)), (28, .iaload), (29, .goto 3)]
def bX11_fault_2 : CD := [(32, .iconst (-1)), (33, .goto_w 3)]
def bX11_fault_3 : CD := [(33, .ireturn)]
def bX11_fault : List CD := [bX11_fault_0, bX11_fault_1, bX11_fault_2, bX11_fault_3]
theorem kX11_fault : bX11_fault.all (chkL 11 false cX11_fault bX11_fault) = true := by decide +kernel
theorem mX11_fault : MB 175 bX11_fault 1 2 := ⟨by decide, by decide +kernel, kX11_fault, rfl, rfl⟩
def bX11_holds_0 : CD := [(0, .iconst (4)), (1, .iload 1), (2, .imul), (3, .istore 2), (4, .goto_w 100004)]
def bX11_holds_1 : CD := [(4, .iload 2), (5, .iconst (4)), (6, .iload 1), (7, .imul), (8, .aload 0), (9, .getstatic 1126), (12, .iload 1), (13, .iaload), (14, .iadd), (15, .if_icmp .ge 11), (18, .aload 0), (19, .getstatic 1162), (22, .aload 0), (23, .getstatic 1127), (26, .iload 2), (27, .iaload), (28, .iconst (15)), (30, .iand), (31, .iaload), (32, .istore 3), (33, .aload 0), (34, .getstatic 1129), (37, .iload 2), (38, .iaload), (39, .istore 4), (41, .aload 0), (42, .getstatic 1128), (45, .iload 2), (46, .iaload), (47, .iconst (60)), (49, .if_icmp .ne 3), (52, .iload 3), (53, .iload 4), (55, .if_icmp .ge 2), (58, .iconst (1)), (59, .goto 7)]
def bX11_holds_2 : CD := [(62, .iconst (0)), (63, .goto 7)]
def bX11_holds_3 : CD := [(66, .aload 0), (67, .getstatic 1128), (70, .iload 2), (71, .iaload), (72, .iconst (62)), (74, .if_icmp .ne 5), (77, .iload 3), (78, .iload 4), (80, .if_icmp .le 4), (83, .iconst (1)), (84, .goto 7)]
def bX11_holds_4 : CD := [(87, .iconst (0)), (88, .goto 7)]
def bX11_holds_5 : CD := [(91, .iload 3), (92, .iload 4), (94, .if_icmp .ne 6), (97, .iconst (1)), (98, .goto 7)]
def bX11_holds_6 : CD := [(101, .iconst (0)), (102, .goto_w 7)]
def bX11_holds_7 : CD := [(102, .istore 5), (104, .iload 5), (106, .aload 0), (107, .getstatic 1127), (110, .iload 2), (111, .iaload), (112, .iconst (15)), (114, .if_icmp .le 8), (117, .iconst (1)), (118, .goto 9)]
def bX11_holds_8 : CD := [(121, .iconst (0)), (122, .goto_w 9)]
def bX11_holds_9 : CD := [(122, .if_icmp .ne 10), (125, .iconst (0)), (126, .ireturn)]
def bX11_holds_10 : CD := [(127, .iinc 2 (1)), (130, .goto 100004)]
def bX11_holds_11 : CD := [(133, .iconst (1)), (134, .ireturn)]
def bX11_holds : List CD := [bX11_holds_0, bX11_holds_1, bX11_holds_2, bX11_holds_3, bX11_holds_4, bX11_holds_5, bX11_holds_6, bX11_holds_7, bX11_holds_8, bX11_holds_9, bX11_holds_10, bX11_holds_11]
theorem kX11_holds : bX11_holds.all (chkL 11 false cX11_holds bX11_holds) = true := by decide +kernel
theorem mX11_holds : MB 176 bX11_holds 2 6 := ⟨by decide, by decide +kernel, kX11_holds, rfl, rfl⟩
def bX11_played_0 : CD := [(0, .aload 0), (1, .getstatic 1162), (4, .iconst (0)), (5, .iload 4), (7, .ifCond .eq 1), (10, .iconst (1)), (11, .goto 2)]
def bX11_played_1 : CD := [(14, .iconst (0)), (15, .goto_w 2)]
def bX11_played_2 : CD := [(15, .iastore), (16, .aload 0), (17, .getstatic 1162), (20, .iconst (1)), (21, .iload 5), (23, .ifCond .eq 3), (26, .iconst (1)), (27, .goto 4)]
def bX11_played_3 : CD := [(30, .iconst (0)), (31, .goto_w 4)]
def bX11_played_4 : CD := [(31, .iastore), (32, .aload 0), (33, .getstatic 1162), (36, .iconst (2)), (37, .aload 0), (38, .getstatic 1108), (41, .iload 1), (42, .baload), (43, .ifCond .eq 5), (46, .iconst (1)), (47, .goto 6)]
def bX11_played_5 : CD := [(50, .iconst (0)), (51, .goto_w 6)]
def bX11_played_6 : CD := [(51, .iastore), (52, .aload 0), (53, .getstatic 1162), (56, .iconst (3)), (57, .iload 6), (59, .ifCond .eq 7), (62, .iconst (1)), (63, .goto 8)]
def bX11_played_7 : CD := [(66, .iconst (0)), (67, .goto_w 8)]
def bX11_played_8 : CD := [(67, .iastore), (68, .aload 0), (69, .getstatic 1162), (72, .iconst (4)), (73, .iload 3), (74, .iastore), (75, .aload 0), (76, .getstatic 1162), (79, .iconst (5)), (80, .iload 2), (81, .iastore), (82, .aload 0), (83, .getstatic 1162), (86, .iconst (6)), (88, .aload 0), (89, .getstatic 1123), (92, .iconst (0)), (93, .iaload), (94, .iastore), (95, .aload 0), (96, .getstatic 1162), (99, .iconst (7)), (101, .aload 0), (102, .getstatic 1110), (105, .iload 1), (106, .iaload), (107, .iastore), (108, .aload 0), (109, .getstatic 1162), (112, .iconst (8)), (114, .aload 0), (115, .getstatic 1107), (118, .iload 1), (119, .iaload), (120, .iastore), (121, .aload 0), (122, .getstatic 1162), (125, .iconst (9)), (127, .aload 0), (128, .getstatic 1114), (131, .iload 1), (132, .iaload), (133, .iastore), (134, .aload 0), (135, .getstatic 1162), (138, .iconst (10)), (140, .aload 0), (141, .getstatic 1123), (144, .iconst (0)), (145, .iaload), (146, .aload 0), (147, .getstatic 1115), (150, .iload 1), (151, .iaload), (152, .isub), (153, .iastore), (154, .iconst (0)), (155, .istore 7), (157, .goto_w 100157)]
def bX11_played_9 : CD := [(157, .iload 7), (159, .aload 0), (160, .getstatic 1125), (163, .iconst (0)), (164, .iaload), (165, .if_icmp .ge 19), (168, .aload 0), (169, .iload 7), (171, .invokeinterface 176 12021), (174, .ifCond .ne 10), (177, .goto 18)]
def bX11_played_10 : CD := [(180, .aload 0), (181, .getstatic 1130), (184, .iload 7), (186, .iaload), (187, .iconst (3)), (188, .if_icmp .ne 11), (191, .aload 0), (192, .getstatic 1162), (195, .iconst (9)), (197, .iaload), (198, .ireturn)]
def bX11_played_11 : CD := [(199, .aload 0), (200, .getstatic 1130), (203, .iload 7), (205, .iaload), (206, .ifCond .ne 12), (209, .aload 0), (210, .getstatic 1162), (213, .iconst (9)), (215, .iaload), (216, .aload 0), (217, .getstatic 1131), (220, .iload 7), (222, .iaload), (223, .iadd), (224, .goto 14)]
def bX11_played_12 : CD := [(227, .aload 0), (228, .getstatic 1130), (231, .iload 7), (233, .iaload), (234, .iconst (1)), (235, .if_icmp .ne 13), (238, .aload 0), (239, .getstatic 1162), (242, .iconst (9)), (244, .iaload), (245, .aload 0), (246, .getstatic 1131), (249, .iload 7), (251, .iaload), (252, .isub), (253, .goto 14)]
def bX11_played_13 : CD := [(256, .aload 0), (257, .getstatic 1131), (260, .iload 7), (262, .iaload), (263, .goto_w 14)]
def bX11_played_14 : CD := [(263, .istore 8), (265, .aload 0), (266, .getstatic 1162), (269, .iconst (9)), (271, .iload 8), (273, .ifCond .ge 15), (276, .iconst (0)), (277, .goto 17)]
def bX11_played_15 : CD := [(280, .iload 8), (282, .iconst (9999)), (285, .if_icmp .le 16), (288, .iconst (9999)), (291, .goto 17)]
def bX11_played_16 : CD := [(294, .iload 8), (296, .goto_w 17)]
def bX11_played_17 : CD := [(296, .iastore), (297, .goto_w 18)]
def bX11_played_18 : CD := [(297, .iinc 7 (1)), (300, .goto 100157)]
def bX11_played_19 : CD := [(303, .aload 0), (304, .getstatic 1162), (307, .iconst (9)), (309, .iaload), (310, .ireturn)]
def bX11_played : List CD := [bX11_played_0, bX11_played_1, bX11_played_2, bX11_played_3, bX11_played_4, bX11_played_5, bX11_played_6, bX11_played_7, bX11_played_8, bX11_played_9, bX11_played_10, bX11_played_11, bX11_played_12, bX11_played_13, bX11_played_14, bX11_played_15, bX11_played_16, bX11_played_17, bX11_played_18, bX11_played_19]
theorem kX11_played : bX11_played.all (chkL 11 false cX11_played bX11_played) = true := by decide +kernel
theorem mX11_played : MB 177 bX11_played 1 9 := ⟨by decide, by decide +kernel, kX11_played, rfl, rfl⟩
def bX11_said_0 : CD := [(0, .aload 0), (1, .iconst (0)), (2, .putfield 1100), (5, .aload 0), (6, .iload 1), (7, .invokeinterface 140 12021), (10, .ifCond .eq 1), (13, .iload 2), (14, .aload 0), (15, .getstatic 1124), (18, .iconst (0)), (19, .iaload), (20, .iconst (23)), (22, .invokeinterface 136 31), (25, .ifCond .eq 1), (28, .iload 3), (29, .iconst (0)), (30, .iconst (50)), (32, .invokeinterface 136 31), (35, .ifCond .ne 2), (38, .goto_w 1)]
def bX11_said_1 : CD := [(38, .iconst (-1)), (39, .ireturn)]
def bX11_said_2 : CD := [(40, .aload 0), (41, .getstatic 1124), (44, .iconst (0)), (45, .iload 2), (46, .iastore), (47, .iload 4), (49, .ifCond .eq 3), (52, .aload 0), (53, .getstatic 1115), (56, .iload 1), (57, .aload 0), (58, .getstatic 1123), (61, .iconst (0)), (62, .iaload), (63, .iastore), (64, .goto_w 3)]
def bX11_said_3 : CD := [(64, .aload 0), (65, .getstatic 1114), (68, .iload 1), (69, .aload 0), (70, .iload 1), (71, .iload 2), (72, .iload 3), (73, .iload 4), (75, .iload 5), (77, .iconst (0)), (78, .invokeinterface 177 12071), (81, .iastore), (82, .aload 0), (83, .getstatic 1117), (86, .iload 1), (87, .iconst (1)), (88, .bastore), (89, .aload 0), (90, .getstatic 1116), (93, .iload 1), (94, .dup2), (95, .iaload), (96, .iload 3), (97, .iadd), (98, .iastore), (99, .aload 0), (100, .getstatic 1114), (103, .iload 1), (104, .iaload), (105, .ireturn)]
def bX11_said : List CD := [bX11_said_0, bX11_said_1, bX11_said_2, bX11_said_3]
theorem kX11_said : bX11_said.all (chkL 11 false cX11_said bX11_said) = true := by decide +kernel
theorem mX11_said : MB 178 bX11_said 1 6 := ⟨by decide, by decide +kernel, kX11_said, rfl, rfl⟩
def bX11_night_0 : CD := [(0, .aload 0), (1, .iconst (0)), (2, .putfield 1100), (5, .aload 0), (6, .getstatic 1123), (9, .iconst (0)), (10, .iaload), (11, .iconst (9999)), (14, .if_icmp .ne 1), (17, .iconst (-1)), (18, .ireturn)]
def bX11_night_1 : CD := [(19, .iconst (0)), (20, .istore 1), (21, .iconst (0)), (22, .istore 2), (23, .goto_w 100023)]
def bX11_night_2 : CD := [(23, .iload 2), (24, .aload 0), (25, .getstatic 1105), (28, .iconst (0)), (29, .iaload), (30, .if_icmp .ge 4), (33, .aload 0), (34, .getstatic 1117), (37, .iload 2), (38, .baload), (39, .ifCond .ne 3), (42, .iinc 1 (1)), (45, .aload 0), (46, .getstatic 1114), (49, .iload 2), (50, .aload 0), (51, .iload 2), (52, .iconst (23)), (54, .iconst (0)), (55, .iconst (0)), (56, .iconst (0)), (57, .iconst (1)), (58, .invokeinterface 177 12071), (61, .iastore), (62, .goto_w 3)]
def bX11_night_3 : CD := [(62, .iinc 2 (1)), (65, .goto 100023)]
def bX11_night_4 : CD := [(68, .iconst (0)), (69, .istore 2), (70, .goto_w 100070)]
def bX11_night_5 : CD := [(70, .iload 2), (71, .aload 0), (72, .getstatic 1105), (75, .iconst (0)), (76, .iaload), (77, .if_icmp .ge 6), (80, .aload 0), (81, .getstatic 1117), (84, .iload 2), (85, .iconst (0)), (86, .bastore), (87, .aload 0), (88, .getstatic 1116), (91, .iload 2), (92, .iconst (0)), (93, .iastore), (94, .iinc 2 (1)), (97, .goto 100070)]
def bX11_night_6 : CD := [(100, .aload 0), (101, .getstatic 1123), (104, .iconst (0)), (105, .dup2), (106, .iaload), (107, .iconst (1)), (108, .iadd), (109, .iastore), (110, .aload 0), (111, .getstatic 1124), (114, .iconst (0)), (115, .iconst (0)), (116, .iastore), (117, .iload 1), (118, .ireturn)]
def bX11_night : List CD := [bX11_night_0, bX11_night_1, bX11_night_2, bX11_night_3, bX11_night_4, bX11_night_5, bX11_night_6]
theorem kX11_night : bX11_night.all (chkL 11 false cX11_night bX11_night) = true := by decide +kernel
theorem mX11_night : MB 179 bX11_night 1 3 := ⟨by decide, by decide +kernel, kX11_night, rfl, rfl⟩
def bX11_paysSilence_0 : CD := [(0, .aload 0), (1, .iconst (0)), (2, .putfield 1100), (5, .aload 0), (6, .iload 1), (7, .invokeinterface 140 12021), (10, .ifCond .eq 1), (13, .aload 0), (14, .iload 1), (15, .iconst (23)), (17, .iconst (0)), (18, .iconst (0)), (19, .iconst (0)), (20, .iconst (1)), (21, .invokeinterface 177 12071), (24, .aload 0), (25, .getstatic 1114), (28, .iload 1), (29, .iaload), (30, .if_icmp .le 1), (33, .iconst (1)), (34, .goto 2)]
def bX11_paysSilence_1 : CD := [(37, .iconst (0)), (38, .goto_w 2)]
def bX11_paysSilence_2 : CD := [(38, .ireturn)]
def bX11_paysSilence : List CD := [bX11_paysSilence_0, bX11_paysSilence_1, bX11_paysSilence_2]
theorem kX11_paysSilence : bX11_paysSilence.all (chkL 11 false cX11_paysSilence bX11_paysSilence) = true := by decide +kernel
theorem mX11_paysSilence : MB 180 bX11_paysSilence 2 2 := ⟨by decide, by decide +kernel, kX11_paysSilence, rfl, rfl⟩
def bX11_tell_0 : CD := [(0, .aload 0), (1, .iconst (0)), (2, .putfield 1100), (5, .aload 0), (6, .iload 1), (7, .invokeinterface 140 12021), (10, .ifCond .ne 1), (13, .iconst (-100)), (15, .ireturn)]
def bX11_tell_1 : CD := [(16, .iload 2), (17, .tableswitch 22 (0) (13) #[2, 3, 4, 7, 8, 9, 10, 11, 14, 15, 16, 17, 18, 19])]
def bX11_tell_2 : CD := [(88, .aload 0), (89, .getstatic 1106), (92, .iload 1), (93, .iaload), (94, .ireturn)]
def bX11_tell_3 : CD := [(95, .aload 0), (96, .getstatic 1107), (99, .iload 1), (100, .iaload), (101, .ireturn)]
def bX11_tell_4 : CD := [(102, .aload 0), (103, .getstatic 1108), (106, .iload 1), (107, .baload), (108, .ifCond .eq 5), (111, .iconst (1)), (112, .goto 6)]
def bX11_tell_5 : CD := [(115, .iconst (0)), (116, .goto_w 6)]
def bX11_tell_6 : CD := [(116, .ireturn)]
def bX11_tell_7 : CD := [(117, .aload 0), (118, .getstatic 1109), (121, .iload 1), (122, .iaload), (123, .ireturn)]
def bX11_tell_8 : CD := [(124, .aload 0), (125, .getstatic 1110), (128, .iload 1), (129, .iaload), (130, .ireturn)]
def bX11_tell_9 : CD := [(131, .aload 0), (132, .getstatic 1111), (135, .iload 1), (136, .iaload), (137, .ireturn)]
def bX11_tell_10 : CD := [(138, .aload 0), (139, .getstatic 1112), (142, .iload 1), (143, .iaload), (144, .ireturn)]
def bX11_tell_11 : CD := [(145, .aload 0), (146, .getstatic 1110), (149, .iload 1), (150, .iaload), (151, .aload 0), (152, .getstatic 1111), (155, .iload 1), (156, .iaload), (157, .if_icmp .ge 12), (160, .aload 0), (161, .getstatic 1110), (164, .iload 1), (165, .iaload), (166, .aload 0), (167, .getstatic 1111), (170, .iload 1), (171, .iaload), (172, .iadd), (173, .iconst (1)), (174, .iadd), (175, .iconst (2)), (176, .idiv), (177, .goto 13)]
def bX11_tell_12 : CD := [(180, .iconst (-1)), (181, .goto_w 13)]
def bX11_tell_13 : CD := [(181, .ireturn)]
def bX11_tell_14 : CD := [(182, .aload 0), (183, .getstatic 1113), (186, .iload 1), (187, .iaload), (188, .ireturn)]
def bX11_tell_15 : CD := [(189, .aload 0), (190, .getstatic 1114), (193, .iload 1), (194, .iaload), (195, .ireturn)]
def bX11_tell_16 : CD := [(196, .aload 0), (197, .getstatic 1123), (200, .iconst (0)), (201, .iaload), (202, .aload 0), (203, .getstatic 1115), (206, .iload 1), (207, .iaload), (208, .isub), (209, .ireturn)]
def bX11_tell_17 : CD := [(210, .aload 0), (211, .getstatic 1116), (214, .iload 1), (215, .iaload), (216, .ireturn)]
def bX11_tell_18 : CD := [(217, .aload 0), (218, .getstatic 1118), (221, .iload 1), (222, .iaload), (223, .ireturn)]
def bX11_tell_19 : CD := [(224, .aload 0), (225, .getstatic 1117), (228, .iload 1), (229, .baload), (230, .ifCond .eq 20), (233, .iconst (1)), (234, .goto 21)]
def bX11_tell_20 : CD := [(237, .iconst (0)), (238, .goto_w 21)]
def bX11_tell_21 : CD := [(238, .ireturn)]
def bX11_tell_22 : CD := [(239, .iconst (-100)), (241, .ireturn)]
def bX11_tell : List CD := [bX11_tell_0, bX11_tell_1, bX11_tell_2, bX11_tell_3, bX11_tell_4, bX11_tell_5, bX11_tell_6, bX11_tell_7, bX11_tell_8, bX11_tell_9, bX11_tell_10, bX11_tell_11, bX11_tell_12, bX11_tell_13, bX11_tell_14, bX11_tell_15, bX11_tell_16, bX11_tell_17, bX11_tell_18, bX11_tell_19, bX11_tell_20, bX11_tell_21, bX11_tell_22]
theorem kX11_tell : bX11_tell.all (chkL 11 false cX11_tell bX11_tell) = true := by decide +kernel
theorem mX11_tell : MB 181 bX11_tell 1 3 := ⟨by decide, by decide +kernel, kX11_tell, rfl, rfl⟩
def bX11_helper_0 : CD := [(0, .aload 0), (1, .iconst (0)), (2, .putfield 1100), (5, .aload 0), (6, .getstatic 1132), (9, .iconst (0)), (10, .iaload), (11, .iconst (6)), (13, .if_icmp .eq 1), (16, .iload 1), (17, .iconst (0)), (18, .iconst (16383)), (21, .invokeinterface 136 31), (24, .ifCond .ne 2), (27, .goto_w 1)]
def bX11_helper_1 : CD := [(27, .iconst (-1)), (28, .ireturn)]
def bX11_helper_2 : CD := [(29, .aload 0), (30, .getstatic 1133), (33, .aload 0), (34, .getstatic 1132), (37, .iconst (0)), (38, .iaload), (39, .iload 1), (40, .iastore), (41, .aload 0), (42, .getstatic 1132), (45, .iconst (0)), (46, .dup2), (47, .iaload), (48, .iconst (1)), (49, .iadd), (50, .iastore), (51, .aload 0), (52, .getstatic 1132), (55, .iconst (0)), (56, .iaload), (57, .iconst (1)), (58, .isub), (59, .ireturn)]
def bX11_helper : List CD := [bX11_helper_0, bX11_helper_1, bX11_helper_2]
theorem kX11_helper : bX11_helper.all (chkL 11 false cX11_helper bX11_helper) = true := by decide +kernel
theorem mX11_helper : MB 182 bX11_helper 1 2 := ⟨by decide, by decide +kernel, kX11_helper, rfl, rfl⟩
def bX11_ones_0 : CD := [(0, .iconst (0)), (1, .istore 1), (2, .iload 0), (3, .istore 2), (4, .goto_w 100004)]
def bX11_ones_1 : CD := [(4, .iload 2), (5, .ifCond .eq 2), (8, .iinc 1 (1)), (11, .iload 2), (12, .iload 2), (13, .iconst (1)), (14, .isub), (15, .iand), (16, .istore 2), (17, .goto 100004)]
def bX11_ones_2 : CD := [(20, .iload 1), (21, .ireturn)]
def bX11_ones : List CD := [bX11_ones_0, bX11_ones_1, bX11_ones_2]
theorem kX11_ones : bX11_ones.all (chkL 11 false cX11_ones bX11_ones) = true := by decide +kernel
theorem mX11_ones : MB 183 bX11_ones 1 3 := ⟨by decide, by decide +kernel, kX11_ones, rfl, rfl⟩
def bX11_may_0 : CD := [(0, .iload 2), (1, .invokeinterface 183 11), (4, .iload 3), (5, .if_icmp .eq 1), (8, .iconst (0)), (9, .ireturn)]
def bX11_may_1 : CD := [(10, .iconst (0)), (11, .istore 4), (13, .goto_w 100013)]
def bX11_may_2 : CD := [(13, .iload 4), (15, .aload 0), (16, .getstatic 1132), (19, .iconst (0)), (20, .iaload), (21, .if_icmp .ge 4), (24, .iload 2), (25, .iload 4), (27, .ishr), (28, .iconst (1)), (29, .iand), (30, .ifCond .eq 3), (33, .aload 0), (34, .getstatic 1133), (37, .iload 4), (39, .iaload), (40, .iload 1), (41, .ishr), (42, .iconst (1)), (43, .iand), (44, .ifCond .eq 3), (47, .iconst (0)), (48, .ireturn)]
def bX11_may_3 : CD := [(49, .iinc 4 (1)), (52, .goto 100013)]
def bX11_may_4 : CD := [(55, .iconst (1)), (56, .ireturn)]
def bX11_may : List CD := [bX11_may_0, bX11_may_1, bX11_may_2, bX11_may_3, bX11_may_4]
theorem kX11_may : bX11_may.all (chkL 11 false cX11_may bX11_may) = true := by decide +kernel
theorem mX11_may : MB 184 bX11_may 2 5 := ⟨by decide, by decide +kernel, kX11_may, rfl, rfl⟩
def bX11_rests_0 : CD := [(0, .iload 3), (1, .iconst (1)), (2, .if_icmp .lt 1), (5, .iload 0), (6, .iload 1), (7, .iand), (8, .ifCond .ne 3), (11, .goto_w 1)]
def bX11_rests_1 : CD := [(11, .iload 3), (12, .iconst (2)), (13, .if_icmp .lt 2), (16, .iload 0), (17, .iload 2), (18, .iand), (19, .ifCond .ne 3), (22, .goto_w 2)]
def bX11_rests_2 : CD := [(22, .iconst (1)), (23, .goto 4)]
def bX11_rests_3 : CD := [(26, .iconst (0)), (27, .goto_w 4)]
def bX11_rests_4 : CD := [(27, .ireturn)]
def bX11_rests : List CD := [bX11_rests_0, bX11_rests_1, bX11_rests_2, bX11_rests_3, bX11_rests_4]
theorem kX11_rests : bX11_rests.all (chkL 11 false cX11_rests bX11_rests) = true := by decide +kernel
theorem mX11_rests : MB 185 bX11_rests 2 4 := ⟨by decide, by decide +kernel, kX11_rests, rfl, rfl⟩
def bX11_nextSet_0 : CD := [(0, .iconst (0)), (1, .istore 7), (3, .goto_w 100003)]
def bX11_nextSet_1 : CD := [(3, .iload 7), (5, .iconst (1)), (6, .aload 0), (7, .getstatic 1132), (10, .iconst (0)), (11, .iaload), (12, .ishl), (13, .if_icmp .ge 4), (16, .aload 0), (17, .iload 1), (18, .iload 7), (20, .iload 3), (21, .invokeinterface 184 12041), (24, .ifCond .eq 3), (27, .iload 7), (29, .iload 5), (31, .iload 6), (33, .iload 4), (35, .invokeinterface 185 41), (38, .ifCond .eq 3), (41, .iload 1), (42, .iload 2), (43, .iconst (1)), (44, .isub), (45, .if_icmp .eq 2), (48, .aload 0), (49, .getstatic 1163), (52, .iconst (4096)), (55, .iload 1), (56, .iconst (1)), (57, .iadd), (58, .imul), (59, .iconst (64)), (61, .iload 7), (63, .imul), (64, .iadd), (65, .iload 5), (67, .iadd), (68, .baload), (69, .ifCond .eq 3), (72, .goto_w 2)]
def bX11_nextSet_2 : CD := [(72, .iload 7), (74, .ireturn)]
def bX11_nextSet_3 : CD := [(75, .iinc 7 (1)), (78, .goto 100003)]
def bX11_nextSet_4 : CD := [(81, .iconst (-1)), (82, .ireturn)]
def bX11_nextSet : List CD := [bX11_nextSet_0, bX11_nextSet_1, bX11_nextSet_2, bX11_nextSet_3, bX11_nextSet_4]
theorem kX11_nextSet : bX11_nextSet.all (chkL 11 false cX11_nextSet bX11_nextSet) = true := by decide +kernel
theorem mX11_nextSet : MB 186 bX11_nextSet 1 8 := ⟨by decide, by decide +kernel, kX11_nextSet, rfl, rfl⟩
def bX11_watch_0 : CD := [(0, .aload 0), (1, .iconst (0)), (2, .putfield 1100), (5, .iload 1), (6, .iconst (1)), (7, .iconst (14)), (9, .invokeinterface 136 31), (12, .ifCond .eq 1), (15, .iload 2), (16, .iconst (1)), (17, .iconst (3)), (18, .invokeinterface 136 31), (21, .ifCond .eq 1), (24, .iload 3), (25, .iconst (0)), (26, .iconst (2)), (27, .invokeinterface 136 31), (30, .ifCond .ne 2), (33, .goto_w 1)]
def bX11_watch_1 : CD := [(33, .iconst (-1)), (34, .ireturn)]
def bX11_watch_2 : CD := [(35, .iconst (1)), (36, .aload 0), (37, .getstatic 1132), (40, .iconst (0)), (41, .iaload), (42, .ishl), (43, .istore 4), (45, .iload 1), (46, .iconst (1)), (47, .isub), (48, .istore 5), (50, .goto_w 100050)]
def bX11_watch_3 : CD := [(50, .iload 5), (52, .ifCond .le 13), (55, .iconst (0)), (56, .istore 6), (58, .goto_w 100058)]
def bX11_watch_4 : CD := [(58, .iload 6), (60, .iload 4), (62, .if_icmp .ge 12), (65, .iconst (0)), (66, .istore 7), (68, .goto_w 100068)]
def bX11_watch_5 : CD := [(68, .iload 7), (70, .iload 4), (72, .if_icmp .ge 11), (75, .iload 6), (77, .invokeinterface 183 11), (80, .iload 2), (81, .if_icmp .ne 7), (84, .iload 7), (86, .invokeinterface 183 11), (89, .iload 2), (90, .if_icmp .eq 6), (93, .iload 7), (95, .ifCond .ne 7), (98, .goto_w 6)]
def bX11_watch_6 : CD := [(98, .iconst (1)), (99, .goto 8)]
def bX11_watch_7 : CD := [(102, .iconst (0)), (103, .goto_w 8)]
def bX11_watch_8 : CD := [(103, .istore 8), (105, .aload 0), (106, .getstatic 1163), (109, .iconst (4096)), (112, .iload 5), (114, .imul), (115, .iconst (64)), (117, .iload 6), (119, .imul), (120, .iadd), (121, .iload 7), (123, .iadd), (124, .iload 8), (126, .ifCond .eq 9), (129, .aload 0), (130, .iload 5), (132, .iload 1), (133, .iload 2), (134, .iload 3), (135, .iload 6), (137, .iload 7), (139, .invokeinterface 186 12071), (142, .iconst (-1)), (143, .if_icmp .eq 9), (146, .iconst (1)), (147, .goto 10)]
def bX11_watch_9 : CD := [(150, .iconst (0)), (151, .goto_w 10)]
def bX11_watch_10 : CD := [(151, .bastore), (152, .iinc 7 (1)), (155, .goto 100068)]
def bX11_watch_11 : CD := [(158, .iinc 6 (1)), (161, .goto 100058)]
def bX11_watch_12 : CD := [(164, .iinc 5 (-1)), (167, .goto 100050)]
def bX11_watch_13 : CD := [(170, .aload 0), (171, .iconst (0)), (172, .iload 1), (173, .iload 2), (174, .iload 3), (175, .iconst (0)), (176, .iconst (0)), (177, .invokeinterface 186 12071), (180, .iconst (-1)), (181, .if_icmp .ne 14), (184, .iconst (-1)), (185, .ireturn)]
def bX11_watch_14 : CD := [(186, .iconst (0)), (187, .istore 5), (189, .iconst (0)), (190, .istore 6), (192, .iconst (0)), (193, .istore 7), (195, .goto_w 100195)]
def bX11_watch_15 : CD := [(195, .iload 7), (197, .iload 1), (198, .if_icmp .ge 16), (201, .aload 0), (202, .iload 7), (204, .iload 1), (205, .iload 2), (206, .iload 3), (207, .iload 5), (209, .iload 6), (211, .invokeinterface 186 12071), (214, .istore 8), (216, .aload 0), (217, .getstatic 1135), (220, .iload 7), (222, .iload 8), (224, .iastore), (225, .iload 5), (227, .istore 6), (229, .iload 8), (231, .istore 5), (233, .iinc 7 (1)), (236, .goto 100195)]
def bX11_watch_16 : CD := [(239, .aload 0), (240, .getstatic 1134), (243, .iconst (0)), (244, .iload 1), (245, .iastore), (246, .iload 1), (247, .ireturn)]
def bX11_watch : List CD := [bX11_watch_0, bX11_watch_1, bX11_watch_2, bX11_watch_3, bX11_watch_4, bX11_watch_5, bX11_watch_6, bX11_watch_7, bX11_watch_8, bX11_watch_9, bX11_watch_10, bX11_watch_11, bX11_watch_12, bX11_watch_13, bX11_watch_14, bX11_watch_15, bX11_watch_16]
theorem kX11_watch : bX11_watch.all (chkL 11 false cX11_watch bX11_watch) = true := by decide +kernel
theorem mX11_watch : MB 187 bX11_watch 1 9 := ⟨by decide, by decide +kernel, kX11_watch, rfl, rfl⟩
def bX11_watcher_0 : CD := [(0, .aload 0), (1, .iconst (0)), (2, .putfield 1100), (5, .iload 1), (6, .iconst (0)), (7, .aload 0), (8, .getstatic 1134), (11, .iconst (0)), (12, .iaload), (13, .iconst (1)), (14, .isub), (15, .invokeinterface 136 31), (18, .ifCond .eq 1), (21, .aload 0), (22, .getstatic 1135), (25, .iload 1), (26, .iaload), (27, .goto 2)]
def bX11_watcher_1 : CD := [(30, .iconst (-1)), (31, .goto_w 2)]
def bX11_watcher_2 : CD := [(31, .ireturn)]
def bX11_watcher : List CD := [bX11_watcher_0, bX11_watcher_1, bX11_watcher_2]
theorem kX11_watcher : bX11_watcher.all (chkL 11 false cX11_watcher bX11_watcher) = true := by decide +kernel
theorem mX11_watcher : MB 188 bX11_watcher 1 2 := ⟨by decide, by decide +kernel, kX11_watcher, rfl, rfl⟩
def bX11_tableOf_0 : CD := [(0, .iload 2), (1, .iload 1), (2, .idiv), (3, .iload 3), (4, .iload 2), (5, .iload 1), (6, .irem), (7, .imul), (8, .iadd), (9, .iload 0), (10, .irem), (11, .ireturn)]
def bX11_tableOf : List CD := [bX11_tableOf_0]
theorem kX11_tableOf : bX11_tableOf.all (chkL 11 false cX11_tableOf bX11_tableOf) = true := by decide +kernel
theorem mX11_tableOf : MB 189 bX11_tableOf 1 4 := ⟨by decide, by decide +kernel, kX11_tableOf, rfl, rfl⟩
def bX11_areTables_0 : CD := [(0, .iload 1), (1, .iconst (2)), (2, .iconst (12)), (4, .invokeinterface 136 31), (7, .ifCond .eq 1), (10, .iload 2), (11, .iconst (2)), (12, .iconst (8)), (14, .invokeinterface 136 31), (17, .ifCond .eq 1), (20, .iload 1), (21, .iload 2), (22, .imul), (23, .aload 0), (24, .getstatic 1105), (27, .iconst (0)), (28, .iaload), (29, .if_icmp .lt 1), (32, .iconst (1)), (33, .goto 2)]
def bX11_areTables_1 : CD := [(36, .iconst (0)), (37, .goto_w 2)]
def bX11_areTables_2 : CD := [(37, .ireturn)]
def bX11_areTables : List CD := [bX11_areTables_0, bX11_areTables_1, bX11_areTables_2]
theorem kX11_areTables : bX11_areTables.all (chkL 11 false cX11_areTables bX11_areTables) = true := by decide +kernel
theorem mX11_areTables : MB 190 bX11_areTables 2 3 := ⟨by decide, by decide +kernel, kX11_areTables, rfl, rfl⟩
def bX11_table_0 : CD := [(0, .aload 0), (1, .iconst (0)), (2, .putfield 1100), (5, .aload 0), (6, .iload 1), (7, .iload 2), (8, .invokeinterface 190 12031), (11, .ifCond .eq 1), (14, .aload 0), (15, .iload 3), (16, .invokeinterface 140 12021), (19, .ifCond .eq 1), (22, .iload 4), (24, .iconst (0)), (25, .iconst (19)), (27, .invokeinterface 136 31), (30, .ifCond .eq 1), (33, .iload 1), (34, .iload 2), (35, .iload 3), (36, .iload 4), (38, .invokeinterface 189 41), (41, .goto 2)]
def bX11_table_1 : CD := [(44, .iconst (-1)), (45, .goto_w 2)]
def bX11_table_2 : CD := [(45, .ireturn)]
def bX11_table : List CD := [bX11_table_0, bX11_table_1, bX11_table_2]
theorem kX11_table : bX11_table.all (chkL 11 false cX11_table bX11_table) = true := by decide +kernel
theorem mX11_table : MB 191 bX11_table 1 5 := ⟨by decide, by decide +kernel, kX11_table, rfl, rfl⟩
def bX11_met_0 : CD := [(0, .aload 0), (1, .iconst (0)), (2, .putfield 1100), (5, .aload 0), (6, .iload 1), (7, .iload 2), (8, .invokeinterface 190 12031), (11, .ifCond .eq 1), (14, .iload 3), (15, .iconst (1)), (16, .iconst (20)), (18, .invokeinterface 136 31), (21, .ifCond .eq 1), (24, .aload 0), (25, .getstatic 1105), (28, .iconst (0)), (29, .iaload), (30, .ifCond .eq 1), (33, .iload 4), (35, .iconst (0)), (36, .iconst (2)), (37, .invokeinterface 136 31), (40, .ifCond .ne 2), (43, .goto_w 1)]
def bX11_met_1 : CD := [(43, .iconst (-1)), (44, .ireturn)]
def bX11_met_2 : CD := [(45, .iconst (0)), (46, .istore 5), (48, .iconst (24)), (50, .istore 6), (52, .iconst (0)), (53, .istore 7), (55, .iconst (0)), (56, .istore 8), (58, .goto_w 100058)]
def bX11_met_3 : CD := [(58, .iload 8), (60, .aload 0), (61, .getstatic 1105), (64, .iconst (0)), (65, .iaload), (66, .if_icmp .ge 17), (69, .iconst (0)), (70, .istore 9), (72, .iconst (0)), (73, .istore 10), (75, .goto_w 100075)]
def bX11_met_4 : CD := [(75, .iload 10), (77, .aload 0), (78, .getstatic 1105), (81, .iconst (0)), (82, .iaload), (83, .if_icmp .ge 12), (86, .iconst (0)), (87, .istore 11), (89, .iconst (0)), (90, .istore 12), (92, .goto_w 100092)]
def bX11_met_5 : CD := [(92, .iload 12), (94, .iload 3), (95, .if_icmp .ge 9), (98, .iload 11), (100, .ifCond .ne 6), (103, .iload 1), (104, .iload 2), (105, .iload 8), (107, .iload 12), (109, .invokeinterface 189 41), (112, .iload 1), (113, .iload 2), (114, .iload 10), (116, .iload 12), (118, .invokeinterface 189 41), (121, .if_icmp .ne 7), (124, .goto_w 6)]
def bX11_met_6 : CD := [(124, .iconst (1)), (125, .goto 8)]
def bX11_met_7 : CD := [(128, .iconst (0)), (129, .goto_w 8)]
def bX11_met_8 : CD := [(129, .istore 11), (131, .iinc 12 (1)), (134, .goto 100092)]
def bX11_met_9 : CD := [(137, .iload 9), (139, .iload 8), (141, .iload 10), (143, .if_icmp .eq 10), (146, .iload 11), (148, .ifCond .eq 10), (151, .iconst (1)), (152, .goto 11)]
def bX11_met_10 : CD := [(155, .iconst (0)), (156, .goto_w 11)]
def bX11_met_11 : CD := [(156, .iadd), (157, .istore 9), (159, .iinc 10 (1)), (162, .goto 100075)]
def bX11_met_12 : CD := [(165, .iload 5), (167, .iload 9), (169, .iadd), (170, .istore 5), (172, .iload 9), (174, .iload 6), (176, .if_icmp .ge 13), (179, .iload 9), (181, .goto 14)]
def bX11_met_13 : CD := [(184, .iload 6), (186, .goto_w 14)]
def bX11_met_14 : CD := [(186, .istore 6), (188, .iload 9), (190, .iload 7), (192, .if_icmp .le 15), (195, .iload 9), (197, .goto 16)]
def bX11_met_15 : CD := [(200, .iload 7), (202, .goto_w 16)]
def bX11_met_16 : CD := [(202, .istore 7), (204, .iinc 8 (1)), (207, .goto 100058)]
def bX11_met_17 : CD := [(210, .iload 4), (212, .ifCond .ne 18), (215, .iload 5), (217, .iconst (2)), (218, .idiv), (219, .goto 20)]
def bX11_met_18 : CD := [(222, .iload 4), (224, .iconst (1)), (225, .if_icmp .ne 19), (228, .iload 6), (230, .goto 20)]
def bX11_met_19 : CD := [(233, .iload 7), (235, .goto_w 20)]
def bX11_met_20 : CD := [(235, .ireturn)]
def bX11_met : List CD := [bX11_met_0, bX11_met_1, bX11_met_2, bX11_met_3, bX11_met_4, bX11_met_5, bX11_met_6, bX11_met_7, bX11_met_8, bX11_met_9, bX11_met_10, bX11_met_11, bX11_met_12, bX11_met_13, bX11_met_14, bX11_met_15, bX11_met_16, bX11_met_17, bX11_met_18, bX11_met_19, bX11_met_20]
theorem kX11_met : bX11_met.all (chkL 11 false cX11_met bX11_met) = true := by decide +kernel
theorem mX11_met : MB 192 bX11_met 1 13 := ⟨by decide, by decide +kernel, kX11_met, rfl, rfl⟩
def bX11_host_0 : CD := [(0, .aload 0), (1, .iconst (0)), (2, .putfield 1100), (5, .aload 0), (6, .getstatic 1136), (9, .iconst (0)), (10, .iaload), (11, .iconst (8)), (13, .if_icmp .ne 1), (16, .iconst (-1)), (17, .ireturn)]
def bX11_host_1 : CD := [(18, .aload 0), (19, .getstatic 1136), (22, .iconst (0)), (23, .iaload), (24, .istore 1), (25, .aload 0), (26, .getstatic 1136), (29, .iconst (0)), (30, .dup2), (31, .iaload), (32, .iconst (1)), (33, .iadd), (34, .iastore), (35, .iconst (0)), (36, .istore 2), (37, .goto_w 100037)]
def bX11_host_2 : CD := [(37, .iload 2), (38, .iconst (24)), (40, .if_icmp .ge 3), (43, .aload 0), (44, .getstatic 1137), (47, .iconst (24)), (49, .iload 1), (50, .imul), (51, .iload 2), (52, .iadd), (53, .iconst (0)), (54, .iastore), (55, .iinc 2 (1)), (58, .goto 100037)]
def bX11_host_3 : CD := [(61, .iload 1), (62, .ireturn)]
def bX11_host : List CD := [bX11_host_0, bX11_host_1, bX11_host_2, bX11_host_3]
theorem kX11_host : bX11_host.all (chkL 11 false cX11_host bX11_host) = true := by decide +kernel
theorem mX11_host : MB 193 bX11_host 1 3 := ⟨by decide, by decide +kernel, kX11_host, rfl, rfl⟩
def bX11_like_0 : CD := [(0, .aload 0), (1, .iconst (0)), (2, .putfield 1100), (5, .iload 1), (6, .iconst (0)), (7, .aload 0), (8, .getstatic 1136), (11, .iconst (0)), (12, .iaload), (13, .iconst (1)), (14, .isub), (15, .invokeinterface 136 31), (18, .ifCond .eq 1), (21, .aload 0), (22, .iload 2), (23, .invokeinterface 140 12021), (26, .ifCond .eq 1), (29, .iload 3), (30, .iconst (-1)), (31, .iconst (9)), (33, .invokeinterface 136 31), (36, .ifCond .ne 2), (39, .goto_w 1)]
def bX11_like_1 : CD := [(39, .iconst (0)), (40, .ireturn)]
def bX11_like_2 : CD := [(41, .aload 0), (42, .getstatic 1137), (45, .iconst (24)), (47, .iload 1), (48, .imul), (49, .iload 2), (50, .iadd), (51, .iload 3), (52, .iastore), (53, .iconst (1)), (54, .ireturn)]
def bX11_like : List CD := [bX11_like_0, bX11_like_1, bX11_like_2]
theorem kX11_like : bX11_like.all (chkL 11 false cX11_like bX11_like) = true := by decide +kernel
theorem mX11_like : MB 194 bX11_like 2 4 := ⟨by decide, by decide +kernel, kX11_like, rfl, rfl⟩
def bX11_brings_0 : CD := [(0, .iload 2), (1, .iload 3), (2, .ishr), (3, .iconst (1)), (4, .iand), (5, .ifCond .ne 1), (8, .aload 0), (9, .getstatic 1137), (12, .iconst (24)), (14, .iload 3), (15, .imul), (16, .iload 1), (17, .iadd), (18, .iaload), (19, .iconst (-1)), (20, .if_icmp .ne 2), (23, .goto_w 1)]
def bX11_brings_1 : CD := [(23, .iconst (-1)), (24, .ireturn)]
def bX11_brings_2 : CD := [(25, .iconst (1000)), (28, .aload 0), (29, .getstatic 1137), (32, .iconst (24)), (34, .iload 3), (35, .imul), (36, .iload 1), (37, .iadd), (38, .iaload), (39, .iadd), (40, .aload 0), (41, .getstatic 1164), (44, .iconst (256)), (47, .iload 1), (48, .iconst (1)), (49, .iadd), (50, .imul), (51, .iload 2), (52, .iconst (1)), (53, .iload 3), (54, .ishl), (55, .ior), (56, .iadd), (57, .iaload), (58, .iadd), (59, .ireturn)]
def bX11_brings : List CD := [bX11_brings_0, bX11_brings_1, bX11_brings_2]
theorem kX11_brings : bX11_brings.all (chkL 11 false cX11_brings bX11_brings) = true := by decide +kernel
theorem mX11_brings : MB 195 bX11_brings 1 4 := ⟨by decide, by decide +kernel, kX11_brings, rfl, rfl⟩
def bX11_give_0 : CD := [(0, .aload 0), (1, .iconst (0)), (2, .putfield 1100), (5, .aload 0), (6, .getstatic 1105), (9, .iconst (0)), (10, .iaload), (11, .istore 1), (12, .iconst (1)), (13, .aload 0), (14, .getstatic 1136), (17, .iconst (0)), (18, .iaload), (19, .ishl), (20, .istore 2), (21, .iconst (0)), (22, .istore 3), (23, .goto_w 100023)]
def bX11_give_1 : CD := [(23, .iload 3), (24, .iload 2), (25, .if_icmp .ge 2), (28, .aload 0), (29, .getstatic 1164), (32, .iconst (256)), (35, .iload 1), (36, .imul), (37, .iload 3), (38, .iadd), (39, .iconst (0)), (40, .iastore), (41, .iinc 3 (1)), (44, .goto 100023)]
def bX11_give_2 : CD := [(47, .iload 1), (48, .iconst (1)), (49, .isub), (50, .istore 3), (51, .goto_w 100051)]
def bX11_give_3 : CD := [(51, .iload 3), (52, .ifCond .lt 10), (55, .iconst (0)), (56, .istore 4), (58, .goto_w 100058)]
def bX11_give_4 : CD := [(58, .iload 4), (60, .iload 2), (61, .if_icmp .ge 9), (64, .aload 0), (65, .getstatic 1164), (68, .iconst (256)), (71, .iload 3), (72, .iconst (1)), (73, .iadd), (74, .imul), (75, .iload 4), (77, .iadd), (78, .iaload), (79, .istore 5), (81, .iconst (0)), (82, .istore 6), (84, .goto_w 100084)]
def bX11_give_5 : CD := [(84, .iload 6), (86, .aload 0), (87, .getstatic 1136), (90, .iconst (0)), (91, .iaload), (92, .if_icmp .ge 8), (95, .aload 0), (96, .iload 3), (97, .iload 4), (99, .iload 6), (101, .invokeinterface 195 12041), (104, .istore 7), (106, .iload 7), (108, .iload 5), (110, .if_icmp .le 6), (113, .iload 7), (115, .goto 7)]
def bX11_give_6 : CD := [(118, .iload 5), (120, .goto_w 7)]
def bX11_give_7 : CD := [(120, .istore 5), (122, .iinc 6 (1)), (125, .goto 100084)]
def bX11_give_8 : CD := [(128, .aload 0), (129, .getstatic 1164), (132, .iconst (256)), (135, .iload 3), (136, .imul), (137, .iload 4), (139, .iadd), (140, .iload 5), (142, .iastore), (143, .iinc 4 (1)), (146, .goto 100058)]
def bX11_give_9 : CD := [(149, .iinc 3 (-1)), (152, .goto 100051)]
def bX11_give_10 : CD := [(155, .iconst (0)), (156, .istore 3), (157, .iconst (0)), (158, .istore 4), (160, .goto_w 100160)]
def bX11_give_11 : CD := [(160, .iload 4), (162, .iload 1), (163, .if_icmp .ge 18), (166, .iconst (0)), (167, .istore 5), (169, .goto_w 100169)]
def bX11_give_12 : CD := [(169, .iload 5), (171, .aload 0), (172, .getstatic 1136), (175, .iconst (0)), (176, .iaload), (177, .if_icmp .ge 13), (180, .aload 0), (181, .iload 4), (183, .iload 3), (184, .iload 5), (186, .invokeinterface 195 12041), (189, .aload 0), (190, .getstatic 1164), (193, .iconst (256)), (196, .iload 4), (198, .imul), (199, .iload 3), (200, .iadd), (201, .iaload), (202, .if_icmp .eq 13), (205, .iinc 5 (1)), (208, .goto 100169)]
def bX11_give_13 : CD := [(211, .aload 0), (212, .getstatic 1118), (215, .iload 4), (217, .iload 5), (219, .aload 0), (220, .getstatic 1136), (223, .iconst (0)), (224, .iaload), (225, .if_icmp .ge 14), (228, .iload 5), (230, .goto 15)]
def bX11_give_14 : CD := [(233, .iconst (-1)), (234, .goto_w 15)]
def bX11_give_15 : CD := [(234, .iastore), (235, .iload 3), (236, .iload 5), (238, .aload 0), (239, .getstatic 1136), (242, .iconst (0)), (243, .iaload), (244, .if_icmp .ge 16), (247, .iconst (1)), (248, .iload 5), (250, .ishl), (251, .goto 17)]
def bX11_give_16 : CD := [(254, .iconst (0)), (255, .goto_w 17)]
def bX11_give_17 : CD := [(255, .ior), (256, .istore 3), (257, .iinc 4 (1)), (260, .goto 100160)]
def bX11_give_18 : CD := [(263, .aload 0), (264, .getstatic 1164), (267, .iconst (0)), (268, .iaload), (269, .ireturn)]
def bX11_give : List CD := [bX11_give_0, bX11_give_1, bX11_give_2, bX11_give_3, bX11_give_4, bX11_give_5, bX11_give_6, bX11_give_7, bX11_give_8, bX11_give_9, bX11_give_10, bX11_give_11, bX11_give_12, bX11_give_13, bX11_give_14, bX11_give_15, bX11_give_16, bX11_give_17, bX11_give_18]
theorem kX11_give : bX11_give.all (chkL 11 false cX11_give bX11_give) = true := by decide +kernel
theorem mX11_give : MB 196 bX11_give 1 8 := ⟨by decide, by decide +kernel, kX11_give, rfl, rfl⟩
def bX11_marks_0 : CD := [(0, .iconst (0)), (1, .istore 1), (2, .iconst (0)), (3, .istore 2), (4, .goto_w 100004)]
def bX11_marks_1 : CD := [(4, .iload 2), (5, .aload 0), (6, .getstatic 1105), (9, .iconst (0)), (10, .iaload), (11, .if_icmp .ge 4), (14, .iload 1), (15, .aload 0), (16, .getstatic 1138), (19, .iload 2), (20, .baload), (21, .ifCond .eq 2), (24, .iconst (1)), (25, .goto 3)]
def bX11_marks_2 : CD := [(28, .iconst (0)), (29, .goto_w 3)]
def bX11_marks_3 : CD := [(29, .iadd), (30, .istore 1), (31, .iinc 2 (1)), (34, .goto 100004)]
def bX11_marks_4 : CD := [(37, .iload 1), (38, .ireturn)]
def bX11_marks : List CD := [bX11_marks_0, bX11_marks_1, bX11_marks_2, bX11_marks_3, bX11_marks_4]
theorem kX11_marks : bX11_marks.all (chkL 11 false cX11_marks bX11_marks) = true := by decide +kernel
theorem mX11_marks : MB 197 bX11_marks 1 3 := ⟨by decide, by decide +kernel, kX11_marks, rfl, rfl⟩
def bX11_mark_0 : CD := [(0, .aload 0), (1, .iconst (0)), (2, .putfield 1100), (5, .aload 0), (6, .iload 1), (7, .invokeinterface 140 12021), (10, .ifCond .eq 1), (13, .iload 2), (14, .iconst (0)), (15, .iconst (100)), (17, .invokeinterface 136 31), (20, .ifCond .eq 1), (23, .iload 3), (24, .iconst (0)), (25, .iconst (100)), (27, .invokeinterface 136 31), (30, .ifCond .eq 1), (33, .iload 4), (35, .iconst (0)), (36, .iconst (1)), (37, .invokeinterface 136 31), (40, .ifCond .eq 1), (43, .aload 0), (44, .getstatic 1138), (47, .iload 1), (48, .baload), (49, .ifCond .ne 2), (52, .aload 0), (53, .invokeinterface 197 12011), (56, .iconst (16)), (58, .if_icmp .ne 2), (61, .goto_w 1)]
def bX11_mark_1 : CD := [(61, .iconst (0)), (62, .ireturn)]
def bX11_mark_2 : CD := [(63, .aload 0), (64, .getstatic 1138), (67, .iload 1), (68, .iconst (1)), (69, .bastore), (70, .aload 0), (71, .getstatic 1139), (74, .iload 1), (75, .iload 2), (76, .iastore), (77, .aload 0), (78, .getstatic 1140), (81, .iload 1), (82, .iload 3), (83, .iastore), (84, .aload 0), (85, .getstatic 1141), (88, .iload 1), (89, .iload 4), (91, .iastore), (92, .iconst (1)), (93, .ireturn)]
def bX11_mark : List CD := [bX11_mark_0, bX11_mark_1, bX11_mark_2]
theorem kX11_mark : bX11_mark.all (chkL 11 false cX11_mark bX11_mark) = true := by decide +kernel
theorem mX11_mark : MB 198 bX11_mark 2 5 := ⟨by decide, by decide +kernel, kX11_mark, rfl, rfl⟩
def bX11_held_0 : CD := [(0, .aload 0), (1, .iconst (0)), (2, .putfield 1100), (5, .iload 1), (6, .iconst (0)), (7, .iconst (3)), (8, .invokeinterface 136 31), (11, .ifCond .ne 1), (14, .iconst (-100000)), (17, .ireturn)]
def bX11_held_1 : CD := [(18, .iconst (0)), (19, .istore 2), (20, .iconst (0)), (21, .istore 3), (22, .iconst (0)), (23, .istore 4), (25, .iconst (0)), (26, .istore 5), (28, .iconst (0)), (29, .istore 6), (31, .goto_w 100031)]
def bX11_held_2 : CD := [(31, .iload 6), (33, .aload 0), (34, .getstatic 1105), (37, .iconst (0)), (38, .iaload), (39, .if_icmp .ge 8), (42, .aload 0), (43, .getstatic 1138), (46, .iload 6), (48, .baload), (49, .ifCond .eq 7), (52, .aload 0), (53, .getstatic 1165), (56, .iload 2), (57, .aload 0), (58, .getstatic 1140), (61, .iload 6), (63, .iaload), (64, .aload 0), (65, .getstatic 1139), (68, .iload 6), (70, .iaload), (71, .isub), (72, .iastore), (73, .iload 4), (75, .aload 0), (76, .getstatic 1141), (79, .iload 6), (81, .iaload), (82, .iconst (1)), (83, .if_icmp .ne 3), (86, .aload 0), (87, .getstatic 1165), (90, .iload 2), (91, .iaload), (92, .goto 4)]
def bX11_held_3 : CD := [(95, .iconst (0)), (96, .goto_w 4)]
def bX11_held_4 : CD := [(96, .iadd), (97, .istore 4), (99, .iload 5), (101, .aload 0), (102, .getstatic 1141), (105, .iload 6), (107, .iaload), (108, .ifCond .ne 5), (111, .aload 0), (112, .getstatic 1165), (115, .iload 2), (116, .iaload), (117, .goto 6)]
def bX11_held_5 : CD := [(120, .iconst (0)), (121, .goto_w 6)]
def bX11_held_6 : CD := [(121, .iadd), (122, .istore 5), (124, .iload 3), (125, .aload 0), (126, .getstatic 1141), (129, .iload 6), (131, .iaload), (132, .iadd), (133, .istore 3), (134, .iinc 2 (1)), (137, .goto_w 7)]
def bX11_held_7 : CD := [(137, .iinc 6 (1)), (140, .goto 100031)]
def bX11_held_8 : CD := [(143, .iconst (0)), (144, .istore 6), (146, .iconst (0)), (147, .istore 7), (149, .iconst (0)), (150, .istore 8), (152, .goto_w 100152)]
def bX11_held_9 : CD := [(152, .iload 8), (154, .iconst (1)), (155, .iload 2), (156, .ishl), (157, .if_icmp .ge 18), (160, .iload 1), (161, .iconst (2)), (162, .if_icmp .ge 18), (165, .iload 8), (167, .invokeinterface 183 11), (170, .iload 3), (171, .if_icmp .eq 10), (174, .goto 17)]
def bX11_held_10 : CD := [(177, .iconst (0)), (178, .istore 9), (180, .iconst (0)), (181, .istore 10), (183, .goto_w 100183)]
def bX11_held_11 : CD := [(183, .iload 10), (185, .iload 2), (186, .if_icmp .ge 14), (189, .iload 9), (191, .iload 8), (193, .iload 10), (195, .ishr), (196, .iconst (1)), (197, .iand), (198, .ifCond .eq 12), (201, .aload 0), (202, .getstatic 1165), (205, .iload 10), (207, .iaload), (208, .goto 13)]
def bX11_held_12 : CD := [(211, .iconst (0)), (212, .goto_w 13)]
def bX11_held_13 : CD := [(212, .iadd), (213, .istore 9), (215, .iinc 10 (1)), (218, .goto 100183)]
def bX11_held_14 : CD := [(221, .iinc 7 (1)), (224, .iload 6), (226, .iload 9), (228, .iload 4), (230, .if_icmp .lt 15), (233, .iconst (1)), (234, .goto 16)]
def bX11_held_15 : CD := [(237, .iconst (0)), (238, .goto_w 16)]
def bX11_held_16 : CD := [(238, .iadd), (239, .istore 6), (241, .goto_w 17)]
def bX11_held_17 : CD := [(241, .iinc 8 (1)), (244, .goto 100152)]
def bX11_held_18 : CD := [(247, .iload 1), (248, .ifCond .ne 19), (251, .iload 6), (253, .goto 22)]
def bX11_held_19 : CD := [(256, .iload 1), (257, .iconst (1)), (258, .if_icmp .ne 20), (261, .iload 7), (263, .goto 22)]
def bX11_held_20 : CD := [(266, .iload 1), (267, .iconst (2)), (268, .if_icmp .ne 21), (271, .iload 4), (273, .goto 22)]
def bX11_held_21 : CD := [(276, .iload 5), (278, .goto_w 22)]
def bX11_held_22 : CD := [(278, .ireturn)]
def bX11_held : List CD := [bX11_held_0, bX11_held_1, bX11_held_2, bX11_held_3, bX11_held_4, bX11_held_5, bX11_held_6, bX11_held_7, bX11_held_8, bX11_held_9, bX11_held_10, bX11_held_11, bX11_held_12, bX11_held_13, bX11_held_14, bX11_held_15, bX11_held_16, bX11_held_17, bX11_held_18, bX11_held_19, bX11_held_20, bX11_held_21, bX11_held_22]
theorem kX11_held : bX11_held.all (chkL 11 false cX11_held bX11_held) = true := by decide +kernel
theorem mX11_held : MB 199 bX11_held 1 11 := ⟨by decide, by decide +kernel, kX11_held, rfl, rfl⟩
def bX11_count_0 : CD := [(0, .aload 0), (1, .iconst (0)), (2, .putfield 1100), (5, .iconst (0)), (6, .istore 2), (7, .iload 1), (8, .tableswitch 15 (0) (11) #[1, 2, 3, 4, 5, 6, 7, 8, 9, 10, 11, 14])]
def bX11_count_1 : CD := [(72, .aload 0), (73, .getstatic 1105), (76, .iconst (0)), (77, .iaload), (78, .ireturn)]
def bX11_count_2 : CD := [(79, .aload 0), (80, .getstatic 1121), (83, .iconst (0)), (84, .iaload), (85, .ireturn)]
def bX11_count_3 : CD := [(86, .aload 0), (87, .invokeinterface 151 12011), (90, .ireturn)]
def bX11_count_4 : CD := [(91, .aload 0), (92, .getstatic 1132), (95, .iconst (0)), (96, .iaload), (97, .ireturn)]
def bX11_count_5 : CD := [(98, .aload 0), (99, .getstatic 1136), (102, .iconst (0)), (103, .iaload), (104, .ireturn)]
def bX11_count_6 : CD := [(105, .aload 0), (106, .getstatic 1123), (109, .iconst (0)), (110, .iaload), (111, .ireturn)]
def bX11_count_7 : CD := [(112, .aload 0), (113, .getstatic 1124), (116, .iconst (0)), (117, .iaload), (118, .ireturn)]
def bX11_count_8 : CD := [(119, .aload 0), (120, .getstatic 1125), (123, .iconst (0)), (124, .iaload), (125, .ireturn)]
def bX11_count_9 : CD := [(126, .aload 0), (127, .getstatic 1119), (130, .iconst (0)), (131, .iaload), (132, .ireturn)]
def bX11_count_10 : CD := [(133, .aload 0), (134, .getstatic 1105), (137, .iconst (0)), (138, .iaload), (139, .aload 0), (140, .iconst (-1)), (141, .invokeinterface 146 12021), (144, .isub), (145, .ireturn)]
def bX11_count_11 : CD := [(146, .iconst (0)), (147, .istore 3), (148, .goto_w 100148)]
def bX11_count_12 : CD := [(148, .iload 3), (149, .aload 0), (150, .getstatic 1105), (153, .iconst (0)), (154, .iaload), (155, .if_icmp .ge 13), (158, .iload 2), (159, .aload 0), (160, .getstatic 1114), (163, .iload 3), (164, .iaload), (165, .iadd), (166, .istore 2), (167, .iinc 3 (1)), (170, .goto 100148)]
def bX11_count_13 : CD := [(173, .iload 2), (174, .ireturn)]
def bX11_count_14 : CD := [(175, .aload 0), (176, .invokeinterface 197 12011), (179, .ireturn)]
def bX11_count_15 : CD := [(180, .iconst (-1)), (181, .ireturn)]
def bX11_count : List CD := [bX11_count_0, bX11_count_1, bX11_count_2, bX11_count_3, bX11_count_4, bX11_count_5, bX11_count_6, bX11_count_7, bX11_count_8, bX11_count_9, bX11_count_10, bX11_count_11, bX11_count_12, bX11_count_13, bX11_count_14, bX11_count_15]
theorem kX11_count : bX11_count.all (chkL 11 false cX11_count bX11_count) = true := by decide +kernel
theorem mX11_count : MB 200 bX11_count 1 4 := ⟨by decide, by decide +kernel, kX11_count, rfl, rfl⟩
def bX11_image_0 : CD := [(0, .aload 0), (1, .iconst (0)), (2, .putfield 1100), (5, .iload 1), (6, .iconst (0)), (7, .iconst (2)), (8, .invokeinterface 136 31), (11, .ifCond .ne 1), (14, .iconst (0)), (15, .ireturn)]
def bX11_image_1 : CD := [(16, .aload 0), (17, .iconst (0)), (18, .iload 1), (19, .iconst (1)), (20, .iadd), (21, .invokeinterface 139 12030), (24, .aload 0), (25, .getstatic 1166), (28, .iload 1), (29, .iconst (1)), (30, .bastore), (31, .iconst (1)), (32, .ireturn)]
def bX11_image : List CD := [bX11_image_0, bX11_image_1]
theorem kX11_image : bX11_image.all (chkL 11 false cX11_image bX11_image) = true := by decide +kernel
theorem mX11_image : MB 201 bX11_image 2 2 := ⟨by decide, by decide +kernel, kX11_image, rfl, rfl⟩
def bX11_again_0 : CD := [(0, .aload 0), (1, .iconst (0)), (2, .putfield 1100), (5, .iload 1), (6, .iconst (0)), (7, .iconst (2)), (8, .invokeinterface 136 31), (11, .ifCond .eq 1), (14, .aload 0), (15, .getstatic 1166), (18, .iload 1), (19, .baload), (20, .ifCond .ne 2), (23, .goto_w 1)]
def bX11_again_1 : CD := [(23, .iconst (0)), (24, .ireturn)]
def bX11_again_2 : CD := [(25, .aload 0), (26, .iload 1), (27, .iconst (1)), (28, .iadd), (29, .iconst (0)), (30, .invokeinterface 139 12030), (33, .iconst (1)), (34, .ireturn)]
def bX11_again : List CD := [bX11_again_0, bX11_again_1, bX11_again_2]
theorem kX11_again : bX11_again.all (chkL 11 false cX11_again bX11_again) = true := by decide +kernel
theorem mX11_again : MB 202 bX11_again 2 2 := ⟨by decide, by decide +kernel, kX11_again, rfl, rfl⟩
def bJ6_bitCount_0f7a4_0 : CD := [(0, .iload 0), (1, .iload 0), (2, .iconst (1)), (3, .iushr), (4, .iconst (1431655765)), (7, .iand), (8, .isub), (9, .istore 0), (10, .iload 0), (11, .iconst (858993459)), (14, .iand), (15, .iload 0), (16, .iconst (2)), (17, .iushr), (18, .iconst (858993459)), (21, .iand), (22, .iadd), (23, .istore 0), (24, .iload 0), (25, .iload 0), (26, .iconst (4)), (27, .iushr), (28, .iadd), (29, .iconst (252645135)), (32, .iand), (33, .istore 0), (34, .iload 0), (35, .iload 0), (36, .iconst (8)), (38, .iushr), (39, .iadd), (40, .istore 0), (41, .iload 0), (42, .iload 0), (43, .iconst (16)), (45, .iushr), (46, .iadd), (47, .istore 0), (48, .iload 0), (49, .iconst (63)), (51, .iand), (52, .ireturn)]
def bJ6_bitCount_0f7a4 : List CD := [bJ6_bitCount_0f7a4_0]
theorem kJ6_bitCount_0f7a4 : bJ6_bitCount_0f7a4.all (chkL 12 false cJ6_bitCount_0f7a4 bJ6_bitCount_0f7a4) = true := by decide +kernel
theorem mJ6_bitCount_0f7a4 : MB 203 bJ6_bitCount_0f7a4 1 1 := ⟨by decide, by decide +kernel, kJ6_bitCount_0f7a4, rfl, rfl⟩
def bJ7_fill_d0a16_0 : CD := [(0, .iconst (0)), (1, .istore 3), (2, .aload 0), (3, .arraylength), (4, .istore 4), (6, .goto_w 100006)]
def bJ7_fill_d0a16_1 : CD := [(6, .iload 3), (7, .iload 4), (9, .if_icmp .ge 2), (12, .aload 0), (13, .iload 3), (14, .lload 1), (15, .lastore), (16, .iinc 3 (1)), (19, .goto 100006)]
def bJ7_fill_d0a16_2 : CD := [(22, .return_)]
def bJ7_fill_d0a16 : List CD := [bJ7_fill_d0a16_0, bJ7_fill_d0a16_1, bJ7_fill_d0a16_2]
theorem kJ7_fill_d0a16 : bJ7_fill_d0a16.all (chkL 17 false cJ7_fill_d0a16 bJ7_fill_d0a16) = true := by decide +kernel
theorem mJ7_fill_d0a16 : MB 207 bJ7_fill_d0a16 0 5 := ⟨by decide, by decide +kernel, kJ7_fill_d0a16, rfl, rfl⟩
def bJ7_fill_53178_0 : CD := [(0, .iconst (0)), (1, .istore 2), (2, .aload 0), (3, .arraylength), (4, .istore 3), (5, .goto_w 100005)]
def bJ7_fill_53178_1 : CD := [(5, .iload 2), (6, .iload 3), (7, .if_icmp .ge 2), (10, .aload 0), (11, .iload 2), (12, .iload 1), (13, .iastore), (14, .iinc 2 (1)), (17, .goto 100005)]
def bJ7_fill_53178_2 : CD := [(20, .return_)]
def bJ7_fill_53178 : List CD := [bJ7_fill_53178_0, bJ7_fill_53178_1, bJ7_fill_53178_2]
theorem kJ7_fill_53178 : bJ7_fill_53178.all (chkL 17 false cJ7_fill_53178 bJ7_fill_53178) = true := by decide +kernel
theorem mJ7_fill_53178 : MB 208 bJ7_fill_53178 0 4 := ⟨by decide, by decide +kernel, kJ7_fill_53178, rfl, rfl⟩
def blaw_0 : CD := [(0, .new 10), (3, .dup), (4, .invokeinterface 98 7299010), (7, .astore 1), (8, .new 11), (11, .dup), (12, .invokeinterface 135 5799010), (15, .astore 2), (16, .iconst (0)), (17, .istore 3), (18, .goto_w 100018)]
def blaw_1 : CD := [(18, .iload 3), (19, .aload 0), (20, .arraylength), (21, .iconst (6)), (23, .isub), (24, .if_icmp .gt 51), (27, .aload 0), (28, .iload 3), (29, .iaload), (30, .iconst (31)), (32, .iand), (33, .tableswitch 50 (0) (31) #[2, 7, 8, 9, 10, 11, 12, 13, 14, 15, 20, 21, 22, 23, 24, 25, 34, 35, 36, 37, 38, 39, 40, 41, 42, 43, 44, 45, 46, 47, 48, 49])]
def blaw_2 : CD := [(176, .aload 1), (177, .aload 0), (178, .iload 3), (179, .iconst (1)), (180, .iadd), (181, .iaload), (182, .aload 0), (183, .iload 3), (184, .iconst (2)), (185, .iadd), (186, .iaload), (187, .aload 0), (188, .iload 3), (189, .iconst (3)), (190, .iadd), (191, .iaload), (192, .ifCond .eq 3), (195, .iconst (1)), (196, .goto 4)]
def blaw_3 : CD := [(199, .iconst (0)), (200, .goto_w 4)]
def blaw_4 : CD := [(200, .invokeinterface 100 11041), (203, .aload 2), (204, .aload 0), (205, .iload 3), (206, .iconst (1)), (207, .iadd), (208, .iaload), (209, .aload 0), (210, .iload 3), (211, .iconst (2)), (212, .iadd), (213, .iaload), (214, .aload 0), (215, .iload 3), (216, .iconst (3)), (217, .iadd), (218, .iaload), (219, .ifCond .eq 5), (222, .iconst (1)), (223, .goto 6)]
def blaw_5 : CD := [(226, .iconst (0)), (227, .goto_w 6)]
def blaw_6 : CD := [(227, .invokeinterface 142 12041), (230, .if_icmp .eq 50), (233, .iconst (0)), (234, .ireturn)]
def blaw_7 : CD := [(235, .aload 1), (236, .aload 0), (237, .iload 3), (238, .iconst (1)), (239, .iadd), (240, .iaload), (241, .aload 0), (242, .iload 3), (243, .iconst (2)), (244, .iadd), (245, .iaload), (246, .invokeinterface 101 11031), (249, .aload 2), (250, .aload 0), (251, .iload 3), (252, .iconst (1)), (253, .iadd), (254, .iaload), (255, .aload 0), (256, .iload 3), (257, .iconst (2)), (258, .iadd), (259, .iaload), (260, .invokeinterface 144 12031), (263, .if_icmp .eq 50), (266, .iconst (0)), (267, .ireturn)]
def blaw_8 : CD := [(268, .aload 1), (269, .aload 0), (270, .iload 3), (271, .iconst (1)), (272, .iadd), (273, .iaload), (274, .invokeinterface 102 11021), (277, .aload 2), (278, .aload 0), (279, .iload 3), (280, .iconst (1)), (281, .iadd), (282, .iaload), (283, .invokeinterface 145 12021), (286, .if_icmp .eq 50), (289, .iconst (0)), (290, .ireturn)]
def blaw_9 : CD := [(291, .aload 1), (292, .aload 0), (293, .iload 3), (294, .iconst (1)), (295, .iadd), (296, .iaload), (297, .aload 0), (298, .iload 3), (299, .iconst (2)), (300, .iadd), (301, .iaload), (302, .invokeinterface 103 11031), (305, .aload 2), (306, .aload 0), (307, .iload 3), (308, .iconst (1)), (309, .iadd), (310, .iaload), (311, .aload 0), (312, .iload 3), (313, .iconst (2)), (314, .iadd), (315, .iaload), (316, .invokeinterface 147 12031), (319, .if_icmp .eq 50), (322, .iconst (0)), (323, .ireturn)]
def blaw_10 : CD := [(324, .aload 1), (325, .invokeinterface 104 11011), (328, .aload 2), (329, .invokeinterface 152 12011), (332, .if_icmp .eq 50), (335, .iconst (0)), (336, .ireturn)]
def blaw_11 : CD := [(337, .aload 1), (338, .invokeinterface 105 11011), (341, .aload 2), (342, .invokeinterface 154 12011), (345, .if_icmp .eq 50), (348, .iconst (0)), (349, .ireturn)]
def blaw_12 : CD := [(350, .aload 1), (351, .invokeinterface 106 11011), (354, .aload 2), (355, .invokeinterface 155 12011), (358, .if_icmp .eq 50), (361, .iconst (0)), (362, .ireturn)]
def blaw_13 : CD := [(363, .aload 1), (364, .aload 0), (365, .iload 3), (366, .iconst (1)), (367, .iadd), (368, .iaload), (369, .invokeinterface 107 11021), (372, .aload 2), (373, .aload 0), (374, .iload 3), (375, .iconst (1)), (376, .iadd), (377, .iaload), (378, .invokeinterface 156 12021), (381, .if_icmp .eq 50), (384, .iconst (0)), (385, .ireturn)]
def blaw_14 : CD := [(386, .aload 1), (387, .invokeinterface 108 11011), (390, .aload 2), (391, .invokeinterface 157 12011), (394, .if_icmp .eq 50), (397, .iconst (0)), (398, .ireturn)]
def blaw_15 : CD := [(399, .aload 1), (400, .aload 0), (401, .iload 3), (402, .iconst (1)), (403, .iadd), (404, .iaload), (405, .aload 0), (406, .iload 3), (407, .iconst (2)), (408, .iadd), (409, .iaload), (410, .aload 0), (411, .iload 3), (412, .iconst (3)), (413, .iadd), (414, .iaload), (415, .ifCond .eq 16), (418, .iconst (1)), (419, .goto 17)]
def blaw_16 : CD := [(422, .iconst (0)), (423, .goto_w 17)]
def blaw_17 : CD := [(423, .invokeinterface 109 11041), (426, .aload 2), (427, .aload 0), (428, .iload 3), (429, .iconst (1)), (430, .iadd), (431, .iaload), (432, .aload 0), (433, .iload 3), (434, .iconst (2)), (435, .iadd), (436, .iaload), (437, .aload 0), (438, .iload 3), (439, .iconst (3)), (440, .iadd), (441, .iaload), (442, .ifCond .eq 18), (445, .iconst (1)), (446, .goto 19)]
def blaw_18 : CD := [(449, .iconst (0)), (450, .goto_w 19)]
def blaw_19 : CD := [(450, .invokeinterface 158 12041), (453, .if_icmp .eq 50), (456, .iconst (0)), (457, .ireturn)]
def blaw_20 : CD := [(458, .aload 1), (459, .aload 0), (460, .iload 3), (461, .iconst (1)), (462, .iadd), (463, .iaload), (464, .aload 0), (465, .iload 3), (466, .iconst (2)), (467, .iadd), (468, .iaload), (469, .aload 0), (470, .iload 3), (471, .iconst (3)), (472, .iadd), (473, .iaload), (474, .invokeinterface 110 11041), (477, .aload 2), (478, .aload 0), (479, .iload 3), (480, .iconst (1)), (481, .iadd), (482, .iaload), (483, .aload 0), (484, .iload 3), (485, .iconst (2)), (486, .iadd), (487, .iaload), (488, .aload 0), (489, .iload 3), (490, .iconst (3)), (491, .iadd), (492, .iaload), (493, .invokeinterface 161 12041), (496, .if_icmp .eq 50), (499, .iconst (0)), (500, .ireturn)]
def blaw_21 : CD := [(501, .aload 1), (502, .aload 0), (503, .iload 3), (504, .iconst (1)), (505, .iadd), (506, .iaload), (507, .aload 0), (508, .iload 3), (509, .iconst (2)), (510, .iadd), (511, .iaload), (512, .aload 0), (513, .iload 3), (514, .iconst (3)), (515, .iadd), (516, .iaload), (517, .aload 0), (518, .iload 3), (519, .iconst (4)), (520, .iadd), (521, .iaload), (522, .aload 0), (523, .iload 3), (524, .iconst (5)), (525, .iadd), (526, .iaload), (527, .invokeinterface 111 11061), (530, .aload 2), (531, .aload 0), (532, .iload 3), (533, .iconst (1)), (534, .iadd), (535, .iaload), (536, .aload 0), (537, .iload 3), (538, .iconst (2)), (539, .iadd), (540, .iaload), (541, .aload 0), (542, .iload 3), (543, .iconst (3)), (544, .iadd), (545, .iaload), (546, .aload 0), (547, .iload 3), (548, .iconst (4)), (549, .iadd), (550, .iaload), (551, .aload 0), (552, .iload 3), (553, .iconst (5)), (554, .iadd), (555, .iaload), (556, .invokeinterface 162 12061), (559, .if_icmp .eq 50), (562, .iconst (0)), (563, .ireturn)]
def blaw_22 : CD := [(564, .aload 1), (565, .aload 0), (566, .iload 3), (567, .iconst (1)), (568, .iadd), (569, .iaload), (570, .invokeinterface 112 11021), (573, .aload 2), (574, .aload 0), (575, .iload 3), (576, .iconst (1)), (577, .iadd), (578, .iaload), (579, .invokeinterface 164 12021), (582, .if_icmp .eq 50), (585, .iconst (0)), (586, .ireturn)]
def blaw_23 : CD := [(587, .aload 1), (588, .invokeinterface 113 11011), (591, .aload 2), (592, .invokeinterface 174 12011), (595, .if_icmp .eq 50), (598, .iconst (0)), (599, .ireturn)]
def blaw_24 : CD := [(600, .aload 1), (601, .aload 0), (602, .iload 3), (603, .iconst (1)), (604, .iadd), (605, .iaload), (606, .invokeinterface 114 11021), (609, .aload 2), (610, .aload 0), (611, .iload 3), (612, .iconst (1)), (613, .iadd), (614, .iaload), (615, .invokeinterface 175 12021), (618, .if_icmp .eq 50), (621, .iconst (0)), (622, .ireturn)]
def blaw_25 : CD := [(623, .aload 1), (624, .aload 0), (625, .iload 3), (626, .iconst (1)), (627, .iadd), (628, .iaload), (629, .aload 0), (630, .iload 3), (631, .iconst (2)), (632, .iadd), (633, .iaload), (634, .aload 0), (635, .iload 3), (636, .iconst (3)), (637, .iadd), (638, .iaload), (639, .aload 0), (640, .iload 3), (641, .iconst (4)), (642, .iadd), (643, .iaload), (644, .ifCond .eq 26), (647, .iconst (1)), (648, .goto 27)]
def blaw_26 : CD := [(651, .iconst (0)), (652, .goto_w 27)]
def blaw_27 : CD := [(652, .aload 0), (653, .iload 3), (654, .iconst (5)), (655, .iadd), (656, .iaload), (657, .ifCond .eq 28), (660, .iconst (1)), (661, .goto 29)]
def blaw_28 : CD := [(664, .iconst (0)), (665, .goto_w 29)]
def blaw_29 : CD := [(665, .invokeinterface 115 11061), (668, .aload 2), (669, .aload 0), (670, .iload 3), (671, .iconst (1)), (672, .iadd), (673, .iaload), (674, .aload 0), (675, .iload 3), (676, .iconst (2)), (677, .iadd), (678, .iaload), (679, .aload 0), (680, .iload 3), (681, .iconst (3)), (682, .iadd), (683, .iaload), (684, .aload 0), (685, .iload 3), (686, .iconst (4)), (687, .iadd), (688, .iaload), (689, .ifCond .eq 30), (692, .iconst (1)), (693, .goto 31)]
def blaw_30 : CD := [(696, .iconst (0)), (697, .goto_w 31)]
def blaw_31 : CD := [(697, .aload 0), (698, .iload 3), (699, .iconst (5)), (700, .iadd), (701, .iaload), (702, .ifCond .eq 32), (705, .iconst (1)), (706, .goto 33)]
def blaw_32 : CD := [(709, .iconst (0)), (710, .goto_w 33)]
def blaw_33 : CD := [(710, .invokeinterface 178 12061), (713, .if_icmp .eq 50), (716, .iconst (0)), (717, .ireturn)]
def blaw_34 : CD := [(718, .aload 1), (719, .invokeinterface 116 11011), (722, .aload 2), (723, .invokeinterface 179 12011), (726, .if_icmp .eq 50), (729, .iconst (0)), (730, .ireturn)]
def blaw_35 : CD := [(731, .aload 1), (732, .aload 0), (733, .iload 3), (734, .iconst (1)), (735, .iadd), (736, .iaload), (737, .invokeinterface 117 11021), (740, .aload 2), (741, .aload 0), (742, .iload 3), (743, .iconst (1)), (744, .iadd), (745, .iaload), (746, .invokeinterface 180 12021), (749, .if_icmp .eq 50), (752, .iconst (0)), (753, .ireturn)]
def blaw_36 : CD := [(754, .aload 1), (755, .aload 0), (756, .iload 3), (757, .iconst (1)), (758, .iadd), (759, .iaload), (760, .aload 0), (761, .iload 3), (762, .iconst (2)), (763, .iadd), (764, .iaload), (765, .invokeinterface 118 11031), (768, .aload 2), (769, .aload 0), (770, .iload 3), (771, .iconst (1)), (772, .iadd), (773, .iaload), (774, .aload 0), (775, .iload 3), (776, .iconst (2)), (777, .iadd), (778, .iaload), (779, .invokeinterface 181 12031), (782, .if_icmp .eq 50), (785, .iconst (0)), (786, .ireturn)]
def blaw_37 : CD := [(787, .aload 1), (788, .aload 0), (789, .iload 3), (790, .iconst (1)), (791, .iadd), (792, .iaload), (793, .invokeinterface 119 11021), (796, .aload 2), (797, .aload 0), (798, .iload 3), (799, .iconst (1)), (800, .iadd), (801, .iaload), (802, .invokeinterface 182 12021), (805, .if_icmp .eq 50), (808, .iconst (0)), (809, .ireturn)]
def blaw_38 : CD := [(810, .aload 1), (811, .aload 0), (812, .iload 3), (813, .iconst (1)), (814, .iadd), (815, .iaload), (816, .aload 0), (817, .iload 3), (818, .iconst (2)), (819, .iadd), (820, .iaload), (821, .aload 0), (822, .iload 3), (823, .iconst (3)), (824, .iadd), (825, .iaload), (826, .invokeinterface 120 11041), (829, .aload 2), (830, .aload 0), (831, .iload 3), (832, .iconst (1)), (833, .iadd), (834, .iaload), (835, .aload 0), (836, .iload 3), (837, .iconst (2)), (838, .iadd), (839, .iaload), (840, .aload 0), (841, .iload 3), (842, .iconst (3)), (843, .iadd), (844, .iaload), (845, .invokeinterface 187 12041), (848, .if_icmp .eq 50), (851, .iconst (0)), (852, .ireturn)]
def blaw_39 : CD := [(853, .aload 1), (854, .aload 0), (855, .iload 3), (856, .iconst (1)), (857, .iadd), (858, .iaload), (859, .invokeinterface 121 11021), (862, .aload 2), (863, .aload 0), (864, .iload 3), (865, .iconst (1)), (866, .iadd), (867, .iaload), (868, .invokeinterface 188 12021), (871, .if_icmp .eq 50), (874, .iconst (0)), (875, .ireturn)]
def blaw_40 : CD := [(876, .aload 1), (877, .aload 0), (878, .iload 3), (879, .iconst (1)), (880, .iadd), (881, .iaload), (882, .aload 0), (883, .iload 3), (884, .iconst (2)), (885, .iadd), (886, .iaload), (887, .aload 0), (888, .iload 3), (889, .iconst (3)), (890, .iadd), (891, .iaload), (892, .aload 0), (893, .iload 3), (894, .iconst (4)), (895, .iadd), (896, .iaload), (897, .invokeinterface 122 11051), (900, .aload 2), (901, .aload 0), (902, .iload 3), (903, .iconst (1)), (904, .iadd), (905, .iaload), (906, .aload 0), (907, .iload 3), (908, .iconst (2)), (909, .iadd), (910, .iaload), (911, .aload 0), (912, .iload 3), (913, .iconst (3)), (914, .iadd), (915, .iaload), (916, .aload 0), (917, .iload 3), (918, .iconst (4)), (919, .iadd), (920, .iaload), (921, .invokeinterface 191 12051), (924, .if_icmp .eq 50), (927, .iconst (0)), (928, .ireturn)]
def blaw_41 : CD := [(929, .aload 1), (930, .aload 0), (931, .iload 3), (932, .iconst (1)), (933, .iadd), (934, .iaload), (935, .aload 0), (936, .iload 3), (937, .iconst (2)), (938, .iadd), (939, .iaload), (940, .aload 0), (941, .iload 3), (942, .iconst (3)), (943, .iadd), (944, .iaload), (945, .aload 0), (946, .iload 3), (947, .iconst (4)), (948, .iadd), (949, .iaload), (950, .invokeinterface 123 11051), (953, .aload 2), (954, .aload 0), (955, .iload 3), (956, .iconst (1)), (957, .iadd), (958, .iaload), (959, .aload 0), (960, .iload 3), (961, .iconst (2)), (962, .iadd), (963, .iaload), (964, .aload 0), (965, .iload 3), (966, .iconst (3)), (967, .iadd), (968, .iaload), (969, .aload 0), (970, .iload 3), (971, .iconst (4)), (972, .iadd), (973, .iaload), (974, .invokeinterface 192 12051), (977, .if_icmp .eq 50), (980, .iconst (0)), (981, .ireturn)]
def blaw_42 : CD := [(982, .aload 1), (983, .invokeinterface 127 11011), (986, .aload 2), (987, .invokeinterface 193 12011), (990, .if_icmp .eq 50), (993, .iconst (0)), (994, .ireturn)]
def blaw_43 : CD := [(995, .aload 1), (996, .aload 0), (997, .iload 3), (998, .iconst (1)), (999, .iadd), (1000, .iaload), (1001, .aload 0), (1002, .iload 3), (1003, .iconst (2)), (1004, .iadd), (1005, .iaload), (1006, .aload 0), (1007, .iload 3), (1008, .iconst (3)), (1009, .iadd), (1010, .iaload), (1011, .invokeinterface 128 11041), (1014, .aload 2), (1015, .aload 0), (1016, .iload 3), (1017, .iconst (1)), (1018, .iadd), (1019, .iaload), (1020, .aload 0), (1021, .iload 3), (1022, .iconst (2)), (1023, .iadd), (1024, .iaload), (1025, .aload 0), (1026, .iload 3), (1027, .iconst (3)), (1028, .iadd), (1029, .iaload), (1030, .invokeinterface 194 12041), (1033, .if_icmp .eq 50), (1036, .iconst (0)), (1037, .ireturn)]
def blaw_44 : CD := [(1038, .aload 1), (1039, .invokeinterface 129 11011), (1042, .aload 2), (1043, .invokeinterface 196 12011), (1046, .if_icmp .eq 50), (1049, .iconst (0)), (1050, .ireturn)]
def blaw_45 : CD := [(1051, .aload 1), (1052, .aload 0), (1053, .iload 3), (1054, .iconst (1)), (1055, .iadd), (1056, .iaload), (1057, .aload 0), (1058, .iload 3), (1059, .iconst (2)), (1060, .iadd), (1061, .iaload), (1062, .aload 0), (1063, .iload 3), (1064, .iconst (3)), (1065, .iadd), (1066, .iaload), (1067, .aload 0), (1068, .iload 3), (1069, .iconst (4)), (1070, .iadd), (1071, .iaload), (1072, .invokeinterface 130 11051), (1075, .aload 2), (1076, .aload 0), (1077, .iload 3), (1078, .iconst (1)), (1079, .iadd), (1080, .iaload), (1081, .aload 0), (1082, .iload 3), (1083, .iconst (2)), (1084, .iadd), (1085, .iaload), (1086, .aload 0), (1087, .iload 3), (1088, .iconst (3)), (1089, .iadd), (1090, .iaload), (1091, .aload 0), (1092, .iload 3), (1093, .iconst (4)), (1094, .iadd), (1095, .iaload), (1096, .invokeinterface 198 12051), (1099, .if_icmp .eq 50), (1102, .iconst (0)), (1103, .ireturn)]
def blaw_46 : CD := [(1104, .aload 1), (1105, .aload 0), (1106, .iload 3), (1107, .iconst (1)), (1108, .iadd), (1109, .iaload), (1110, .invokeinterface 131 11021), (1113, .aload 2), (1114, .aload 0), (1115, .iload 3), (1116, .iconst (1)), (1117, .iadd), (1118, .iaload), (1119, .invokeinterface 199 12021), (1122, .if_icmp .eq 50), (1125, .iconst (0)), (1126, .ireturn)]
def blaw_47 : CD := [(1127, .aload 1), (1128, .aload 0), (1129, .iload 3), (1130, .iconst (1)), (1131, .iadd), (1132, .iaload), (1133, .invokeinterface 132 11021), (1136, .aload 2), (1137, .aload 0), (1138, .iload 3), (1139, .iconst (1)), (1140, .iadd), (1141, .iaload), (1142, .invokeinterface 200 12021), (1145, .if_icmp .eq 50), (1148, .iconst (0)), (1149, .ireturn)]
def blaw_48 : CD := [(1150, .aload 1), (1151, .aload 0), (1152, .iload 3), (1153, .iconst (1)), (1154, .iadd), (1155, .iaload), (1156, .invokeinterface 133 3911021), (1159, .aload 2), (1160, .aload 0), (1161, .iload 3), (1162, .iconst (1)), (1163, .iadd), (1164, .iaload), (1165, .invokeinterface 201 12021), (1168, .if_icmp .eq 50), (1171, .iconst (0)), (1172, .ireturn)]
def blaw_49 : CD := [(1173, .aload 1), (1174, .aload 0), (1175, .iload 3), (1176, .iconst (1)), (1177, .iadd), (1178, .iaload), (1179, .invokeinterface 134 11021), (1182, .aload 2), (1183, .aload 0), (1184, .iload 3), (1185, .iconst (1)), (1186, .iadd), (1187, .iaload), (1188, .invokeinterface 202 12021), (1191, .if_icmp .eq 50), (1194, .iconst (0)), (1195, .ireturn)]
def blaw_50 : CD := [(1196, .iinc 3 (6)), (1199, .goto 100018)]
def blaw_51 : CD := [(1202, .iconst (1)), (1203, .ireturn)]
def blaw : List CD := [blaw_0, blaw_1, blaw_2, blaw_3, blaw_4, blaw_5, blaw_6, blaw_7, blaw_8, blaw_9, blaw_10, blaw_11, blaw_12, blaw_13, blaw_14, blaw_15, blaw_16, blaw_17, blaw_18, blaw_19, blaw_20, blaw_21, blaw_22, blaw_23, blaw_24, blaw_25, blaw_26, blaw_27, blaw_28, blaw_29, blaw_30, blaw_31, blaw_32, blaw_33, blaw_34, blaw_35, blaw_36, blaw_37, blaw_38, blaw_39, blaw_40, blaw_41, blaw_42, blaw_43, blaw_44, blaw_45, blaw_46, blaw_47, blaw_48, blaw_49, blaw_50, blaw_51]
theorem klaw_0 : [blaw_0, blaw_1, blaw_2, blaw_3, blaw_4, blaw_5].all (chkL 19 false code blaw) = true := by decide +kernel
theorem klaw_1 : [blaw_6, blaw_7, blaw_8, blaw_9, blaw_10, blaw_11].all (chkL 19 false code blaw) = true := by decide +kernel
theorem klaw_2 : [blaw_12, blaw_13, blaw_14, blaw_15, blaw_16, blaw_17].all (chkL 19 false code blaw) = true := by decide +kernel
theorem klaw_3 : [blaw_18, blaw_19, blaw_20, blaw_21, blaw_22, blaw_23].all (chkL 19 false code blaw) = true := by decide +kernel
theorem klaw_4 : [blaw_24, blaw_25, blaw_26, blaw_27, blaw_28, blaw_29].all (chkL 19 false code blaw) = true := by decide +kernel
theorem klaw_5 : [blaw_30, blaw_31, blaw_32, blaw_33, blaw_34, blaw_35].all (chkL 19 false code blaw) = true := by decide +kernel
theorem klaw_6 : [blaw_36, blaw_37, blaw_38, blaw_39, blaw_40, blaw_41].all (chkL 19 false code blaw) = true := by decide +kernel
theorem klaw_7 : [blaw_42, blaw_43, blaw_44, blaw_45, blaw_46, blaw_47].all (chkL 19 false code blaw) = true := by decide +kernel
theorem klaw_8 : [blaw_48, blaw_49, blaw_50, blaw_51].all (chkL 19 false code blaw) = true := by decide +kernel
theorem klaw : blaw.all (chkL 19 false code blaw) = true := by
  have e : blaw.all (chkL 19 false code blaw) = ([blaw_0, blaw_1, blaw_2, blaw_3, blaw_4, blaw_5] ++ ([blaw_6, blaw_7, blaw_8, blaw_9, blaw_10, blaw_11] ++ ([blaw_12, blaw_13, blaw_14, blaw_15, blaw_16, blaw_17] ++ ([blaw_18, blaw_19, blaw_20, blaw_21, blaw_22, blaw_23] ++ ([blaw_24, blaw_25, blaw_26, blaw_27, blaw_28, blaw_29] ++ ([blaw_30, blaw_31, blaw_32, blaw_33, blaw_34, blaw_35] ++ ([blaw_36, blaw_37, blaw_38, blaw_39, blaw_40, blaw_41] ++ ([blaw_42, blaw_43, blaw_44, blaw_45, blaw_46, blaw_47] ++ ([blaw_48, blaw_49, blaw_50, blaw_51]))))))))).all (chkL 19 false code blaw) := rfl
  exact e.trans (by simp only [List.all_append, klaw_0, klaw_1, klaw_2, klaw_3, klaw_4, klaw_5, klaw_6, klaw_7, klaw_8, Bool.and_self])
