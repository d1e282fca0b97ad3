def bX0_hasChild_0 : CD := [(0, .iload 1), (1, .ifCond .lt 1), (4, .iload 1), (5, .aload 0), (6, .getfield 1), (9, .if_icmp .ge 1), (12, .iconst (1)), (13, .goto 2)]
def bX0_hasChild_1 : CD := [(16, .iconst (0)), (17, .goto_w 2)]
def bX0_hasChild_2 : CD := [(17, .ireturn)]
def bX0_hasChild : List CD := [bX0_hasChild_0, bX0_hasChild_1, bX0_hasChild_2]
theorem kX0_hasChild : bX0_hasChild.all (chkL 0 false cX0_hasChild bX0_hasChild) = true := by decide +kernel
theorem mX0_hasChild : MB 2 bX0_hasChild 2 2 := ⟨by decide, by decide +kernel, kX0_hasChild, rfl, rfl⟩
def bX0_hasCabin_0 : CD := [(0, .iload 1), (1, .ifCond .lt 1), (4, .iload 1), (5, .aload 0), (6, .getfield 4), (9, .if_icmp .ge 1), (12, .iconst (1)), (13, .goto 2)]
def bX0_hasCabin_1 : CD := [(16, .iconst (0)), (17, .goto_w 2)]
def bX0_hasCabin_2 : CD := [(17, .ireturn)]
def bX0_hasCabin : List CD := [bX0_hasCabin_0, bX0_hasCabin_1, bX0_hasCabin_2]
theorem kX0_hasCabin : bX0_hasCabin.all (chkL 0 false cX0_hasCabin bX0_hasCabin) = true := by decide +kernel
theorem mX0_hasCabin : MB 3 bX0_hasCabin 2 2 := ⟨by decide, by decide +kernel, kX0_hasCabin, rfl, rfl⟩
def bX0_hasHost_0 : CD := [(0, .iload 1), (1, .ifCond .lt 1), (4, .iload 1), (5, .aload 0), (6, .getfield 8), (9, .if_icmp .ge 1), (12, .iconst (1)), (13, .goto 2)]
def bX0_hasHost_1 : CD := [(16, .iconst (0)), (17, .goto_w 2)]
def bX0_hasHost_2 : CD := [(17, .ireturn)]
def bX0_hasHost : List CD := [bX0_hasHost_0, bX0_hasHost_1, bX0_hasHost_2]
theorem kX0_hasHost : bX0_hasHost.all (chkL 0 false cX0_hasHost bX0_hasHost) = true := by decide +kernel
theorem mX0_hasHost : MB 4 bX0_hasHost 2 2 := ⟨by decide, by decide +kernel, kX0_hasHost, rfl, rfl⟩
def bX0_addToTape_0 : CD := [(0, .iconst (24)), (2, .istore 2), (3, .goto_w 100003)]
def bX0_addToTape_1 : CD := [(3, .iload 2), (4, .ifCond .lt 2), (7, .aload 0), (8, .getfield 13), (11, .iconst (500)), (14, .if_icmp .ge 2), (17, .aload 0), (18, .getstatic 12), (21, .aload 0), (22, .getfield 13), (25, .iload 1), (26, .iload 2), (27, .ishr), (28, .i2b), (29, .bastore), (30, .aload 0), (31, .dup), (32, .getfield 13), (35, .iconst (1)), (36, .iadd), (37, .putfield 13), (40, .iinc 2 (-8)), (43, .goto 100003)]
def bX0_addToTape_2 : CD := [(46, .return_)]
def bX0_addToTape : List CD := [bX0_addToTape_0, bX0_addToTape_1, bX0_addToTape_2]
theorem kX0_addToTape : bX0_addToTape.all (chkL 0 false cX0_addToTape bX0_addToTape) = true := by decide +kernel
theorem mX0_addToTape : MB 9 bX0_addToTape 0 3 := ⟨by decide, by decide +kernel, kX0_addToTape, rfl, rfl⟩
def bX1_begin_0 : CD := [(0, .aload 0), (1, .iload 1), (2, .putfield 100), (5, .aload 0), (6, .iload 2), (7, .putfield 101), (10, .aload 0), (11, .iload 3), (12, .instanceof 102), (15, .aload 0), (16, .iconst (0)), (17, .putfield 103), (20, .aload 0), (21, .iconst (-1)), (22, .putfield 104), (25, .aload 0), (26, .iconst (0)), (27, .putfield 105), (30, .aload 0), (31, .iconst (10)), (33, .putfield 106), (36, .aload 0), (37, .iconst (0)), (38, .putfield 107), (41, .aload 0), (42, .iconst (-1)), (43, .putfield 108), (46, .aload 0), (47, .iconst (10)), (49, .putfield 109), (52, .aload 0), (53, .iconst (0)), (54, .putfield 110), (57, .aload 0), (58, .iconst (0)), (59, .putfield 111), (62, .aload 0), (63, .iconst (0)), (64, .instanceof 112), (67, .aload 0), (68, .iconst (-1)), (69, .putfield 113), (72, .aload 0), (73, .iconst (0)), (74, .instanceof 114), (77, .aload 0), (78, .iconst (0)), (79, .putfield 115), (82, .aload 0), (83, .iconst (0)), (84, .putfield 116), (87, .return_)]
def bX1_begin : List CD := [bX1_begin_0]
theorem kX1_begin : bX1_begin.all (chkL 1 false cX1_begin bX1_begin) = true := by decide +kernel
theorem mX1_begin : MB 11 bX1_begin 0 4 := ⟨by decide, by decide +kernel, kX1_begin, rfl, rfl⟩
def bX1_isBarredFrom_0 : CD := [(0, .aload 0), (1, .getfield 103), (4, .iload 1), (5, .ishr), (6, .iconst (1)), (7, .iand), (8, .ifCond .eq 1), (11, .iconst (1)), (12, .goto 2)]
def bX1_isBarredFrom_1 : CD := [(15, .iconst (0)), (16, .goto_w 2)]
def bX1_isBarredFrom_2 : CD := [(16, .ireturn)]
def bX1_isBarredFrom : List CD := [bX1_isBarredFrom_0, bX1_isBarredFrom_1, bX1_isBarredFrom_2]
theorem kX1_isBarredFrom : bX1_isBarredFrom.all (chkL 1 false cX1_isBarredFrom bX1_isBarredFrom) = true := by decide +kernel
theorem mX1_isBarredFrom : MB 13 bX1_isBarredFrom 2 2 := ⟨by decide, by decide +kernel, kX1_isBarredFrom, rfl, rfl⟩
def bX6_costOfAll_0 : CD := [(0, .iconst (0)), (1, .istore 1), (2, .iconst (0)), (3, .istore 2), (4, .goto_w 100004)]
def bX6_costOfAll_1 : CD := [(4, .iload 2), (5, .aload 0), (6, .getstatic 600), (9, .getfield 4), (12, .if_icmp .ge 2), (15, .iload 1), (16, .aload 0), (17, .iload 2), (18, .invokeinterface 44 7021), (21, .iadd), (22, .istore 1), (23, .iinc 2 (1)), (26, .goto 100004)]
def bX6_costOfAll_2 : CD := [(29, .iload 1), (30, .ireturn)]
def bX6_costOfAll : List CD := [bX6_costOfAll_0, bX6_costOfAll_1, bX6_costOfAll_2]
theorem kX6_costOfAll : bX6_costOfAll.all (chkL 6 false cX6_costOfAll bX6_costOfAll) = true := by decide +kernel
theorem mX6_costOfAll : MB 43 bX6_costOfAll 1 3 := ⟨by decide, by decide +kernel, kX6_costOfAll, rfl, rfl⟩
def bX6_costOf_0 : CD := [(0, .iconst (0)), (1, .istore 2), (2, .iconst (0)), (3, .istore 3), (4, .iconst (0)), (5, .istore 4), (7, .goto_w 100007)]
def bX6_costOf_1 : CD := [(7, .iload 4), (9, .aload 0), (10, .getstatic 600), (13, .getfield 1), (16, .if_icmp .ge 3), (19, .aload 0), (20, .getstatic 600), (23, .getstatic 0), (26, .iload 4), (28, .aaload), (29, .getfield 104), (32, .iload 1), (33, .if_icmp .ne 2), (36, .iload 3), (37, .aload 0), (38, .iload 4), (40, .invokeinterface 47 7021), (43, .iadd), (44, .istore 3), (45, .iload 2), (46, .aload 0), (47, .iload 4), (49, .iload 1), (50, .invokeinterface 45 7031), (53, .iadd), (54, .istore 2), (55, .goto_w 2)]
def bX6_costOf_2 : CD := [(55, .iinc 4 (1)), (58, .goto 100007)]
def bX6_costOf_3 : CD := [(61, .iload 2), (62, .iload 3), (63, .invokeinterface 48 11), (66, .iadd), (67, .ireturn)]
def bX6_costOf : List CD := [bX6_costOf_0, bX6_costOf_1, bX6_costOf_2, bX6_costOf_3]
theorem kX6_costOf : bX6_costOf.all (chkL 6 false cX6_costOf bX6_costOf) = true := by decide +kernel
theorem mX6_costOf : MB 44 bX6_costOf 1 5 := ⟨by decide, by decide +kernel, kX6_costOf, rfl, rfl⟩
def bX6_costBehind_0 : CD := [(0, .iconst (0)), (1, .istore 3), (2, .iload 1), (3, .iconst (1)), (4, .iadd), (5, .istore 4), (7, .goto_w 100007)]
def bX6_costBehind_1 : CD := [(7, .iload 4), (9, .aload 0), (10, .getstatic 600), (13, .getfield 1), (16, .if_icmp .ge 3), (19, .aload 0), (20, .getstatic 600), (23, .getstatic 0), (26, .iload 4), (28, .aaload), (29, .getfield 104), (32, .iload 2), (33, .if_icmp .ne 2), (36, .iload 3), (37, .aload 0), (38, .iload 1), (39, .iload 4), (41, .invokeinterface 46 7031), (44, .iadd), (45, .istore 3), (46, .goto_w 2)]
def bX6_costBehind_2 : CD := [(46, .iinc 4 (1)), (49, .goto 100007)]
def bX6_costBehind_3 : CD := [(52, .iload 3), (53, .ireturn)]
def bX6_costBehind : List CD := [bX6_costBehind_0, bX6_costBehind_1, bX6_costBehind_2, bX6_costBehind_3]
theorem kX6_costBehind : bX6_costBehind.all (chkL 6 false cX6_costBehind bX6_costBehind) = true := by decide +kernel
theorem mX6_costBehind : MB 45 bX6_costBehind 1 5 := ⟨by decide, by decide +kernel, kX6_costBehind, rfl, rfl⟩
def bX6_between_0 : CD := [(0, .aload 0), (1, .getstatic 600), (4, .getstatic 0), (7, .iload 1), (8, .aaload), (9, .astore 3), (10, .aload 0), (11, .getstatic 600), (14, .getstatic 0), (17, .iload 2), (18, .aaload), (19, .astore 4), (21, .aload 3), (22, .getfield 100), (25, .aload 4), (27, .getfield 100), (30, .if_icmp .ne 1), (33, .iconst (30)), (35, .goto 2)]
def bX6_between_1 : CD := [(38, .iconst (0)), (39, .goto_w 2)]
def bX6_between_2 : CD := [(39, .istore 5), (41, .aload 3), (42, .iload 2), (43, .invokeinterface 13 2021), (46, .ifCond .eq 3), (49, .iinc 5 (300)), (55, .goto_w 3)]
def bX6_between_3 : CD := [(55, .iload 5), (57, .iconst (5)), (58, .iconst (0)), (59, .aload 3), (60, .getfield 101), (63, .aload 4), (65, .getfield 101), (68, .isub), (69, .fneg), (72, .iconst (2)), (73, .isub), (74, .fadd), (77, .imul), (78, .iadd), (79, .ireturn)]
def bX6_between : List CD := [bX6_between_0, bX6_between_1, bX6_between_2, bX6_between_3]
theorem kX6_between : bX6_between.all (chkL 6 false cX6_between bX6_between) = true := by decide +kernel
theorem mX6_between : MB 46 bX6_between 1 6 := ⟨by decide, by decide +kernel, kX6_between, rfl, rfl⟩
def bX6_shyness_0 : CD := [(0, .aload 0), (1, .getstatic 600), (4, .getstatic 0), (7, .iload 1), (8, .aaload), (9, .getfield 102), (12, .ifCond .eq 1), (15, .iconst (1)), (16, .goto 2)]
def bX6_shyness_1 : CD := [(19, .iconst (0)), (20, .goto_w 2)]
def bX6_shyness_2 : CD := [(20, .ireturn)]
def bX6_shyness : List CD := [bX6_shyness_0, bX6_shyness_1, bX6_shyness_2]
theorem kX6_shyness : bX6_shyness.all (chkL 6 false cX6_shyness bX6_shyness) = true := by decide +kernel
theorem mX6_shyness : MB 47 bX6_shyness 1 2 := ⟨by decide, by decide +kernel, kX6_shyness, rfl, rfl⟩
def bX6_lonely_0 : CD := [(0, .iload 0), (1, .iconst (1)), (2, .if_icmp .ne 1), (5, .iconst (12)), (7, .goto 2)]
def bX6_lonely_1 : CD := [(10, .iconst (0)), (11, .goto_w 2)]
def bX6_lonely_2 : CD := [(11, .ireturn)]
def bX6_lonely : List CD := [bX6_lonely_0, bX6_lonely_1, bX6_lonely_2]
theorem kX6_lonely : bX6_lonely.all (chkL 6 false cX6_lonely bX6_lonely) = true := by decide +kernel
theorem mX6_lonely : MB 48 bX6_lonely 1 1 := ⟨by decide, by decide +kernel, kX6_lonely, rfl, rfl⟩
def bX10_within_0 : CD := [(0, .iload 0), (1, .iload 1), (2, .if_icmp .lt 1), (5, .iload 0), (6, .iload 2), (7, .if_icmp .gt 1), (10, .iconst (1)), (11, .goto 2)]
def bX10_within_1 : CD := [(14, .iconst (0)), (15, .goto_w 2)]
def bX10_within_2 : CD := [(15, .ireturn)]
def bX10_within : List CD := [bX10_within_0, bX10_within_1, bX10_within_2]
theorem kX10_within : bX10_within.all (chkL 10 false cX10_within bX10_within) = true := by decide +kernel
theorem mX10_within : MB 99 bX10_within 2 3 := ⟨by decide, by decide +kernel, kX10_within, rfl, rfl⟩
def bX10_child_0 : CD := [(0, .aload 0), (1, .getstatic 1000), (4, .getfield 1), (7, .iconst (24)), (9, .if_icmp .ge 1), (12, .iload 1), (13, .iconst (0)), (14, .iconst (5)), (15, .invokeinterface 99 31), (18, .ifCond .eq 1), (21, .iload 2), (22, .iconst (8)), (24, .iconst (17)), (26, .invokeinterface 99 31), (29, .ifCond .ne 2), (32, .goto_w 1)]
def bX10_child_1 : CD := [(32, .iconst (-1)), (33, .ireturn)]
def bX10_child_2 : CD := [(34, .aload 0), (35, .getstatic 1000), (38, .getfield 1), (41, .istore 4), (43, .aload 0), (44, .getstatic 1000), (47, .getstatic 0), (50, .iload 4), (52, .aaload), (53, .iload 1), (54, .iload 2), (55, .iload 3), (56, .invokeinterface 11 2040), (59, .aload 0), (60, .getstatic 1000), (63, .iload 4), (65, .iconst (1)), (66, .iadd), (67, .putfield 1), (70, .iload 4), (72, .ireturn)]
def bX10_child : List CD := [bX10_child_0, bX10_child_1, bX10_child_2]
theorem kX10_child : bX10_child.all (chkL 10 false cX10_child bX10_child) = true := by decide +kernel
theorem mX10_child : MB 100 bX10_child 1 5 := ⟨by decide, by decide +kernel, kX10_child, rfl, rfl⟩
def bX10_cabin_0 : CD := [(0, .aload 0), (1, .getstatic 1000), (4, .getfield 4), (7, .iconst (6)), (9, .if_icmp .ge 1), (12, .iload 1), (13, .iconst (1)), (14, .iconst (8)), (16, .invokeinterface 99 31), (19, .ifCond .ne 2), (22, .goto_w 1)]
def bX10_cabin_1 : CD := [(22, .iconst (-1)), (23, .ireturn)]
def bX10_cabin_2 : CD := [(24, .aload 0), (25, .getstatic 1000), (28, .getfield 4), (31, .istore 2), (32, .aload 0), (33, .getstatic 1000), (36, .getstatic 3), (39, .iload 2), (40, .iload 1), (41, .iastore), (42, .aload 0), (43, .getstatic 1000), (46, .iload 2), (47, .iconst (1)), (48, .iadd), (49, .putfield 4), (52, .iload 2), (53, .ireturn)]
def bX10_cabin : List CD := [bX10_cabin_0, bX10_cabin_1, bX10_cabin_2]
theorem kX10_cabin : bX10_cabin.all (chkL 10 false cX10_cabin bX10_cabin) = true := by decide +kernel
theorem mX10_cabin : MB 102 bX10_cabin 1 3 := ⟨by decide, by decide +kernel, kX10_cabin, rfl, rfl⟩
def bX10_feed_0 : CD := [(0, .aload 0), (1, .getstatic 1000), (4, .getfield 13), (7, .iconst (20)), (9, .iadd), (10, .iconst (500)), (13, .if_icmp .le 1), (16, .iconst (-1)), (17, .ireturn)]
def bX10_feed_1 : CD := [(18, .aload 0), (19, .getstatic 1000), (22, .iload 1), (23, .invokeinterface 9 1020), (26, .aload 0), (27, .getstatic 1000), (30, .iload 2), (31, .invokeinterface 9 1020), (34, .aload 0), (35, .getstatic 1000), (38, .iload 3), (39, .invokeinterface 9 1020), (42, .aload 0), (43, .getstatic 1000), (46, .iload 4), (48, .invokeinterface 9 1020), (51, .aload 0), (52, .getstatic 1000), (55, .iload 5), (57, .invokeinterface 9 1020), (60, .aload 0), (61, .getstatic 1000), (64, .getfield 13), (67, .ireturn)]
def bX10_feed : List CD := [bX10_feed_0, bX10_feed_1]
theorem kX10_feed : bX10_feed.all (chkL 10 false cX10_feed bX10_feed) = true := by decide +kernel
theorem mX10_feed : MB 111 bX10_feed 1 6 := ⟨by decide, by decide +kernel, kX10_feed, rfl, rfl⟩
def bX10_end_0 : CD := [(0, .iload 1), (1, .iconst (0)), (2, .aload 0), (3, .getstatic 1000), (6, .getfield 13), (9, .invokeinterface 99 31), (12, .ifCond .ne 1), (15, .iconst (-1)), (16, .ireturn)]
def bX10_end_1 : CD := [(17, .aload 0), (18, .getstatic 1000), (21, .iload 1), (22, .putfield 13), (25, .iload 1), (26, .ireturn)]
def bX10_end : List CD := [bX10_end_0, bX10_end_1]
theorem kX10_end : bX10_end.all (chkL 10 false cX10_end bX10_end) = true := by decide +kernel
theorem mX10_end : MB 112 bX10_end 1 2 := ⟨by decide, by decide +kernel, kX10_end, rfl, rfl⟩
def bX10_host_0 : CD := [(0, .aload 0), (1, .getstatic 1000), (4, .getfield 8), (7, .iconst (8)), (9, .if_icmp .lt 1), (12, .iconst (-1)), (13, .ireturn)]
def bX10_host_1 : CD := [(14, .aload 0), (15, .getstatic 1000), (18, .getfield 8), (21, .istore 1), (22, .aload 0), (23, .getstatic 1000), (26, .iload 1), (27, .iconst (1)), (28, .iadd), (29, .putfield 8), (32, .iload 1), (33, .ireturn)]
def bX10_host : List CD := [bX10_host_0, bX10_host_1]
theorem kX10_host : bX10_host.all (chkL 10 false cX10_host bX10_host) = true := by decide +kernel
theorem mX10_host : MB 127 bX10_host 1 2 := ⟨by decide, by decide +kernel, kX10_host, rfl, rfl⟩
def bX10_like_0 : CD := [(0, .aload 0), (1, .getstatic 1000), (4, .iload 1), (5, .invokeinterface 4 1021), (8, .ifCond .eq 1), (11, .aload 0), (12, .getstatic 1000), (15, .iload 2), (16, .invokeinterface 2 1021), (19, .ifCond .eq 1), (22, .iload 3), (23, .iconst (-1)), (24, .iconst (9)), (26, .invokeinterface 99 31), (29, .ifCond .ne 2), (32, .goto_w 1)]
def bX10_like_1 : CD := [(32, .iconst (0)), (33, .ireturn)]
def bX10_like_2 : CD := [(34, .aload 0), (35, .getstatic 1000), (38, .getstatic 7), (41, .iload 1), (42, .iconst (24)), (44, .imul), (45, .iload 2), (46, .iadd), (47, .iload 3), (48, .iastore), (49, .iconst (1)), (50, .ireturn)]
def bX10_like : List CD := [bX10_like_0, bX10_like_1, bX10_like_2]
theorem kX10_like : bX10_like.all (chkL 10 false cX10_like bX10_like) = true := by decide +kernel
theorem mX10_like : MB 128 bX10_like 2 4 := ⟨by decide, by decide +kernel, kX10_like, rfl, rfl⟩
def bX11_in_0 : CD := [(0, .iload 0), (1, .iload 1), (2, .if_icmp .lt 1), (5, .iload 0), (6, .iload 2), (7, .if_icmp .gt 1), (10, .iconst (1)), (11, .goto 2)]
def bX11_in_1 : CD := [(14, .iconst (0)), (15, .goto_w 2)]
def bX11_in_2 : CD := [(15, .ireturn)]
def bX11_in : List CD := [bX11_in_0, bX11_in_1, bX11_in_2]
theorem kX11_in : bX11_in.all (chkL 11 false cX11_in bX11_in) = true := by decide +kernel
theorem mX11_in : MB 136 bX11_in 2 3 := ⟨by decide, by decide +kernel, kX11_in, rfl, rfl⟩
def bX11_isChild_0 : CD := [(0, .iload 1), (1, .iconst (0)), (2, .aload 0), (3, .getstatic 1105), (6, .iconst (0)), (7, .iaload), (8, .iconst (1)), (9, .isub), (10, .invokeinterface 136 31), (13, .ireturn)]
def bX11_isChild : List CD := [bX11_isChild_0]
theorem kX11_isChild : bX11_isChild.all (chkL 11 false cX11_isChild bX11_isChild) = true := by decide +kernel
theorem mX11_isChild : MB 140 bX11_isChild 2 2 := ⟨by decide, by decide +kernel, kX11_isChild, rfl, rfl⟩
def bX11_isCabin_0 : CD := [(0, .iload 1), (1, .iconst (0)), (2, .aload 0), (3, .getstatic 1121), (6, .iconst (0)), (7, .iaload), (8, .iconst (1)), (9, .isub), (10, .invokeinterface 136 31), (13, .ireturn)]
def bX11_isCabin : List CD := [bX11_isCabin_0]
theorem kX11_isCabin : bX11_isCabin.all (chkL 11 false cX11_isCabin bX11_isCabin) = true := by decide +kernel
theorem mX11_isCabin : MB 141 bX11_isCabin 2 2 := ⟨by decide, by decide +kernel, kX11_isCabin, rfl, rfl⟩
def bX11_child_0 : CD := [(0, .aload 0), (1, .iconst (0)), (2, .putfield 1100), (5, .aload 0), (6, .getstatic 1105), (9, .iconst (0)), (10, .iaload), (11, .iconst (24)), (13, .if_icmp .eq 1), (16, .iload 1), (17, .iconst (0)), (18, .iconst (5)), (19, .invokeinterface 136 31), (22, .ifCond .eq 1), (25, .iload 2), (26, .iconst (8)), (28, .iconst (17)), (30, .invokeinterface 136 31), (33, .ifCond .ne 2), (36, .goto_w 1)]
def bX11_child_1 : CD := [(36, .iconst (-1)), (37, .ireturn)]
def bX11_child_2 : CD := [(38, .aload 0), (39, .getstatic 1105), (42, .iconst (0)), (43, .iaload), (44, .istore 4), (46, .aload 0), (47, .getstatic 1105), (50, .iconst (0)), (51, .dup2), (52, .iaload), (53, .iconst (1)), (54, .iadd), (55, .iastore), (56, .aload 0), (57, .getstatic 1106), (60, .iload 4), (62, .iload 1), (63, .iastore), (64, .aload 0), (65, .getstatic 1107), (68, .iload 4), (70, .iload 2), (71, .iastore), (72, .aload 0), (73, .getstatic 1108), (76, .iload 4), (78, .iload 3), (79, .bastore), (80, .aload 0), (81, .getstatic 1109), (84, .iload 4), (86, .iconst (-1)), (87, .iastore), (88, .aload 0), (89, .getstatic 1110), (92, .iload 4), (94, .iconst (0)), (95, .iastore), (96, .aload 0), (97, .getstatic 1111), (100, .iload 4), (102, .iconst (10)), (104, .iastore), (105, .aload 0), (106, .getstatic 1112), (109, .iload 4), (111, .iconst (0)), (112, .iastore), (113, .aload 0), (114, .getstatic 1113), (117, .iload 4), (119, .iconst (-1)), (120, .iastore), (121, .aload 0), (122, .getstatic 1114), (125, .iload 4), (127, .iconst (10)), (129, .iastore), (130, .aload 0), (131, .getstatic 1115), (134, .iload 4), (136, .iconst (0)), (137, .iastore), (138, .aload 0), (139, .getstatic 1116), (142, .iload 4), (144, .iconst (0)), (145, .iastore), (146, .aload 0), (147, .getstatic 1117), (150, .iload 4), (152, .iconst (0)), (153, .bastore), (154, .aload 0), (155, .getstatic 1118), (158, .iload 4), (160, .iconst (-1)), (161, .iastore), (162, .aload 0), (163, .getstatic 1120), (166, .iload 4), (168, .iconst (0)), (169, .iastore), (170, .aload 0), (171, .getstatic 1138), (174, .iload 4), (176, .iconst (0)), (177, .bastore), (178, .iconst (0)), (179, .istore 5), (181, .goto_w 100181)]
def bX11_child_3 : CD := [(181, .iload 5), (183, .iconst (8)), (185, .if_icmp .ge 4), (188, .aload 0), (189, .getstatic 1137), (192, .iconst (24)), (194, .iload 5), (196, .imul), (197, .iload 4), (199, .iadd), (200, .iconst (0)), (201, .iastore), (202, .iinc 5 (1)), (205, .goto 100181)]
def bX11_child_4 : CD := [(208, .iload 4), (210, .ireturn)]
def bX11_child : List CD := [bX11_child_0, bX11_child_1, bX11_child_2, bX11_child_3, bX11_child_4]
theorem kX11_child : bX11_child.all (chkL 11 false cX11_child bX11_child) = true := by decide +kernel
theorem mX11_child : MB 142 bX11_child 1 6 := ⟨by decide, by decide +kernel, kX11_child, rfl, rfl⟩
def bX11_cabin_0 : CD := [(0, .aload 0), (1, .iconst (0)), (2, .putfield 1100), (5, .aload 0), (6, .getstatic 1121), (9, .iconst (0)), (10, .iaload), (11, .iconst (6)), (13, .if_icmp .eq 1), (16, .iload 1), (17, .iconst (1)), (18, .iconst (8)), (20, .invokeinterface 136 31), (23, .ifCond .ne 2), (26, .goto_w 1)]
def bX11_cabin_1 : CD := [(26, .iconst (-1)), (27, .ireturn)]
def bX11_cabin_2 : CD := [(28, .aload 0), (29, .getstatic 1122), (32, .aload 0), (33, .getstatic 1121), (36, .iconst (0)), (37, .iaload), (38, .iload 1), (39, .iastore), (40, .aload 0), (41, .getstatic 1121), (44, .iconst (0)), (45, .dup2), (46, .iaload), (47, .iconst (1)), (48, .iadd), (49, .iastore), (50, .aload 0), (51, .getstatic 1121), (54, .iconst (0)), (55, .iaload), (56, .iconst (1)), (57, .isub), (58, .ireturn)]
def bX11_cabin : List CD := [bX11_cabin_0, bX11_cabin_1, bX11_cabin_2]
theorem kX11_cabin : bX11_cabin.all (chkL 11 false cX11_cabin bX11_cabin) = true := by decide +kernel
theorem mX11_cabin : MB 145 bX11_cabin 1 2 := ⟨by decide, by decide +kernel, kX11_cabin, rfl, rfl⟩
def bX11_feed_0 : CD := [(0, .aload 0), (1, .iconst (0)), (2, .putfield 1100), (5, .aload 0), (6, .getstatic 1102), (9, .iconst (0)), (10, .iaload), (11, .iconst (20)), (13, .iadd), (14, .iconst (500)), (17, .if_icmp .le 1), (20, .iconst (-1)), (21, .ireturn)]
def bX11_feed_1 : CD := [(22, .aload 0), (23, .iload 1), (24, .invokeinterface 163 12020), (27, .aload 0), (28, .iload 2), (29, .invokeinterface 163 12020), (32, .aload 0), (33, .iload 3), (34, .invokeinterface 163 12020), (37, .aload 0), (38, .iload 4), (40, .invokeinterface 163 12020), (43, .aload 0), (44, .iload 5), (46, .invokeinterface 163 12020), (49, .aload 0), (50, .getstatic 1102), (53, .iconst (0)), (54, .iaload), (55, .ireturn)]
def bX11_feed : List CD := [bX11_feed_0, bX11_feed_1]
theorem kX11_feed : bX11_feed.all (chkL 11 false cX11_feed bX11_feed) = true := by decide +kernel
theorem mX11_feed : MB 162 bX11_feed 1 6 := ⟨by decide, by decide +kernel, kX11_feed, rfl, rfl⟩
def bX11_four_0 : CD := [(0, .iconst (24)), (2, .istore 2), (3, .goto_w 100003)]
def bX11_four_1 : CD := [(3, .iload 2), (4, .ifCond .lt 2), (7, .aload 0), (8, .getstatic 1101), (11, .aload 0), (12, .getstatic 1102), (15, .iconst (0)), (16, .iaload), (17, .iload 1), (18, .iload 2), (19, .ishr), (20, .i2b), (21, .bastore), (22, .aload 0), (23, .getstatic 1102), (26, .iconst (0)), (27, .dup2), (28, .iaload), (29, .iconst (1)), (30, .iadd), (31, .iastore), (32, .iinc 2 (-8)), (35, .goto 100003)]
def bX11_four_2 : CD := [(38, .return_)]
def bX11_four : List CD := [bX11_four_0, bX11_four_1, bX11_four_2]
theorem kX11_four : bX11_four.all (chkL 11 false cX11_four bX11_four) = true := by decide +kernel
theorem mX11_four : MB 163 bX11_four 0 3 := ⟨by decide, by decide +kernel, kX11_four, rfl, rfl⟩
def bX11_end_0 : CD := [(0, .aload 0), (1, .iconst (0)), (2, .putfield 1100), (5, .iload 1), (6, .iconst (0)), (7, .aload 0), (8, .getstatic 1102), (11, .iconst (0)), (12, .iaload), (13, .invokeinterface 136 31), (16, .ifCond .ne 1), (19, .iconst (-1)), (20, .ireturn)]
def bX11_end_1 : CD := [(21, .aload 0), (22, .getstatic 1102), (25, .iconst (0)), (26, .iload 1), (27, .iastore), (28, .iload 1), (29, .ireturn)]
def bX11_end : List CD := [bX11_end_0, bX11_end_1]
theorem kX11_end : bX11_end.all (chkL 11 false cX11_end bX11_end) = true := by decide +kernel
theorem mX11_end : MB 164 bX11_end 1 2 := ⟨by decide, by decide +kernel, kX11_end, rfl, rfl⟩
def bX11_host_0 : CD := [(0, .aload 0), (1, .iconst (0)), (2, .putfield 1100), (5, .aload 0), (6, .getstatic 1136), (9, .iconst (0)), (10, .iaload), (11, .iconst (8)), (13, .if_icmp .ne 1), (16, .iconst (-1)), (17, .ireturn)]
def bX11_host_1 : CD := [(18, .aload 0), (19, .getstatic 1136), (22, .iconst (0)), (23, .iaload), (24, .istore 1), (25, .aload 0), (26, .getstatic 1136), (29, .iconst (0)), (30, .dup2), (31, .iaload), (32, .iconst (1)), (33, .iadd), (34, .iastore), (35, .iconst (0)), (36, .istore 2), (37, .goto_w 100037)]
def bX11_host_2 : CD := [(37, .iload 2), (38, .iconst (24)), (40, .if_icmp .ge 3), (43, .aload 0), (44, .getstatic 1137), (47, .iconst (24)), (49, .iload 1), (50, .imul), (51, .iload 2), (52, .iadd), (53, .iconst (0)), (54, .iastore), (55, .iinc 2 (1)), (58, .goto 100037)]
def bX11_host_3 : CD := [(61, .iload 1), (62, .ireturn)]
def bX11_host : List CD := [bX11_host_0, bX11_host_1, bX11_host_2, bX11_host_3]
theorem kX11_host : bX11_host.all (chkL 11 false cX11_host bX11_host) = true := by decide +kernel
theorem mX11_host : MB 193 bX11_host 1 3 := ⟨by decide, by decide +kernel, kX11_host, rfl, rfl⟩
def bX11_like_0 : CD := [(0, .aload 0), (1, .iconst (0)), (2, .putfield 1100), (5, .iload 1), (6, .iconst (0)), (7, .aload 0), (8, .getstatic 1136), (11, .iconst (0)), (12, .iaload), (13, .iconst (1)), (14, .isub), (15, .invokeinterface 136 31), (18, .ifCond .eq 1), (21, .aload 0), (22, .iload 2), (23, .invokeinterface 140 12021), (26, .ifCond .eq 1), (29, .iload 3), (30, .iconst (-1)), (31, .iconst (9)), (33, .invokeinterface 136 31), (36, .ifCond .ne 2), (39, .goto_w 1)]
def bX11_like_1 : CD := [(39, .iconst (0)), (40, .ireturn)]
def bX11_like_2 : CD := [(41, .aload 0), (42, .getstatic 1137), (45, .iconst (24)), (47, .iload 1), (48, .imul), (49, .iload 2), (50, .iadd), (51, .iload 3), (52, .iastore), (53, .iconst (1)), (54, .ireturn)]
def bX11_like : List CD := [bX11_like_0, bX11_like_1, bX11_like_2]
theorem kX11_like : bX11_like.all (chkL 11 false cX11_like bX11_like) = true := by decide +kernel
theorem mX11_like : MB 194 bX11_like 2 4 := ⟨by decide, by decide +kernel, kX11_like, rfl, rfl⟩
