/-! the game in the reference: its lines, cut behind each call -/
def bX11_testS_0 : CD := [(0, .iload 2), (1, .iconst (4)), (2, .if_icmp .ne 100009), (5, .aload 0), (6, .invokeinterface 170 12010), (9, .goto_w 100009)]
def bX11_testS_1 : CD := [(9, .goto_w 2)]
def bX11_testS_2 : CD := [(9, .aload 0), (10, .ldc2_w 7237492), (13, .invokeinterface 167 12021), (16, .goto_w 100016)]
def bX11_testS_3 : CD := [(16, .istore 3), (17, .iload 3), (18, .ifCond .eq 100025), (21, .aload 0), (22, .invokeinterface 166 12010), (25, .goto_w 100025)]
def bX11_testS_4 : CD := [(25, .goto_w 5)]
def bX11_testS_5 : CD := [(25, .aload 0), (26, .ldc2_w 7305070), (29, .invokeinterface 167 12021), (32, .goto_w 100032)]
def bX11_testS_6 : CD := [(32, .ifCond .eq 7), (35, .iconst (0)), (36, .goto 100185)]
def bX11_testS_7 : CD := [(39, .aload 0), (40, .ldc2_w 114784820290930), (43, .invokeinterface 167 12021), (46, .goto_w 100046)]
def bX11_testS_8 : CD := [(46, .ifCond .eq 9), (49, .iconst (1)), (50, .goto 100185)]
def bX11_testS_9 : CD := [(53, .aload 0), (54, .ldc2_w 7563385), (57, .invokeinterface 167 12021), (60, .goto_w 100060)]
def bX11_testS_10 : CD := [(60, .ifCond .eq 11), (63, .iconst (2)), (64, .goto 100185)]
def bX11_testS_11 : CD := [(67, .aload 0), (68, .ldc2_w 126896627347060), (71, .invokeinterface 167 12021), (74, .goto_w 100074)]
def bX11_testS_12 : CD := [(74, .ifCond .eq 13), (77, .iconst (3)), (78, .goto 100185)]
def bX11_testS_13 : CD := [(81, .aload 0), (82, .ldc2_w 512970876019), (85, .invokeinterface 167 12021), (88, .goto_w 100088)]
def bX11_testS_14 : CD := [(88, .ifCond .eq 15), (91, .iconst (4)), (92, .goto 100185)]
def bX11_testS_15 : CD := [(95, .aload 0), (96, .ldc2_w 1752135026), (99, .invokeinterface 167 12021), (102, .goto_w 100102)]
def bX11_testS_16 : CD := [(102, .ifCond .eq 17), (105, .iconst (5)), (106, .goto 100185)]
def bX11_testS_17 : CD := [(109, .aload 0), (110, .ldc2_w 6578553), (113, .invokeinterface 167 12021), (116, .goto_w 100116)]
def bX11_testS_18 : CD := [(116, .ifCond .eq 19), (119, .iconst (6)), (121, .goto 100185)]
def bX11_testS_19 : CD := [(124, .aload 0), (125, .ldc2_w 7106423), (128, .invokeinterface 167 12021), (131, .goto_w 100131)]
def bX11_testS_20 : CD := [(131, .ifCond .eq 21), (134, .iconst (7)), (136, .goto 100185)]
def bX11_testS_21 : CD := [(139, .aload 0), (140, .ldc2_w 6383461), (143, .invokeinterface 167 12021), (146, .goto_w 100146)]
def bX11_testS_22 : CD := [(146, .ifCond .eq 23), (149, .iconst (8)), (151, .goto 100185)]
def bX11_testS_23 : CD := [(154, .aload 0), (155, .ldc2_w 6840691), (158, .invokeinterface 167 12021), (161, .goto_w 100161)]
def bX11_testS_24 : CD := [(161, .ifCond .eq 25), (164, .iconst (9)), (166, .goto 100185)]
def bX11_testS_25 : CD := [(169, .aload 0), (170, .ldc2_w 7501166), (173, .invokeinterface 167 12021), (176, .goto_w 100176)]
def bX11_testS_26 : CD := [(176, .ifCond .eq 27), (179, .iconst (10)), (181, .goto 100185)]
def bX11_testS_27 : CD := [(184, .iconst (-1)), (185, .goto_w 100185)]
def bX11_testS_28 : CD := [(185, .istore 4), (187, .iload 4), (189, .iconst (-1)), (190, .if_icmp .ne 30), (193, .aload 0), (194, .invokeinterface 169 12011), (197, .goto_w 100197)]
def bX11_testS_29 : CD := [(197, .ireturn)]
def bX11_testS_30 : CD := [(198, .aload 0), (199, .invokeinterface 166 12010), (202, .goto_w 100202)]
def bX11_testS_31 : CD := [(202, .iconst (61)), (204, .istore 5), (206, .iconst (1)), (207, .istore 6), (209, .iload 4), (211, .iconst (3)), (212, .if_icmp .le 100282), (215, .aload 0), (216, .getfield 1151), (219, .istore 5), (221, .aload 0), (222, .getfield 1150), (225, .iconst (4)), (226, .if_icmp .ne 32), (229, .iload 5), (231, .iconst (60)), (233, .if_icmp .eq 34), (236, .iload 5), (238, .iconst (62)), (240, .if_icmp .eq 34), (243, .iload 5), (245, .iconst (61)), (247, .if_icmp .eq 34), (250, .goto_w 32)]
def bX11_testS_32 : CD := [(250, .aload 0), (251, .invokeinterface 169 12011), (254, .goto_w 100254)]
def bX11_testS_33 : CD := [(254, .ireturn)]
def bX11_testS_34 : CD := [(255, .aload 0), (256, .invokeinterface 166 12010), (259, .goto_w 100259)]
def bX11_testS_35 : CD := [(259, .aload 0), (260, .getfield 1150), (263, .iconst (3)), (264, .if_icmp .eq 37), (267, .aload 0), (268, .invokeinterface 169 12011), (271, .goto_w 100271)]
def bX11_testS_36 : CD := [(271, .ireturn)]
def bX11_testS_37 : CD := [(272, .aload 0), (273, .getfield 1151), (276, .istore 6), (278, .aload 0), (279, .invokeinterface 166 12010), (282, .goto_w 100282)]
def bX11_testS_38 : CD := [(282, .goto_w 39)]
def bX11_testS_39 : CD := [(282, .iload 2), (283, .iconst (4)), (284, .if_icmp .ge 42), (287, .iload 1), (288, .iconst (16)), (290, .if_icmp .ge 42), (293, .iconst (4)), (294, .iload 1), (295, .imul), (296, .iload 2), (297, .iadd), (298, .istore 7), (300, .aload 0), (301, .getstatic 1157), (304, .iload 7), (306, .iload 3), (307, .ifCond .eq 40), (310, .iload 4), (312, .iconst (16)), (314, .iadd), (315, .goto 41)]
def bX11_testS_40 : CD := [(318, .iload 4), (320, .goto_w 41)]
def bX11_testS_41 : CD := [(320, .iastore), (321, .aload 0), (322, .getstatic 1158), (325, .iload 7), (327, .iload 5), (329, .iastore), (330, .aload 0), (331, .getstatic 1159), (334, .iload 7), (336, .iload 6), (338, .iastore), (339, .aload 0), (340, .getstatic 1156), (343, .iload 1), (344, .iload 2), (345, .iconst (1)), (346, .iadd), (347, .iastore), (348, .goto_w 42)]
def bX11_testS_42 : CD := [(348, .iconst (1)), (349, .ireturn)]
def bX11_testS : List CD := [bX11_testS_0, bX11_testS_1, bX11_testS_2, bX11_testS_3, bX11_testS_4, bX11_testS_5, bX11_testS_6, bX11_testS_7, bX11_testS_8, bX11_testS_9, bX11_testS_10, bX11_testS_11, bX11_testS_12, bX11_testS_13, bX11_testS_14, bX11_testS_15, bX11_testS_16, bX11_testS_17, bX11_testS_18, bX11_testS_19, bX11_testS_20, bX11_testS_21, bX11_testS_22, bX11_testS_23, bX11_testS_24, bX11_testS_25, bX11_testS_26, bX11_testS_27, bX11_testS_28, bX11_testS_29, bX11_testS_30, bX11_testS_31, bX11_testS_32, bX11_testS_33, bX11_testS_34, bX11_testS_35, bX11_testS_36, bX11_testS_37, bX11_testS_38, bX11_testS_39, bX11_testS_40, bX11_testS_41, bX11_testS_42]
theorem kX11_testS : bX11_testS.all (chkL 11 false cX11_test bX11_testS) = true := by decide +kernel
theorem mX11_testS : MB 173 bX11_testS 2 8 := ⟨by decide, by decide +kernel, kX11_testS, rfl, rfl⟩
def bX11_oneLineS_0 : CD := [(0, .aload 0), (1, .getfield 1155), (4, .iconst (16)), (6, .if_icmp .ge 1), (9, .aload 0), (10, .getfield 1155), (13, .goto 100018)]
def bX11_oneLineS_1 : CD := [(16, .iconst (16)), (18, .goto_w 100018)]
def bX11_oneLineS_2 : CD := [(18, .istore 1), (19, .aload 0), (20, .getfield 1155), (23, .iconst (16)), (25, .if_icmp .ne 100032), (28, .aload 0), (29, .invokeinterface 170 12010), (32, .goto_w 100032)]
def bX11_oneLineS_3 : CD := [(32, .goto_w 4)]
def bX11_oneLineS_4 : CD := [(32, .aload 0), (33, .getstatic 1156), (36, .iload 1), (37, .iconst (0)), (38, .iastore), (39, .aload 0), (40, .ldc2_w 26982), (43, .invokeinterface 167 12021), (46, .goto_w 100046)]
def bX11_oneLineS_5 : CD := [(46, .ifCond .eq 100097), (49, .iconst (1)), (50, .istore 2), (51, .iconst (0)), (52, .istore 3), (53, .goto_w 100053)]
def bX11_oneLineS_6 : CD := [(53, .iload 2), (54, .ifCond .eq 11), (57, .aload 0), (58, .invokeinterface 166 12010), (61, .goto_w 100061)]
def bX11_oneLineS_7 : CD := [(61, .aload 0), (62, .iload 1), (63, .iload 3), (64, .invokeinterface 173 12031), (67, .goto_w 100067)]
def bX11_oneLineS_8 : CD := [(67, .ifCond .ne 9), (70, .iconst (0)), (71, .ireturn)]
def bX11_oneLineS_9 : CD := [(72, .aload 0), (73, .ldc2_w 6385252), (76, .invokeinterface 167 12021), (79, .goto_w 100079)]
def bX11_oneLineS_10 : CD := [(79, .istore 2), (80, .iinc 3 (1)), (83, .goto 100053)]
def bX11_oneLineS_11 : CD := [(86, .aload 0), (87, .iconst (58)), (89, .invokeinterface 171 12021), (92, .goto_w 100092)]
def bX11_oneLineS_12 : CD := [(92, .ifCond .ne 100097), (95, .iconst (0)), (96, .ireturn)]
def bX11_oneLineS_13 : CD := [(97, .aload 0), (98, .getstatic 1160), (101, .iload 1), (102, .aload 0), (103, .ldc2_w 1734437230), (106, .invokeinterface 167 12021), (109, .goto_w 100109)]
def bX11_oneLineS_14 : CD := [(109, .ifCond .eq 15), (112, .iconst (0)), (113, .goto 100159)]
def bX11_oneLineS_15 : CD := [(116, .aload 0), (117, .ldc2_w 1819243365), (120, .invokeinterface 167 12021), (123, .goto_w 100123)]
def bX11_oneLineS_16 : CD := [(123, .ifCond .eq 17), (126, .iconst (1)), (127, .goto 100159)]
def bX11_oneLineS_17 : CD := [(130, .aload 0), (131, .ldc2_w 7562612), (134, .invokeinterface 167 12021), (137, .goto_w 100137)]
def bX11_oneLineS_18 : CD := [(137, .ifCond .eq 19), (140, .iconst (2)), (141, .goto 100159)]
def bX11_oneLineS_19 : CD := [(144, .aload 0), (145, .ldc2_w 1937010544), (148, .invokeinterface 167 12021), (151, .goto_w 100151)]
def bX11_oneLineS_20 : CD := [(151, .ifCond .eq 21), (154, .iconst (3)), (155, .goto 100159)]
def bX11_oneLineS_21 : CD := [(158, .iconst (-1)), (159, .goto_w 100159)]
def bX11_oneLineS_22 : CD := [(159, .iastore), (160, .aload 0), (161, .getstatic 1160), (164, .iload 1), (165, .iaload), (166, .iconst (-1)), (167, .if_icmp .ne 24), (170, .aload 0), (171, .invokeinterface 169 12011), (174, .goto_w 100174)]
def bX11_oneLineS_23 : CD := [(174, .ireturn)]
def bX11_oneLineS_24 : CD := [(175, .aload 0), (176, .invokeinterface 166 12010), (179, .goto_w 100179)]
def bX11_oneLineS_25 : CD := [(179, .aload 0), (180, .getstatic 1161), (183, .iload 1), (184, .iconst (0)), (185, .iastore), (186, .aload 0), (187, .getstatic 1160), (190, .iload 1), (191, .iaload), (192, .iconst (3)), (193, .if_icmp .ge 100223), (196, .aload 0), (197, .getfield 1150), (200, .iconst (3)), (201, .if_icmp .eq 27), (204, .aload 0), (205, .invokeinterface 169 12011), (208, .goto_w 100208)]
def bX11_oneLineS_26 : CD := [(208, .ireturn)]
def bX11_oneLineS_27 : CD := [(209, .aload 0), (210, .getstatic 1161), (213, .iload 1), (214, .aload 0), (215, .getfield 1151), (218, .iastore), (219, .aload 0), (220, .invokeinterface 166 12010), (223, .goto_w 100223)]
def bX11_oneLineS_28 : CD := [(223, .goto_w 29)]
def bX11_oneLineS_29 : CD := [(223, .aload 0), (224, .dup), (225, .getfield 1155), (228, .iconst (1)), (229, .iadd), (230, .putfield 1155), (233, .aload 0), (234, .iconst (59)), (236, .invokeinterface 171 12021), (239, .goto_w 100239)]
def bX11_oneLineS_30 : CD := [(239, .ireturn)]
def bX11_oneLineS : List CD := [bX11_oneLineS_0, bX11_oneLineS_1, bX11_oneLineS_2, bX11_oneLineS_3, bX11_oneLineS_4, bX11_oneLineS_5, bX11_oneLineS_6, bX11_oneLineS_7, bX11_oneLineS_8, bX11_oneLineS_9, bX11_oneLineS_10, bX11_oneLineS_11, bX11_oneLineS_12, bX11_oneLineS_13, bX11_oneLineS_14, bX11_oneLineS_15, bX11_oneLineS_16, bX11_oneLineS_17, bX11_oneLineS_18, bX11_oneLineS_19, bX11_oneLineS_20, bX11_oneLineS_21, bX11_oneLineS_22, bX11_oneLineS_23, bX11_oneLineS_24, bX11_oneLineS_25, bX11_oneLineS_26, bX11_oneLineS_27, bX11_oneLineS_28, bX11_oneLineS_29, bX11_oneLineS_30]
theorem kX11_oneLineS : bX11_oneLineS.all (chkL 11 false cX11_oneLine bX11_oneLineS) = true := by decide +kernel
theorem mX11_oneLineS : MB 172 bX11_oneLineS 2 4 := ⟨by decide, by decide +kernel, kX11_oneLineS, rfl, rfl⟩
/-- what the reference has noted of a test, of the lines that are whole -/
def MX (I : MI) (st : ST) (x : Nat) : Prop := I 348 x = st 54 x - 7 + 16 * st 53 x ∧ (11 ≤ st 54 x → I 350 x = st 56 x ∧ sgn (I 349 x) = st 55 x ∧ 21 ≤ st 55 x ∧ st 55 x ≤ 23) ∧ (st 54 x < 11 → I 349 x = 61 ∧ I 350 x = 1) ∧ (st 53 x = 0 ∨ st 53 x = 1) ∧ 7 ≤ st 54 x ∧ st 54 x ≤ 17
def ML (I : MI) (st : ST) (n : Nat) : Prop := ∀ l, l < n → I 351 l + 3 = st 50 l ∧ I 352 l = st 51 l ∧ I 347 l = st 52 l ∧ (3 ≤ st 50 l ∧ st 50 l ≤ 6) ∧ (0 ≤ st 51 l ∧ st 51 l ≤ 9999) ∧ (0 ≤ st 52 l ∧ st 52 l ≤ 4) ∧ ∀ x : Nat, 4 * l ≤ x → (x : Int) < 4 * l + st 52 l → MX I st x
def PQ (I : MI) (st : ST) (n x : Nat) : Prop := st 61 0 = n ∧ I 300 55 = n ∧ I 300 54 = st 68 0 ∧ st 62 0 = x ∧ (16 ≤ n → st 68 0 ≠ -1) ∧ (4 < x → st 68 0 ≠ -1) ∧ st 67 0 = 0 ∧ (st 68 0 = -1 → st 31 0 = n ∧ ML I st n ∧ I 347 n = x ∧ ∀ y, 4 * n ≤ y → y < 4 * n + x → MX I st y)
def PA (L : Nat) (s : ST) (I0 I2 : MI) (p : Nat) : Prop := RM 0 I2 s ∧ FM I0 I2 ∧ I2 300 48 = L ∧ I2 300 47 = kwE (s 43) L p ∧ I2 300 49 = kwS (s 43) L p ∧ RK I2 (kwK (s 43) L p) (kwV (s 43) L p)
def Fr (I I' : MI) : Prop := (∀ o, o ≠ 300 → I' o = I o) ∧ ∀ j, 53 ≤ j → I' 300 j = I 300 j
theorem MX.c {I I' : MI} {st st' : ST} {x : Nat} (h : MX I st x) (h1 : I' 348 x = I 348 x) (h2 : I' 349 x = I 349 x) (h3 : I' 350 x = I 350 x) (h4 : ∀ q, 53 ≤ q → q ≤ 56 → st' q x = st q x) : MX I' st' x := by
  unfold MX
  rw [h1, h2, h3, h4 53 (by decide) (by decide), h4 54 (by decide) (by decide), h4 55 (by decide) (by decide), h4 56 (by decide) (by decide)]
  exact h
theorem ML.c {I I' : MI} {st st' : ST} {n : Nat} (h : ML I st n) (h1 : ∀ l, l < n → I' 351 l = I 351 l ∧ I' 352 l = I 352 l ∧ I' 347 l = I 347 l) (h2 : ∀ x, x < 4 * n → I' 348 x = I 348 x ∧ I' 349 x = I 349 x ∧ I' 350 x = I 350 x ∧ ∀ q, 53 ≤ q → q ≤ 56 → st' q x = st q x) (h4 : ∀ q l, 50 ≤ q → q ≤ 52 → l < n → st' q l = st q l) : ML I' st' n := by
  intro l hl
  obtain ⟨a1, a2, a3⟩ := h1 l hl
  rw [a1, a2, a3, h4 50 l (by decide) (by decide) hl, h4 51 l (by decide) (by decide) hl, h4 52 l (by decide) (by decide) hl]
  obtain ⟨b1, b2, b3, b4, b5, b6, b7⟩ := h l hl
  refine ⟨b1, b2, b3, b4, b5, b6, fun x x1 x2 => ?_⟩
  obtain ⟨c1, c2, c3, c4⟩ := h2 x (by omega)
  exact (b7 x x1 x2).c c1 c2 c3 c4
theorem PQ.c {I I' : MI} {st st' : ST} {n x : Nat} (h : PQ I st n x) (hf : Fr I I') (hs : ∀ k x, k ≠ 60 → k ≠ 63 → k ≠ 64 → k ≠ 65 → k ≠ 66 → st' k x = st k x) : PQ I' st' n x := by
  obtain ⟨h1, h2, h3, h4, h5, h6, h7, h8⟩ := h
  have e : ∀ k x, k ≠ 60 → k ≠ 63 → k ≠ 64 → k ≠ 65 → k ≠ 66 → st' k x = st k x := hs
  unfold PQ
  rw [e 61 0 (by decide) (by decide) (by decide) (by decide) (by decide), e 68 0 (by decide) (by decide) (by decide) (by decide) (by decide), e 62 0 (by decide) (by decide) (by decide) (by decide) (by decide), e 67 0 (by decide) (by decide) (by decide) (by decide) (by decide), e 31 0 (by decide) (by decide) (by decide) (by decide) (by decide), hf.2 55 (by decide), hf.2 54 (by decide), hf.1 347 (by decide)]
  refine ⟨h1, h2, h3, h4, h5, h6, h7, fun z => ?_⟩
  obtain ⟨b1, b2, b3, b4⟩ := h8 z
  refine ⟨b1, b2.c (fun l _ => ⟨by rw [hf.1 351 (by decide)], by rw [hf.1 352 (by decide)], by rw [hf.1 347 (by decide)]⟩) (fun y _ => ⟨by rw [hf.1 348 (by decide)], by rw [hf.1 349 (by decide)], by rw [hf.1 350 (by decide)], fun q q1 q2 => e q y (by omega) (by omega) (by omega) (by omega) (by omega)⟩) (fun q l q1 q2 _ => e q l (by omega) (by omega) (by omega) (by omega) (by omega)), b3, fun y y1 y2 => (b4 y y1 y2).c (by rw [hf.1 348 (by decide)]) (by rw [hf.1 349 (by decide)]) (by rw [hf.1 350 (by decide)]) (fun q q1 q2 => e q y (by omega) (by omega) (by omega) (by omega) (by omega))⟩
theorem Fr.rf {I : MI} : Fr I I := ⟨fun _ _ => rfl, fun _ _ => rfl⟩
theorem RM.fr {I I' : MI} {s : ST} (h : RM 0 I s) (hf : ∀ o, 301 ≤ o → o < 342 → I' o = I o) : RM 0 I' s := by
  obtain ⟨h1, h2, h3⟩ := h
  refine ⟨fun q hq k hk => ?_, fun k hk => ?_, fun l hl => ?_⟩
  · have b := (ma_f q (ma_lt hq) hq).1
    rw [hf _ b.1 b.2]; exact h1 q hq k hk
  · rw [hf 340 (by decide) (by decide), hf 339 (by decide) (by decide)]; exact h2 k hk
  · rw [hf 330 (by decide) (by decide), hf 331 (by decide) (by decide), hf 326 (by decide) (by decide), hf 327 (by decide) (by decide), hf 328 (by decide) (by decide), hf 329 (by decide) (by decide)]; exact h3 l hl
theorem FM.fr {I0 I I' : MI} (h : FM I0 I) (hf : ∀ o, o ≠ 300 → I' o = I o) : FM I0 I' :=
  ⟨fun o a => by rw [hf o (by omega)]; exact h.1 o a, fun j k => by rw [hf _ (by have := cid_ge j k; omega)]; exact h.2.1 j k, by rw [hf 357 (by decide)]; exact h.2.2.1, fun o p a b c => by rw [hf o (by omega)]; exact h.2.2.2 o p a b c⟩
section MLINE
variable {g : GX} {d : Nat} {I : MI} {f : Nat → Bool}
/-- the next token -/
theorem m_nx {L p : Nat} {s : ST} {I0 : MI} {φ : MI → MR → Prop} (ht : Tb (s 43)) (h5 : L ≤ 500) (hp : p ≤ L) (h : PA L s I0 I p) (H : ∀ I', PA L s I0 I' (kwE (s 43) L p) → Fr I I' → φ I' (gW f)) : cV (Call g (d + 3)) 166 [.inr (.inr (some (300)))] I (gW f) [] φ := by
  obtain ⟨h1, h2, h3, h4, -⟩ := h
  have b := kwE_b (t := s 43) hp
  refine m_next (d := d) ht h5 b.1 h3 h4 (fun k hk => mr43 h1 hk) (fun I' r => ?_)
  obtain ⟨r1, r2, r3, r4, r5⟩ := r
  exact H I' ⟨h1.fr (fun o a b => r1 o (by omega)), h2.fr r1, (r2 48 (by decide)).trans h3, r3, r4, r5⟩ ⟨r1, fun j hj => r2 j (by omega)⟩
theorem m_wrong {φ : Int → MI → MR → Prop} (H : φ 0 (upI I 300 53 (I 300 49)) (gW f)) : cI (Call g (d + 1)) 169 [.inr (.inr (some (300)))] I (gW f) [] φ := by
  refine callOf mX11_wrong [some (.inr (.inr (some (300))))] rfl (Nat.le_of_ble_eq_true rfl) (atOf mX11_wrong 0 rfl ?_)
  simp +decide -implicitDefEqProofs -failIfUnchanged only [x_iload, x_lload, x_aload, x_istore, x_astore, x_iinc, x_iconst, x_ldc2, x_iadd, x_isub, x_imul, x_iand, x_ior, x_ixor, x_ishl, x_ishr, x_iushr, x_idiv, x_irem, x_ineg, x_i2b, x_i2l, x_land, x_lor, x_lshl, x_lushr, x_lcmp, x_dupI, x_dupR, x_dup2, x_dup2I, x_icmp_eq, x_if_eq, x_icmp_ne, x_if_ne, x_icmp_lt, x_if_lt, x_icmp_ge, x_if_ge, x_icmp_gt, x_if_gt, x_icmp_le, x_if_le, x_ifnn_s, x_goto, x_fall, x_tsw, x_iaload, x_baload, x_laload, x_aaload, x_iastore, x_bastore, x_lastore, x_aastore, x_alen, x_getf, x_getr, x_getl, x_putf, x_putz, x_putl, x_putr, x_new, x_newa, x_anewa, x_max, x_min, x_abs, x_pop, x_copy, x_call, gr_256_0, gr_256_1, gr_256_2, gr_256_3, gr_256_4, gr_256_5, gr_256_6, gr_256_7, gr_256_8, gr_256_9, gr_258_0, gr_258_1, gr_258_2, gr_258_3, gr_258_4, gr_258_5, gr_258_6, gr_259_0, gr_259_1, gr_259_2, gr_259_3, gr_260_1, gr_260_0, gr_262_0, gr_262_1, gr_262_2, gr_262_3, gr_263_0, gr_263_1, gr_264_2, gr_264_3, gr_264_4, gr_264_5, gr_275_1, gr_275_2, gr_275_3, gr_275_4, gr_275_5, gr_275_6, gr_275_7, gr_300_1, gr_300_2, gr_300_3, gr_300_4, gr_300_5, gr_300_6, gr_300_7, gr_300_8, gr_300_9, gr_300_10, gr_300_11, gr_300_12, gr_300_13, gr_300_14, gr_300_15, gr_300_16, gr_300_17, gr_300_18, gr_300_19, gr_300_20, gr_300_21, gr_300_22, gr_300_23, gr_300_24, gr_300_25, gr_300_26, gr_300_27, gr_300_28, gr_300_29, gr_300_30, gr_300_31, gr_300_32, gr_300_33, gr_300_34, gr_300_35, gr_300_36, gr_300_37, gr_300_38, gr_300_39, gr_300_40, gr_300_41, gr_300_42, gr_300_43, gr_300_44, gr_300_45, gr_300_46, gr_300_56, gr_300_57, gr_300_58, gr_300_59, gr_300_60, gr_300_61, gr_300_62, gr_300_63, gr_300_64, gr_300_65, gr_300_66, gr_0_0, gr_0_3, gr_0_5, gr_0_7, gr_0_11, gr_0_12, gr_0_16, gr_5_1, gr_5_2, gr_5_3, gr_5_4, gr_5_5, gr_5_6, gr_5_7, gr_1, sh_0, sh_1, sh_2, sh_3, sh_4, sh_5, sh_6, sh_7, sh_8, sh_9, sh_10, sh_11, sh_12, sh_13, sh_14, sh_64, sh_65, sh_66, sh_67, sh_68, sh_69, sh_70, sh_71, sh_72, sh_73, sh_74, sh_75, sh_76, sh_77, sh_78, sh_128, sh_129, sh_130, sh_131, sh_132, sh_133, sh_134, sh_135, sh_136, sh_137, sh_138, sh_139, sh_140, sh_141, sh_142, sh_192, sh_193, sh_194, sh_195, sh_196, sh_197, sh_198, sh_199, sh_200, sh_201, sh_202, sh_203, sh_204, sh_205, sh_206, sh_256, sh_257, sh_258, sh_259, sh_260, sh_261, sh_262, sh_263, sh_264, sh_265, sh_266, sh_267, sh_268, sh_269, sh_270, sh_271, sh_272, sh_273, sh_274, sh_275, sh_276, sh_277, sh_278, sh_279, sh_280, sh_281, sh_282, sh_283, sh_284, sh_285, sh_286, sh_287, sh_288, sh_289, sh_300, sh_301, sh_302, sh_303, sh_304, sh_305, sh_306, sh_307, sh_308, sh_309, sh_310, sh_311, sh_312, sh_313, sh_314, sh_315, sh_316, sh_317, sh_318, sh_319, sh_320, sh_321, sh_322, sh_323, sh_324, sh_325, sh_326, sh_327, sh_328, sh_329, sh_330, sh_331, sh_332, sh_333, sh_334, sh_335, sh_336, sh_337, sh_338, sh_339, sh_340, sh_341, sh_342, sh_343, sh_344, sh_345, sh_346, sh_347, sh_348, sh_349, sh_350, sh_351, sh_352, sh_353, sh_354, sh_355, sh_356, sh_357, ldS_265, ldS_266, ldS_267, ldS_268, ldS_269, ldS_270, ldS_271, ldS_272, ldS_273, ldS_274, ldS_276, ldS_277, ldS_278, ldS_279, ldS_280, ldS_281, ldS_282, ldS_283, ldS_284, ldS_286, ldS_287, ldS_288, ldS_289, ldS_302, ldS_303, ldS_304, ldS_305, ldS_306, ldS_307, ldS_309, ldS_310, ldS_311, ldS_312, ldS_313, ldS_314, ldS_315, ldS_316, ldS_318, ldS_319, ldS_320, ldS_321, ldS_322, ldS_323, ldS_324, ldS_325, ldS_326, ldS_327, ldS_328, ldS_329, ldS_330, ldS_331, ldS_332, ldS_333, ldS_334, ldS_335, ldS_336, ldS_337, ldS_339, ldS_340, ldS_341, ldS_342, ldS_343, ldS_344, ldS_345, ldS_346, ldS_347, ldS_348, ldS_349, ldS_350, ldS_351, ldS_352, ldS_353, ldS_355, ldS_356, ldS_2, ldS_3, ldS_4, ldS_7, ldS_8, ldS_9, ldS_10, ldS_11, ldS_12, ldS_13, ldS_14, ldS_66, ldS_67, ldS_68, ldS_71, ldS_72, ldS_73, ldS_74, ldS_75, ldS_76, ldS_77, ldS_78, ldS_130, ldS_131, ldS_132, ldS_135, ldS_136, ldS_137, ldS_138, ldS_139, ldS_140, ldS_141, ldS_142, ldS_194, ldS_195, ldS_196, ldS_199, ldS_200, ldS_201, ldS_202, ldS_203, ldS_204, ldS_205, ldS_206, stB_2, stB_3, upI_oc, upI_co, upI_ne, upI_eq, sh_c, rcvC_1, rcvC_2, rcvC_3, rcvC_4, rcvC_5, rcvC_6, rcvC_7, rcvC_8, rcvC_9, rcvC_10, rcvC_11, rcvC_12, x_iret1, x_iret2, x_ret0, ex_I, ex_V, ldA_k, ldS_x, gI_0, gI_s, gL_0, gL_s, gR_0, gR_s, stl_def, nlg_n, nlg_i, nlg_r, setl_0, setl_s, nth_0, nth_s, List.length_cons, List.length_nil, true_or, or_true, true_implies, false_implies, Int.reduceLE, Int.reduceLT, Int.reduceMod, Int.le_refl, Int.cast_ofNat_Int, sh4_0, sh4_1, sh4_2, sh4_3, sh4_4, rcv_0, rcv_9, spl_0, spl_s, List.getD_cons_zero, List.getD_cons_succ, List.take_zero, List.drop_zero, Nat.reduceLT, Nat.reduceDiv, Nat.reduceMod, Nat.reduceAdd, Nat.reduceSub, Int.reduceToNat, jm_b, jm_h, if_true, if_false, Nat.reduceEqDiff, true_and, and_true, Int.natCast_nonneg, Int.toNat_natCast, Int.lt_irrefl, false_implies, and_true, true_and, Int.le_refl, true_implies, bX11_wrong, bX11_wrong_0]
  exact H
theorem m_tooMany {φ : MI → MR → Prop} (H : φ (upI I 300 54 (if I 300 54 = -1 then I 300 49 else I 300 54)) (gW f)) : cV (Call g (d + 1)) 170 [.inr (.inr (some (300)))] I (gW f) [] φ := by
  refine callOf mX11_tooMany [some (.inr (.inr (some (300))))] rfl (Nat.le_of_ble_eq_true rfl) (atOf mX11_tooMany 0 rfl ?_)
  simp +decide -implicitDefEqProofs -failIfUnchanged only [x_iload, x_lload, x_aload, x_istore, x_astore, x_iinc, x_iconst, x_ldc2, x_iadd, x_isub, x_imul, x_iand, x_ior, x_ixor, x_ishl, x_ishr, x_iushr, x_idiv, x_irem, x_ineg, x_i2b, x_i2l, x_land, x_lor, x_lshl, x_lushr, x_lcmp, x_dupI, x_dupR, x_dup2, x_dup2I, x_icmp_eq, x_if_eq, x_icmp_ne, x_if_ne, x_icmp_lt, x_if_lt, x_icmp_ge, x_if_ge, x_icmp_gt, x_if_gt, x_icmp_le, x_if_le, x_ifnn_s, x_goto, x_fall, x_tsw, x_iaload, x_baload, x_laload, x_aaload, x_iastore, x_bastore, x_lastore, x_aastore, x_alen, x_getf, x_getr, x_getl, x_putf, x_putz, x_putl, x_putr, x_new, x_newa, x_anewa, x_max, x_min, x_abs, x_pop, x_copy, x_call, gr_256_0, gr_256_1, gr_256_2, gr_256_3, gr_256_4, gr_256_5, gr_256_6, gr_256_7, gr_256_8, gr_256_9, gr_258_0, gr_258_1, gr_258_2, gr_258_3, gr_258_4, gr_258_5, gr_258_6, gr_259_0, gr_259_1, gr_259_2, gr_259_3, gr_260_1, gr_260_0, gr_262_0, gr_262_1, gr_262_2, gr_262_3, gr_263_0, gr_263_1, gr_264_2, gr_264_3, gr_264_4, gr_264_5, gr_275_1, gr_275_2, gr_275_3, gr_275_4, gr_275_5, gr_275_6, gr_275_7, gr_300_1, gr_300_2, gr_300_3, gr_300_4, gr_300_5, gr_300_6, gr_300_7, gr_300_8, gr_300_9, gr_300_10, gr_300_11, gr_300_12, gr_300_13, gr_300_14, gr_300_15, gr_300_16, gr_300_17, gr_300_18, gr_300_19, gr_300_20, gr_300_21, gr_300_22, gr_300_23, gr_300_24, gr_300_25, gr_300_26, gr_300_27, gr_300_28, gr_300_29, gr_300_30, gr_300_31, gr_300_32, gr_300_33, gr_300_34, gr_300_35, gr_300_36, gr_300_37, gr_300_38, gr_300_39, gr_300_40, gr_300_41, gr_300_42, gr_300_43, gr_300_44, gr_300_45, gr_300_46, gr_300_56, gr_300_57, gr_300_58, gr_300_59, gr_300_60, gr_300_61, gr_300_62, gr_300_63, gr_300_64, gr_300_65, gr_300_66, gr_0_0, gr_0_3, gr_0_5, gr_0_7, gr_0_11, gr_0_12, gr_0_16, gr_5_1, gr_5_2, gr_5_3, gr_5_4, gr_5_5, gr_5_6, gr_5_7, gr_1, sh_0, sh_1, sh_2, sh_3, sh_4, sh_5, sh_6, sh_7, sh_8, sh_9, sh_10, sh_11, sh_12, sh_13, sh_14, sh_64, sh_65, sh_66, sh_67, sh_68, sh_69, sh_70, sh_71, sh_72, sh_73, sh_74, sh_75, sh_76, sh_77, sh_78, sh_128, sh_129, sh_130, sh_131, sh_132, sh_133, sh_134, sh_135, sh_136, sh_137, sh_138, sh_139, sh_140, sh_141, sh_142, sh_192, sh_193, sh_194, sh_195, sh_196, sh_197, sh_198, sh_199, sh_200, sh_201, sh_202, sh_203, sh_204, sh_205, sh_206, sh_256, sh_257, sh_258, sh_259, sh_260, sh_261, sh_262, sh_263, sh_264, sh_265, sh_266, sh_267, sh_268, sh_269, sh_270, sh_271, sh_272, sh_273, sh_274, sh_275, sh_276, sh_277, sh_278, sh_279, sh_280, sh_281, sh_282, sh_283, sh_284, sh_285, sh_286, sh_287, sh_288, sh_289, sh_300, sh_301, sh_302, sh_303, sh_304, sh_305, sh_306, sh_307, sh_308, sh_309, sh_310, sh_311, sh_312, sh_313, sh_314, sh_315, sh_316, sh_317, sh_318, sh_319, sh_320, sh_321, sh_322, sh_323, sh_324, sh_325, sh_326, sh_327, sh_328, sh_329, sh_330, sh_331, sh_332, sh_333, sh_334, sh_335, sh_336, sh_337, sh_338, sh_339, sh_340, sh_341, sh_342, sh_343, sh_344, sh_345, sh_346, sh_347, sh_348, sh_349, sh_350, sh_351, sh_352, sh_353, sh_354, sh_355, sh_356, sh_357, ldS_265, ldS_266, ldS_267, ldS_268, ldS_269, ldS_270, ldS_271, ldS_272, ldS_273, ldS_274, ldS_276, ldS_277, ldS_278, ldS_279, ldS_280, ldS_281, ldS_282, ldS_283, ldS_284, ldS_286, ldS_287, ldS_288, ldS_289, ldS_302, ldS_303, ldS_304, ldS_305, ldS_306, ldS_307, ldS_309, ldS_310, ldS_311, ldS_312, ldS_313, ldS_314, ldS_315, ldS_316, ldS_318, ldS_319, ldS_320, ldS_321, ldS_322, ldS_323, ldS_324, ldS_325, ldS_326, ldS_327, ldS_328, ldS_329, ldS_330, ldS_331, ldS_332, ldS_333, ldS_334, ldS_335, ldS_336, ldS_337, ldS_339, ldS_340, ldS_341, ldS_342, ldS_343, ldS_344, ldS_345, ldS_346, ldS_347, ldS_348, ldS_349, ldS_350, ldS_351, ldS_352, ldS_353, ldS_355, ldS_356, ldS_2, ldS_3, ldS_4, ldS_7, ldS_8, ldS_9, ldS_10, ldS_11, ldS_12, ldS_13, ldS_14, ldS_66, ldS_67, ldS_68, ldS_71, ldS_72, ldS_73, ldS_74, ldS_75, ldS_76, ldS_77, ldS_78, ldS_130, ldS_131, ldS_132, ldS_135, ldS_136, ldS_137, ldS_138, ldS_139, ldS_140, ldS_141, ldS_142, ldS_194, ldS_195, ldS_196, ldS_199, ldS_200, ldS_201, ldS_202, ldS_203, ldS_204, ldS_205, ldS_206, stB_2, stB_3, upI_oc, upI_co, upI_ne, upI_eq, sh_c, rcvC_1, rcvC_2, rcvC_3, rcvC_4, rcvC_5, rcvC_6, rcvC_7, rcvC_8, rcvC_9, rcvC_10, rcvC_11, rcvC_12, x_iret1, x_iret2, x_ret0, ex_I, ex_V, ldA_k, ldS_x, gI_0, gI_s, gL_0, gL_s, gR_0, gR_s, stl_def, nlg_n, nlg_i, nlg_r, setl_0, setl_s, nth_0, nth_s, List.length_cons, List.length_nil, true_or, or_true, true_implies, false_implies, Int.reduceLE, Int.reduceLT, Int.reduceMod, Int.le_refl, Int.cast_ofNat_Int, sh4_0, sh4_1, sh4_2, sh4_3, sh4_4, rcv_0, rcv_9, spl_0, spl_s, List.getD_cons_zero, List.getD_cons_succ, List.take_zero, List.drop_zero, Nat.reduceLT, Nat.reduceDiv, Nat.reduceMod, Nat.reduceAdd, Nat.reduceSub, Int.reduceToNat, jm_b, jm_h, if_true, if_false, Nat.reduceEqDiff, true_and, and_true, Int.natCast_nonneg, Int.toNat_natCast, Int.lt_irrefl, false_implies, and_true, true_and, Int.le_refl, true_implies, bX11_tooMany, bX11_tooMany_0, bX11_tooMany_1, bX11_tooMany_2]
  by_cases z : I 300 54 = -1
  · rw [if_pos z] at H
    exact ⟨fun y => absurd z y, fun _ => H⟩
  · rw [if_neg z] at H
    exact ⟨fun _ => H, fun y => absurd y z⟩
end MLINE
theorem PA.u {L p o k : Nat} {s : ST} {I0 I : MI} {v : Int} (h : PA L s I0 I p) (ho : (o = 300 ∧ 53 ≤ k) ∨ (347 ≤ o ∧ o ≤ 352)) (hk : k < 1000000) : PA L s I0 (upI I o k v) p := by
  obtain ⟨h1, h2, h3, h4, h5, h6⟩ := h
  have c : ∀ j, j < 53 → upI I o k v 300 j = I 300 j := fun j hj => by
    rcases ho with ⟨rfl, a⟩ | a
    · exact up_at (by omega)
    · rw [upI_ne (by omega)]
  refine ⟨h1.o (by omega), h2.u (by omega) (by omega) ?_, (c 48 (by decide)).trans h3, (c 47 (by decide)).trans h4, (c 49 (by decide)).trans h5, ?_⟩
  · rcases ho with ⟨rfl, a⟩ | ⟨a, b⟩
    · exact hk
    · rcases (show o = 347 ∨ o = 348 ∨ o = 349 ∨ o = 350 ∨ o = 351 ∨ o = 352 by omega) with rfl | rfl | rfl | rfl | rfl | rfl <;> exact hk
  · unfold RK
    rw [c 50 (by decide), c 51 (by decide), c 52 (by decide)]
    exact h6
theorem eTest_at {st : ST} {b : Int} {k x : Nat} (h : k ≠ 60 ∧ k ≠ 62 ∧ (k < 53 ∨ 56 < k)) : eTest st b k x = st k x := by
  unfold eTest
  rw [un_n h.1, un_n h.2.1, pTest_o h.2.2]
theorem PQ_end {I : MI} {τ : ST} {n x : Nat} {b w sg th v : Int} (h : PQ I τ n x) (h4 : 4 ≤ x → τ 68 0 ≠ -1) (hb : b = 0 ∨ b = 1) (hw : 0 ≤ w ∧ w ≤ 10) (h63 : τ 63 0 = b) (h64 : τ 64 0 = w + 7) (hs : 4 ≤ w → th = v ∧ sgn sg = τ 65 0 ∧ 21 ≤ τ 65 0 ∧ τ 65 0 ≤ 23) (hs2 : w ≤ 3 → sg = 61 ∧ th = 1) :
    (¬ (x < 4 ∧ n < 16) → PQ I (eTest τ v) n (x + 1)) ∧ (x < 4 → n < 16 → PQ (upI (upI (upI (upI I 348 (4 * n + x) (w + 16 * b)) 349 (4 * n + x) sg) 350 (4 * n + x) th) 347 n ((x + 1 : Nat) : Int)) (eTest τ v) n (x + 1)) := by
  obtain ⟨h1, h2, h3, h5, h6, h7, h8, h9⟩ := h
  have e62 : eTest τ v 62 0 = ((x + 1 : Nat) : Int) := by
    unfold eTest
    rw [un_n (by decide), un_y, h5]; omega
  have head : ∀ I' : MI, I' 300 = I 300 → (τ 68 0 = -1 → x < 4 ∧ n < 16 → eTest τ v 31 0 = n ∧ ML I' (eTest τ v) n ∧ I' 347 n = ((x + 1 : Nat) : Int) ∧ ∀ y, 4 * n ≤ y → y < 4 * n + (x + 1) → MX I' (eTest τ v) y) → PQ I' (eTest τ v) n (x + 1) := by
    intro I' hI hL
    refine ⟨by rw [eTest_at (by decide)]; exact h1, by rw [hI]; exact h2, by rw [hI, eTest_at (by decide)]; exact h3, e62, fun z => by rw [eTest_at (by decide)]; exact h6 z, fun z => by rw [eTest_at (by decide)]; exact h4 (by omega), by rw [eTest_at (by decide)]; exact h8, fun z => ?_⟩
    rw [eTest_at (by decide)] at z
    refine hL z ⟨?_, ?_⟩
    · by_cases y : x < 4
      · exact y
      · exact absurd z (h4 (by omega))
    · by_cases y : n < 16
      · exact y
      · exact absurd z (h6 (by omega))
  refine ⟨fun z => head I rfl (fun _ y => absurd y z), fun zx zn => head _ (by rw [upI_ne (by decide), upI_ne (by decide), upI_ne (by decide), upI_ne (by decide)]) (fun z _ => ?_)⟩
  obtain ⟨a1, a2, a3, a4⟩ := h9 z
  have pl : (4 * τ 61 0 + τ 62 0).toNat = 4 * n + x := by rw [h1, h5]; omega
  have pe : pTest τ v = us (us (us (us τ 53 (4 * n + x) b) 54 (4 * n + x) (w + 7)) 55 (4 * n + x) (τ 65 0)) 56 (4 * n + x) v := by
    unfold pTest
    rw [if_pos (by rw [h1, h5]; omega), pl, h63, h64]
    rcases hb with rfl | rfl
    · rw [if_pos rfl]
    · rw [if_neg (by decide)]
  have er : ∀ q y, 53 ≤ q → q ≤ 56 → eTest τ v q y = us (us (us (us τ 53 (4 * n + x) b) 54 (4 * n + x) (w + 7)) 55 (4 * n + x) (τ 65 0)) 56 (4 * n + x) v q y := fun q y q1 q2 => by
    unfold eTest
    rw [un_n (by omega), un_n (by omega), pe]
  have eo : ∀ q y, 53 ≤ q → q ≤ 56 → y ≠ 4 * n + x → eTest τ v q y = τ q y := fun q y q1 q2 hy => by
    rw [er q y q1 q2]
    unfold us
    rw [if_neg (fun z => hy z.2), if_neg (fun z => hy z.2), if_neg (fun z => hy z.2), if_neg (fun z => hy z.2)]
  refine ⟨by rw [eTest_at (by decide)]; exact a1, a2.c (fun l hl => ⟨by rw [upI_ne (by decide), upI_ne (by decide), upI_ne (by decide), upI_ne (by decide)], by rw [upI_ne (by decide), upI_ne (by decide), upI_ne (by decide), upI_ne (by decide)], by rw [up_at (by omega), upI_ne (by decide), upI_ne (by decide), upI_ne (by decide)]⟩) (fun y hy => ⟨by rw [upI_ne (by decide), upI_ne (by decide), upI_ne (by decide), up_at (by omega)], by rw [upI_ne (by decide), upI_ne (by decide), up_at (by omega), upI_ne (by decide)], by rw [upI_ne (by decide), up_at (by omega), upI_ne (by decide), upI_ne (by decide)], fun q q1 q2 => eo q y q1 q2 (by omega)⟩) (fun q l q1 q2 _ => eTest_at (by omega)), up_is, fun y y1 y2 => ?_⟩
  by_cases hy : y = 4 * n + x
  · subst hy
    have r53 : eTest τ v 53 (4 * n + x) = b := by
      rw [er 53 _ (by decide) (by decide), us_n (by decide), us_n (by decide), us_n (by decide)]; exact if_pos ⟨rfl, rfl⟩
    have r54 : eTest τ v 54 (4 * n + x) = w + 7 := by
      rw [er 54 _ (by decide) (by decide), us_n (by decide), us_n (by decide)]; exact if_pos ⟨rfl, rfl⟩
    have r55 : eTest τ v 55 (4 * n + x) = τ 65 0 := by
      rw [er 55 _ (by decide) (by decide), us_n (by decide)]; exact if_pos ⟨rfl, rfl⟩
    have r56 : eTest τ v 56 (4 * n + x) = v := by
      rw [er 56 _ (by decide) (by decide)]; exact if_pos ⟨rfl, rfl⟩
    unfold MX
    have c1 : upI (upI (upI (upI I 348 (4 * n + x) (w + 16 * b)) 349 (4 * n + x) sg) 350 (4 * n + x) th) 347 n ((x + 1 : Nat) : Int) 348 (4 * n + x) = w + 16 * b := by rw [upI_ne (by decide), upI_ne (by decide), upI_ne (by decide), up_is]
    have c2 : upI (upI (upI (upI I 348 (4 * n + x) (w + 16 * b)) 349 (4 * n + x) sg) 350 (4 * n + x) th) 347 n ((x + 1 : Nat) : Int) 349 (4 * n + x) = sg := by rw [upI_ne (by decide), upI_ne (by decide), up_is]
    have c3 : upI (upI (upI (upI I 348 (4 * n + x) (w + 16 * b)) 349 (4 * n + x) sg) 350 (4 * n + x) th) 347 n ((x + 1 : Nat) : Int) 350 (4 * n + x) = th := by rw [upI_ne (by decide), up_is]
    rw [r53, r54, r55, r56, c1, c2, c3]
    refine ⟨by omega, fun z => ?_, fun z => hs2 (by omega), hb, by omega, by omega⟩
    obtain ⟨c1, c2, c3, c4⟩ := hs (by omega)
    exact ⟨c1, c2, c3, c4⟩
  · refine (a4 y y1 (by omega)).c ?_ ?_ ?_ (fun q q1 q2 => eo q y q1 q2 hy)
    · rw [upI_ne (by decide), upI_ne (by decide), upI_ne (by decide), up_at hy]
    · rw [upI_ne (by decide), upI_ne (by decide), up_at hy, upI_ne (by decide)]
    · rw [upI_ne (by decide), up_at hy, upI_ne (by decide), upI_ne (by decide)]
