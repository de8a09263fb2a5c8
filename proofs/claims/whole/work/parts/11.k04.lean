def s_X9_findIn_29 : List mE := (29, .iconst (-1), 1, 0, 0, 0, .inl (-1), []) ::
  (30, .ireturn, 1, 0, 0, 0, .inl 0, []) :: []
def s_X9_findIn_23 : List mE := (23, .iinc 5 1, 3, 5, 0, 0, .inl (nI 1), []) ::
  (26, .goto (-23), 3, 3, 0, 0, .inl 0, []) :: s_X9_findIn_29
def s_X9_findIn_3 : List mE := (3, .iload 5, 2, 5, 0, 0, .inl 0, []) ::
  (5, .iload_n 2, 1, 2, 0, 0, .inl 0, []) ::
  (6, .if_icmp .ge 23, 3, 29, 0, 0, .inl 0, []) ::
  (9, .aload_n 0, 1, 0, 0, 0, .inl 0, []) ::
  (10, .iload_n 1, 1, 1, 0, 0, .inl 0, []) ::
  (11, .iload 5, 2, 5, 0, 0, .inl 0, []) ::
  (13, .iadd, 1, 0, 0, 0, .inl 0, []) ::
  (14, .laload, 1, 0, 0, 0, .inl 0, []) ::
  (15, .lload_n 3, 1, 3, 0, 0, .inl 0, []) ::
  (16, .lcmp, 1, 0, 0, 0, .inl 0, []) ::
  (17, .ifCond .ne 6, 3, 23, 0, 0, .inl 0, []) ::
  (20, .iload 5, 2, 5, 0, 0, .inl 0, []) ::
  (22, .ireturn, 1, 0, 0, 0, .inl 0, []) :: s_X9_findIn_23
def s_X9_findIn_0 : List mE := (0, .iconst 0, 1, 0, 0, 0, .inl (nI 0), []) ::
  (1, .istore 5, 2, 5, 0, 0, .inl 0, []) :: s_X9_findIn_3
def k_X9_findIn : List mE := s_X9_findIn_0
set_option maxRecDepth 100000 in
theorem t_X9_findIn_0 : dropTo 0 k_X9_findIn = s_X9_findIn_0 := rfl
set_option maxRecDepth 100000 in
theorem t_X9_findIn_3 : dropTo 3 k_X9_findIn = s_X9_findIn_3 := rfl
set_option maxRecDepth 100000 in
theorem t_X9_findIn_23 : dropTo 23 k_X9_findIn = s_X9_findIn_23 := rfl
set_option maxRecDepth 100000 in
theorem t_X9_findIn_29 : dropTo 29 k_X9_findIn = s_X9_findIn_29 := rfl
theorem ok_X9_findIn : mOkF m_X9_findIn k_X9_findIn = true := by decide +kernel
theorem cm_X9_findIn : mChkM m_X9_findIn = true := by decide +kernel
def s_X9_go_390 : List mE := (390, .putfield 98, 3, 8, 7, 0, .inl 0, [1203]) ::
  (393, .return_, 1, 0, 0, 0, .inl 0, []) :: []
def s_X9_go_389 : List mE := (389, .iconst 3, 1, 0, 0, 0, .inl (nI 3), []) :: s_X9_go_390
def s_X9_go_381 : List mE := (381, .iload_n 2, 1, 2, 0, 0, .inl 0, []) ::
  (382, .ifCond .eq 7, 3, 389, 0, 0, .inl 0, []) ::
  (385, .iconst 2, 1, 0, 0, 0, .inl (nI 2), []) ::
  (386, .goto 4, 3, 390, 0, 0, .inl 0, []) :: s_X9_go_389
def s_X9_go_377 : List mE := (377, .iconst 1, 1, 0, 0, 0, .inl (nI 1), []) ::
  (378, .goto 12, 3, 390, 0, 0, .inl 0, []) :: s_X9_go_381
def s_X9_go_374 : List mE := (374, .if_icmp .le 7, 3, 381, 0, 0, .inl 0, []) :: s_X9_go_377
def s_X9_go_373 : List mE := (373, .iconst 3, 1, 0, 0, 0, .inl (nI 3), []) :: s_X9_go_374
def s_X9_go_350 : List mE := (350, .aload_n 0, 1, 0, 0, 0, .inl 0, []) ::
  (351, .iload_n 3, 1, 3, 0, 0, .inl 0, []) ::
  (352, .ifCond .eq 25, 3, 377, 0, 0, .inl 0, []) ::
  (355, .aload_n 0, 1, 0, 0, 0, .inl 0, []) ::
  (356, .getfield 89, 3, 8, 5, 0, .inl 0, [1201]) ::
  (359, .aload_n 0, 1, 0, 0, 0, .inl 0, []) ::
  (360, .getfield 92, 3, 8, 6, 0, .inl 0, [1202]) ::
  (363, .isub, 1, 0, 0, 0, .inl 0, []) ::
  (364, .iload_n 2, 1, 2, 0, 0, .inl 0, []) ::
  (365, .ifCond .eq 8, 3, 373, 0, 0, .inl 0, []) ::
  (368, .bipush 6, 2, 0, 0, 0, .inl (nI 6), []) ::
  (370, .goto 4, 3, 374, 0, 0, .inl 0, []) :: s_X9_go_373
def s_X9_go_337 : List mE := (337, .aload_n 0, 1, 0, 0, 0, .inl 0, []) ::
  (338, .dup, 1, 0, 0, 0, .inl 0, []) ::
  (339, .getfield 89, 3, 8, 5, 0, .inl 0, [1201]) ::
  (342, .iconst 1, 1, 0, 0, 0, .inl (nI 1), []) ::
  (343, .iadd, 1, 0, 0, 0, .inl 0, []) ::
  (344, .putfield 89, 3, 8, 5, 0, .inl 0, [1201]) ::
  (347, .goto (-132), 3, 215, 0, 0, .inl 0, []) :: s_X9_go_350
def s_X9_go_307 : List mE := (307, .aload_n 0, 1, 0, 0, 0, .inl 0, []) ::
  (308, .getfield 89, 3, 8, 5, 0, .inl 0, [1201]) ::
  (311, .aload_n 0, 1, 0, 0, 0, .inl 0, []) ::
  (312, .getfield 92, 3, 8, 6, 0, .inl 0, [1202]) ::
  (315, .isub, 1, 0, 0, 0, .inl 0, []) ::
  (316, .iconst 3, 1, 0, 0, 0, .inl (nI 3), []) ::
  (317, .if_icmp .ge 20, 3, 337, 0, 0, .inl 0, []) ::
  (320, .aload_n 0, 1, 0, 0, 0, .inl 0, []) ::
  (321, .bipush 10, 2, 0, 0, 0, .inl (nI 10), []) ::
  (323, .aload_n 0, 1, 0, 0, 0, .inl 0, []) ::
  (324, .getfield 115, 3, 8, 8, 0, .inl 0, [1204]) ::
  (327, .imul, 1, 0, 0, 0, .inl 0, []) ::
  (328, .iload 4, 2, 4, 0, 0, .inl 0, []) ::
  (330, .iadd, 1, 0, 0, 0, .inl 0, []) ::
  (331, .bipush 48, 2, 0, 0, 0, .inl (nI 48), []) ::
  (333, .isub, 1, 0, 0, 0, .inl 0, []) ::
  (334, .putfield 115, 3, 8, 8, 0, .inl 0, [1204]) :: s_X9_go_337
def s_X9_go_272 : List mE := (272, .istore_n 3, 1, 3, 0, 0, .inl 0, []) ::
  (273, .aload_n 0, 1, 0, 0, 0, .inl 0, []) ::
  (274, .getfield 89, 3, 8, 5, 0, .inl 0, [1201]) ::
  (277, .aload_n 0, 1, 0, 0, 0, .inl 0, []) ::
  (278, .getfield 92, 3, 8, 6, 0, .inl 0, [1202]) ::
  (281, .isub, 1, 0, 0, 0, .inl 0, []) ::
  (282, .bipush 6, 2, 0, 0, 0, .inl (nI 6), []) ::
  (284, .if_icmp .ge 23, 3, 307, 0, 0, .inl 0, []) ::
  (287, .aload_n 0, 1, 0, 0, 0, .inl 0, []) ::
  (288, .ldc2_w 122, 3, 0, 0, 0, .inr (.inl 27), [1375]) ::
  (291, .aload_n 0, 1, 0, 0, 0, .inl 0, []) ::
  (292, .getfield 111, 3, 8, 12, 1, .inl 0, [1208]) ::
  (295, .lmul, 1, 0, 0, 0, .inl 0, []) ::
  (296, .iload 4, 2, 4, 0, 0, .inl 0, []) ::
  (298, .i2l, 1, 0, 0, 0, .inl 0, []) ::
  (299, .ladd, 1, 0, 0, 0, .inl 0, []) ::
  (300, .ldc2_w 124, 3, 0, 0, 0, .inr (.inl 96), [1376]) ::
  (303, .lsub, 1, 0, 0, 0, .inl 0, []) ::
  (304, .putfield 111, 3, 8, 12, 1, .inl 0, [1208]) :: s_X9_go_307
def s_X9_go_271 : List mE := (271, .iconst 0, 1, 0, 0, 0, .inl (nI 0), []) :: s_X9_go_272
def s_X9_go_243 : List mE := (243, .aload_n 0, 1, 0, 0, 0, .inl 0, []) ::
  (244, .getfield 7, 3, 8, 1, 3, .inr (.inr (16, 940, 1)), [1197]) ::
  (247, .aload_n 0, 1, 0, 0, 0, .inl 0, []) ::
  (248, .getfield 89, 3, 8, 5, 0, .inl 0, [1201]) ::
  (251, .iaload, 1, 0, 0, 0, .inl 0, []) ::
  (252, .istore 4, 2, 4, 0, 0, .inl 0, []) ::
  (254, .iload_n 3, 1, 3, 0, 0, .inl 0, []) ::
  (255, .ifCond .eq 16, 3, 271, 0, 0, .inl 0, []) ::
  (258, .iload 4, 2, 4, 0, 0, .inl 0, []) ::
  (260, .invokestatic 101, 3, 178, 1, 1, .inl 0, [1365]) ::
  (263, .iload_n 2, 1, 2, 0, 0, .inl 0, []) ::
  (264, .if_icmp .ne 7, 3, 271, 0, 0, .inl 0, []) ::
  (267, .iconst 1, 1, 0, 0, 0, .inl (nI 1), []) ::
  (268, .goto 4, 3, 272, 0, 0, .inl 0, []) :: s_X9_go_271
def s_X9_go_215 : List mE := (215, .aload_n 0, 1, 0, 0, 0, .inl 0, []) ::
  (216, .aload_n 0, 1, 0, 0, 0, .inl 0, []) ::
  (217, .getfield 89, 3, 8, 5, 0, .inl 0, [1201]) ::
  (220, .invokevirtual 118, 3, 246, 2, 1, .inl 0, [1371, 8]) ::
  (223, .invokestatic 101, 3, 178, 1, 1, .inl 0, [1365]) ::
  (226, .ifCond .ne 17, 3, 243, 0, 0, .inl 0, []) ::
  (229, .aload_n 0, 1, 0, 0, 0, .inl 0, []) ::
  (230, .aload_n 0, 1, 0, 0, 0, .inl 0, []) ::
  (231, .getfield 89, 3, 8, 5, 0, .inl 0, [1201]) ::
  (234, .invokevirtual 118, 3, 246, 2, 1, .inl 0, [1371, 8]) ::
  (237, .invokestatic 105, 3, 174, 1, 1, .inl 0, [1368]) ::
  (240, .ifCond .eq 110, 3, 350, 0, 0, .inl 0, []) :: s_X9_go_243
def s_X9_go_198 : List mE := (198, .iload_n 1, 1, 1, 0, 0, .inl 0, []) ::
  (199, .invokestatic 101, 3, 178, 1, 1, .inl 0, [1365]) ::
  (202, .istore_n 2, 1, 2, 0, 0, .inl 0, []) ::
  (203, .iconst 1, 1, 0, 0, 0, .inl (nI 1), []) ::
  (204, .istore_n 3, 1, 3, 0, 0, .inl 0, []) ::
  (205, .aload_n 0, 1, 0, 0, 0, .inl 0, []) ::
  (206, .lconst 0, 1, 0, 0, 0, .inr (.inl 0), []) ::
  (207, .putfield 111, 3, 8, 12, 1, .inl 0, [1208]) ::
  (210, .aload_n 0, 1, 0, 0, 0, .inl 0, []) ::
  (211, .iconst 0, 1, 0, 0, 0, .inl (nI 0), []) ::
  (212, .putfield 115, 3, 8, 8, 0, .inl 0, [1204]) :: s_X9_go_215
def s_X9_go_179 : List mE := (179, .putfield 98, 3, 8, 7, 0, .inl 0, [1203]) ::
  (182, .aload_n 0, 1, 0, 0, 0, .inl 0, []) ::
  (183, .iload_n 1, 1, 1, 0, 0, .inl 0, []) ::
  (184, .putfield 108, 3, 8, 9, 0, .inl 0, [1205]) ::
  (187, .aload_n 0, 1, 0, 0, 0, .inl 0, []) ::
  (188, .dup, 1, 0, 0, 0, .inl 0, []) ::
  (189, .getfield 89, 3, 8, 5, 0, .inl 0, [1201]) ::
  (192, .iconst 1, 1, 0, 0, 0, .inl (nI 1), []) ::
  (193, .iadd, 1, 0, 0, 0, .inl 0, []) ::
  (194, .putfield 89, 3, 8, 5, 0, .inl 0, [1201]) ::
  (197, .return_, 1, 0, 0, 0, .inl 0, []) :: s_X9_go_198
def s_X9_go_178 : List mE := (178, .iconst 1, 1, 0, 0, 0, .inl (nI 1), []) :: s_X9_go_179
def s_X9_go_174 : List mE := (174, .iconst 4, 1, 0, 0, 0, .inl (nI 4), []) ::
  (175, .goto 4, 3, 179, 0, 0, .inl 0, []) :: s_X9_go_178
def s_X9_go_113 : List mE := (113, .aload_n 0, 1, 0, 0, 0, .inl 0, []) ::
  (114, .getfield 7, 3, 8, 1, 3, .inr (.inr (16, 940, 1)), [1197]) ::
  (117, .aload_n 0, 1, 0, 0, 0, .inl 0, []) ::
  (118, .getfield 89, 3, 8, 5, 0, .inl 0, [1201]) ::
  (121, .iaload, 1, 0, 0, 0, .inl 0, []) ::
  (122, .istore_n 1, 1, 1, 0, 0, .inl 0, []) ::
  (123, .iload_n 1, 1, 1, 0, 0, .inl 0, []) ::
  (124, .invokestatic 101, 3, 178, 1, 1, .inl 0, [1365]) ::
  (127, .ifCond .ne 71, 3, 198, 0, 0, .inl 0, []) ::
  (130, .iload_n 1, 1, 1, 0, 0, .inl 0, []) ::
  (131, .invokestatic 105, 3, 174, 1, 1, .inl 0, [1368]) ::
  (134, .ifCond .ne 64, 3, 198, 0, 0, .inl 0, []) ::
  (137, .aload_n 0, 1, 0, 0, 0, .inl 0, []) ::
  (138, .iload_n 1, 1, 1, 0, 0, .inl 0, []) ::
  (139, .bipush 59, 2, 0, 0, 0, .inl (nI 59), []) ::
  (141, .if_icmp .eq 33, 3, 174, 0, 0, .inl 0, []) ::
  (144, .iload_n 1, 1, 1, 0, 0, .inl 0, []) ::
  (145, .bipush 60, 2, 0, 0, 0, .inl (nI 60), []) ::
  (147, .if_icmp .eq 27, 3, 174, 0, 0, .inl 0, []) ::
  (150, .iload_n 1, 1, 1, 0, 0, .inl 0, []) ::
  (151, .bipush 61, 2, 0, 0, 0, .inl (nI 61), []) ::
  (153, .if_icmp .eq 21, 3, 174, 0, 0, .inl 0, []) ::
  (156, .iload_n 1, 1, 1, 0, 0, .inl 0, []) ::
  (157, .bipush 62, 2, 0, 0, 0, .inl (nI 62), []) ::
  (159, .if_icmp .eq 15, 3, 174, 0, 0, .inl 0, []) ::
  (162, .iload_n 1, 1, 1, 0, 0, .inl 0, []) ::
  (163, .bipush 40, 2, 0, 0, 0, .inl (nI 40), []) ::
  (165, .if_icmp .eq 9, 3, 174, 0, 0, .inl 0, []) ::
  (168, .iload_n 1, 1, 1, 0, 0, .inl 0, []) ::
  (169, .bipush 41, 2, 0, 0, 0, .inl (nI 41), []) ::
  (171, .if_icmp .ne 7, 3, 178, 0, 0, .inl 0, []) :: s_X9_go_174
def s_X9_go_96 : List mE := (96, .aload_n 0, 1, 0, 0, 0, .inl 0, []) ::
  (97, .getfield 89, 3, 8, 5, 0, .inl 0, [1201]) ::
  (100, .aload_n 0, 1, 0, 0, 0, .inl 0, []) ::
  (101, .getfield 86, 3, 8, 3, 0, .inl 0, [1199]) ::
  (104, .if_icmp .lt 9, 3, 113, 0, 0, .inl 0, []) ::
  (107, .aload_n 0, 1, 0, 0, 0, .inl 0, []) ::
  (108, .iconst 0, 1, 0, 0, 0, .inl (nI 0), []) ::
  (109, .putfield 98, 3, 8, 7, 0, .inl 0, [1203]) ::
  (112, .return_, 1, 0, 0, 0, .inl 0, []) :: s_X9_go_113
def s_X9_go_52 : List mE := (52, .aload_n 0, 1, 0, 0, 0, .inl 0, []) ::
  (53, .aload_n 0, 1, 0, 0, 0, .inl 0, []) ::
  (54, .getfield 89, 3, 8, 5, 0, .inl 0, [1201]) ::
  (57, .putfield 92, 3, 8, 6, 0, .inl 0, [1202]) ::
  (60, .aload_n 0, 1, 0, 0, 0, .inl 0, []) ::
  (61, .getfield 86, 3, 8, 3, 0, .inl 0, [1199]) ::
  (64, .aload_n 0, 1, 0, 0, 0, .inl 0, []) ::
  (65, .getfield 95, 3, 8, 4, 0, .inl 0, [1200]) ::
  (68, .if_icmp .le 28, 3, 96, 0, 0, .inl 0, []) ::
  (71, .aload_n 0, 1, 0, 0, 0, .inl 0, []) ::
  (72, .getfield 92, 3, 8, 6, 0, .inl 0, [1202]) ::
  (75, .aload_n 0, 1, 0, 0, 0, .inl 0, []) ::
  (76, .getfield 95, 3, 8, 4, 0, .inl 0, [1200]) ::
  (79, .if_icmp .lt 17, 3, 96, 0, 0, .inl 0, []) ::
  (82, .aload_n 0, 1, 0, 0, 0, .inl 0, []) ::
  (83, .aload_n 0, 1, 0, 0, 0, .inl 0, []) ::
  (84, .getfield 95, 3, 8, 4, 0, .inl 0, [1200]) ::
  (87, .putfield 92, 3, 8, 6, 0, .inl 0, [1202]) ::
  (90, .aload_n 0, 1, 0, 0, 0, .inl 0, []) ::
  (91, .iconst 1, 1, 0, 0, 0, .inl (nI 1), []) ::
  (92, .putfield 98, 3, 8, 7, 0, .inl 0, [1203]) ::
  (95, .return_, 1, 0, 0, 0, .inl 0, []) :: s_X9_go_96
def s_X9_go_39 : List mE := (39, .aload_n 0, 1, 0, 0, 0, .inl 0, []) ::
  (40, .dup, 1, 0, 0, 0, .inl 0, []) ::
  (41, .getfield 89, 3, 8, 5, 0, .inl 0, [1201]) ::
  (44, .iconst 1, 1, 0, 0, 0, .inl (nI 1), []) ::
  (45, .iadd, 1, 0, 0, 0, .inl 0, []) ::
  (46, .putfield 89, 3, 8, 5, 0, .inl 0, [1201]) ::
  (49, .goto (-49), 3, 0, 0, 0, .inl 0, []) :: s_X9_go_52
def s_X9_go_0 : List mE := (0, .aload_n 0, 1, 0, 0, 0, .inl 0, []) ::
  (1, .getfield 89, 3, 8, 5, 0, .inl 0, [1201]) ::
  (4, .aload_n 0, 1, 0, 0, 0, .inl 0, []) ::
  (5, .getfield 86, 3, 8, 3, 0, .inl 0, [1199]) ::
  (8, .if_icmp .ge 44, 3, 52, 0, 0, .inl 0, []) ::
  (11, .aload_n 0, 1, 0, 0, 0, .inl 0, []) ::
  (12, .getfield 7, 3, 8, 1, 3, .inr (.inr (16, 940, 1)), [1197]) ::
  (15, .aload_n 0, 1, 0, 0, 0, .inl 0, []) ::
  (16, .getfield 89, 3, 8, 5, 0, .inl 0, [1201]) ::
  (19, .iaload, 1, 0, 0, 0, .inl 0, []) ::
  (20, .bipush 32, 2, 0, 0, 0, .inl (nI 32), []) ::
  (22, .if_icmp .eq 17, 3, 39, 0, 0, .inl 0, []) ::
  (25, .aload_n 0, 1, 0, 0, 0, .inl 0, []) ::
  (26, .getfield 7, 3, 8, 1, 3, .inr (.inr (16, 940, 1)), [1197]) ::
  (29, .aload_n 0, 1, 0, 0, 0, .inl 0, []) ::
  (30, .getfield 89, 3, 8, 5, 0, .inl 0, [1201]) ::
  (33, .iaload, 1, 0, 0, 0, .inl 0, []) ::
  (34, .bipush 10, 2, 0, 0, 0, .inl (nI 10), []) ::
  (36, .if_icmp .ne 16, 3, 52, 0, 0, .inl 0, []) :: s_X9_go_39
def k_X9_go : List mE := s_X9_go_0
set_option maxRecDepth 100000 in
theorem t_X9_go_0 : dropTo 0 k_X9_go = s_X9_go_0 := rfl
set_option maxRecDepth 100000 in
theorem t_X9_go_39 : dropTo 39 k_X9_go = s_X9_go_39 := rfl
set_option maxRecDepth 100000 in
theorem t_X9_go_52 : dropTo 52 k_X9_go = s_X9_go_52 := rfl
set_option maxRecDepth 100000 in
theorem t_X9_go_96 : dropTo 96 k_X9_go = s_X9_go_96 := rfl
set_option maxRecDepth 100000 in
theorem t_X9_go_113 : dropTo 113 k_X9_go = s_X9_go_113 := rfl
set_option maxRecDepth 100000 in
theorem t_X9_go_174 : dropTo 174 k_X9_go = s_X9_go_174 := rfl
set_option maxRecDepth 100000 in
theorem t_X9_go_178 : dropTo 178 k_X9_go = s_X9_go_178 := rfl
set_option maxRecDepth 100000 in
theorem t_X9_go_179 : dropTo 179 k_X9_go = s_X9_go_179 := rfl
set_option maxRecDepth 100000 in
theorem t_X9_go_198 : dropTo 198 k_X9_go = s_X9_go_198 := rfl
set_option maxRecDepth 100000 in
theorem t_X9_go_215 : dropTo 215 k_X9_go = s_X9_go_215 := rfl
set_option maxRecDepth 100000 in
theorem t_X9_go_243 : dropTo 243 k_X9_go = s_X9_go_243 := rfl
set_option maxRecDepth 100000 in
theorem t_X9_go_271 : dropTo 271 k_X9_go = s_X9_go_271 := rfl
set_option maxRecDepth 100000 in
theorem t_X9_go_272 : dropTo 272 k_X9_go = s_X9_go_272 := rfl
set_option maxRecDepth 100000 in
theorem t_X9_go_307 : dropTo 307 k_X9_go = s_X9_go_307 := rfl
set_option maxRecDepth 100000 in
theorem t_X9_go_337 : dropTo 337 k_X9_go = s_X9_go_337 := rfl
set_option maxRecDepth 100000 in
theorem t_X9_go_350 : dropTo 350 k_X9_go = s_X9_go_350 := rfl
set_option maxRecDepth 100000 in
theorem t_X9_go_373 : dropTo 373 k_X9_go = s_X9_go_373 := rfl
set_option maxRecDepth 100000 in
theorem t_X9_go_374 : dropTo 374 k_X9_go = s_X9_go_374 := rfl
set_option maxRecDepth 100000 in
theorem t_X9_go_377 : dropTo 377 k_X9_go = s_X9_go_377 := rfl
set_option maxRecDepth 100000 in
theorem t_X9_go_381 : dropTo 381 k_X9_go = s_X9_go_381 := rfl
set_option maxRecDepth 100000 in
theorem t_X9_go_389 : dropTo 389 k_X9_go = s_X9_go_389 := rfl
set_option maxRecDepth 100000 in
theorem t_X9_go_390 : dropTo 390 k_X9_go = s_X9_go_390 := rfl
theorem ok_X9_go : mOkF m_X9_go k_X9_go = true := by decide +kernel
theorem cm_X9_go : mChkM m_X9_go = true := by decide +kernel
def s_X9_goes_227 : List mE := (227, .aload_n 1, 1, 1, 0, 0, .inl 0, []) ::
  (228, .iload_n 2, 1, 2, 0, 0, .inl 0, []) ::
  (229, .sipush 236, 3, 0, 0, 0, .inl (nI 236), []) ::
  (232, .iadd, 1, 0, 0, 0, .inl 0, []) ::
  (233, .iload_n 3, 1, 3, 0, 0, .inl 0, []) ::
  (234, .iadd, 1, 0, 0, 0, .inl 0, []) ::
  (235, .dup2, 1, 0, 0, 0, .inl 0, []) ::
  (236, .iaload, 1, 0, 0, 0, .inl 0, []) ::
  (237, .iload 5, 2, 5, 0, 0, .inl 0, []) ::
  (239, .ior, 1, 0, 0, 0, .inl 0, []) ::
  (240, .iastore, 1, 0, 0, 0, .inl 0, []) ::
  (241, .aload_n 1, 1, 1, 0, 0, .inl 0, []) ::
  (242, .iload_n 2, 1, 2, 0, 0, .inl 0, []) ::
  (243, .sipush 212, 3, 0, 0, 0, .inl (nI 212), []) ::
  (246, .iadd, 1, 0, 0, 0, .inl 0, []) ::
  (247, .iload_n 3, 1, 3, 0, 0, .inl 0, []) ::
  (248, .iadd, 1, 0, 0, 0, .inl 0, []) ::
  (249, .dup2, 1, 0, 0, 0, .inl 0, []) ::
  (250, .iaload, 1, 0, 0, 0, .inl 0, []) ::
  (251, .iconst 1, 1, 0, 0, 0, .inl (nI 1), []) ::
  (252, .iadd, 1, 0, 0, 0, .inl 0, []) ::
  (253, .iastore, 1, 0, 0, 0, .inl 0, []) ::
  (254, .aload_n 1, 1, 1, 0, 0, .inl 0, []) ::
  (255, .iload_n 2, 1, 2, 0, 0, .inl 0, []) ::
  (256, .sipush 228, 3, 0, 0, 0, .inl (nI 228), []) ::
  (259, .iadd, 1, 0, 0, 0, .inl 0, []) ::
  (260, .iload_n 3, 1, 3, 0, 0, .inl 0, []) ::
  (261, .iadd, 1, 0, 0, 0, .inl 0, []) ::
  (262, .dup2, 1, 0, 0, 0, .inl 0, []) ::
  (263, .iaload, 1, 0, 0, 0, .inl 0, []) ::
  (264, .aload_n 0, 1, 0, 0, 0, .inl 0, []) ::
  (265, .getfield 39, 3, 8, 22, 3, .inr (.inr (16, 278, 10)), [1218]) ::
  (268, .bipush 30, 2, 0, 0, 0, .inl (nI 30), []) ::
  (270, .iload_n 3, 1, 3, 0, 0, .inl 0, []) ::
  (271, .iadd, 1, 0, 0, 0, .inl 0, []) ::
  (272, .iaload, 1, 0, 0, 0, .inl 0, []) ::
  (273, .iadd, 1, 0, 0, 0, .inl 0, []) ::
  (274, .iastore, 1, 0, 0, 0, .inl 0, []) ::
  (275, .aload_n 1, 1, 1, 0, 0, .inl 0, []) ::
  (276, .iload_n 2, 1, 2, 0, 0, .inl 0, []) ::
  (277, .sipush 244, 3, 0, 0, 0, .inl (nI 244), []) ::
  (280, .iadd, 1, 0, 0, 0, .inl 0, []) ::
  (281, .iload_n 3, 1, 3, 0, 0, .inl 0, []) ::
  (282, .iadd, 1, 0, 0, 0, .inl 0, []) ::
  (283, .iload 4, 2, 4, 0, 0, .inl 0, []) ::
  (285, .iastore, 1, 0, 0, 0, .inl 0, []) ::
  (286, .return_, 1, 0, 0, 0, .inl 0, []) :: []
def s_X9_goes_221 : List mE := (221, .iinc 6 1, 3, 6, 0, 0, .inl (nI 1), []) ::
  (224, .goto (-95), 3, 129, 0, 0, .inl 0, []) :: s_X9_goes_227
def s_X9_goes_165 : List mE := (165, .aload_n 0, 1, 0, 0, 0, .inl 0, []) ::
  (166, .getfield 45, 3, 8, 24, 3, .inr (.inr (16, 6, 12)), [1220]) ::
  (169, .iload 6, 2, 6, 0, 0, .inl 0, []) ::
  (171, .dup2, 1, 0, 0, 0, .inl 0, []) ::
  (172, .iaload, 1, 0, 0, 0, .inl 0, []) ::
  (173, .iload 7, 2, 7, 0, 0, .inl 0, []) ::
  (175, .iadd, 1, 0, 0, 0, .inl 0, []) ::
  (176, .iastore, 1, 0, 0, 0, .inl 0, []) ::
  (177, .aload_n 1, 1, 1, 0, 0, .inl 0, []) ::
  (178, .iload_n 2, 1, 2, 0, 0, .inl 0, []) ::
  (179, .sipush 272, 3, 0, 0, 0, .inl (nI 272), []) ::
  (182, .iadd, 1, 0, 0, 0, .inl 0, []) ::
  (183, .iload 6, 2, 6, 0, 0, .inl 0, []) ::
  (185, .iadd, 1, 0, 0, 0, .inl 0, []) ::
  (186, .dup2, 1, 0, 0, 0, .inl 0, []) ::
  (187, .iaload, 1, 0, 0, 0, .inl 0, []) ::
  (188, .iload 7, 2, 7, 0, 0, .inl 0, []) ::
  (190, .iadd, 1, 0, 0, 0, .inl 0, []) ::
  (191, .iastore, 1, 0, 0, 0, .inl 0, []) ::
  (192, .aload_n 0, 1, 0, 0, 0, .inl 0, []) ::
  (193, .getfield 48, 3, 8, 25, 3, .inr (.inr (16, 6, 13)), [1221]) ::
  (196, .iload 6, 2, 6, 0, 0, .inl 0, []) ::
  (198, .dup2, 1, 0, 0, 0, .inl 0, []) ::
  (199, .iaload, 1, 0, 0, 0, .inl 0, []) ::
  (200, .iload 5, 2, 5, 0, 0, .inl 0, []) ::
  (202, .iconst 1, 1, 0, 0, 0, .inl (nI 1), []) ::
  (203, .iload_n 3, 1, 3, 0, 0, .inl 0, []) ::
  (204, .ishl, 1, 0, 0, 0, .inl 0, []) ::
  (205, .ior, 1, 0, 0, 0, .inl 0, []) ::
  (206, .ior, 1, 0, 0, 0, .inl 0, []) ::
  (207, .iastore, 1, 0, 0, 0, .inl 0, []) ::
  (208, .aload_n 0, 1, 0, 0, 0, .inl 0, []) ::
  (209, .getfield 51, 3, 8, 26, 3, .inr (.inr (16, 6, 14)), [1222]) ::
  (212, .iload 6, 2, 6, 0, 0, .inl 0, []) ::
  (214, .dup2, 1, 0, 0, 0, .inl 0, []) ::
  (215, .iaload, 1, 0, 0, 0, .inl 0, []) ::
  (216, .iconst 1, 1, 0, 0, 0, .inl (nI 1), []) ::
  (217, .iload_n 3, 1, 3, 0, 0, .inl 0, []) ::
  (218, .ishl, 1, 0, 0, 0, .inl 0, []) ::
  (219, .ior, 1, 0, 0, 0, .inl 0, []) ::
  (220, .iastore, 1, 0, 0, 0, .inl 0, []) :: s_X9_goes_221
def s_X9_goes_129 : List mE := (129, .iload 6, 2, 6, 0, 0, .inl 0, []) ::
  (131, .aload_n 0, 1, 0, 0, 0, .inl 0, []) ::
  (132, .getfield 39, 3, 8, 22, 3, .inr (.inr (16, 278, 10)), [1218]) ::
  (135, .iconst 0, 1, 0, 0, 0, .inl (nI 0), []) ::
  (136, .iaload, 1, 0, 0, 0, .inl 0, []) ::
  (137, .if_icmp .ge 90, 3, 227, 0, 0, .inl 0, []) ::
  (140, .aload_n 0, 1, 0, 0, 0, .inl 0, []) ::
  (141, .getfield 39, 3, 8, 22, 3, .inr (.inr (16, 278, 10)), [1218]) ::
  (144, .sipush 182, 3, 0, 0, 0, .inl (nI 182), []) ::
  (147, .iload_n 3, 1, 3, 0, 0, .inl 0, []) ::
  (148, .iload 6, 2, 6, 0, 0, .inl 0, []) ::
  (150, .invokestatic 182, 3, 148, 2, 1, .inl 0, [1437]) ::
  (153, .iadd, 1, 0, 0, 0, .inl 0, []) ::
  (154, .iaload, 1, 0, 0, 0, .inl 0, []) ::
  (155, .istore 7, 2, 7, 0, 0, .inl 0, []) ::
  (157, .iload 7, 2, 7, 0, 0, .inl 0, []) ::
  (159, .ifCond .ne 6, 3, 165, 0, 0, .inl 0, []) ::
  (162, .goto 59, 3, 221, 0, 0, .inl 0, []) :: s_X9_goes_165
def s_X9_goes_126 : List mE := (126, .iconst 0, 1, 0, 0, 0, .inl (nI 0), []) ::
  (127, .istore 6, 2, 6, 0, 0, .inl 0, []) :: s_X9_goes_129
def s_X9_goes_120 : List mE := (120, .iinc 6 1, 3, 6, 0, 0, .inl (nI 1), []) ::
  (123, .goto (-117), 3, 6, 0, 0, .inl 0, []) :: s_X9_goes_126
def s_X9_goes_41 : List mE := (41, .iload 5, 2, 5, 0, 0, .inl 0, []) ::
  (43, .aload_n 1, 1, 1, 0, 0, .inl 0, []) ::
  (44, .iload_n 2, 1, 2, 0, 0, .inl 0, []) ::
  (45, .bipush 50, 2, 0, 0, 0, .inl (nI 50), []) ::
  (47, .iadd, 1, 0, 0, 0, .inl 0, []) ::
  (48, .iload 7, 2, 7, 0, 0, .inl 0, []) ::
  (50, .iadd, 1, 0, 0, 0, .inl 0, []) ::
  (51, .iaload, 1, 0, 0, 0, .inl 0, []) ::
  (52, .ior, 1, 0, 0, 0, .inl 0, []) ::
  (53, .istore 5, 2, 5, 0, 0, .inl 0, []) ::
  (55, .aload_n 1, 1, 1, 0, 0, .inl 0, []) ::
  (56, .iload_n 2, 1, 2, 0, 0, .inl 0, []) ::
  (57, .iconst 2, 1, 0, 0, 0, .inl (nI 2), []) ::
  (58, .iadd, 1, 0, 0, 0, .inl 0, []) ::
  (59, .iload 7, 2, 7, 0, 0, .inl 0, []) ::
  (61, .iadd, 1, 0, 0, 0, .inl 0, []) ::
  (62, .dup2, 1, 0, 0, 0, .inl 0, []) ::
  (63, .iaload, 1, 0, 0, 0, .inl 0, []) ::
  (64, .aload_n 0, 1, 0, 0, 0, .inl 0, []) ::
  (65, .getfield 39, 3, 8, 22, 3, .inr (.inr (16, 278, 10)), [1218]) ::
  (68, .bipush 38, 2, 0, 0, 0, .inl (nI 38), []) ::
  (70, .iload 7, 2, 7, 0, 0, .inl 0, []) ::
  (72, .iadd, 1, 0, 0, 0, .inl 0, []) ::
  (73, .iaload, 1, 0, 0, 0, .inl 0, []) ::
  (74, .isub, 1, 0, 0, 0, .inl 0, []) ::
  (75, .iastore, 1, 0, 0, 0, .inl 0, []) ::
  (76, .aload_n 1, 1, 1, 0, 0, .inl 0, []) ::
  (77, .iload_n 2, 1, 2, 0, 0, .inl 0, []) ::
  (78, .sipush 278, 3, 0, 0, 0, .inl (nI 278), []) ::
  (81, .iadd, 1, 0, 0, 0, .inl 0, []) ::
  (82, .iload 6, 2, 6, 0, 0, .inl 0, []) ::
  (84, .iadd, 1, 0, 0, 0, .inl 0, []) ::
  (85, .dup2, 1, 0, 0, 0, .inl 0, []) ::
  (86, .iaload, 1, 0, 0, 0, .inl 0, []) ::
  (87, .aload_n 0, 1, 0, 0, 0, .inl 0, []) ::
  (88, .getfield 39, 3, 8, 22, 3, .inr (.inr (16, 278, 10)), [1218]) ::
  (91, .bipush 38, 2, 0, 0, 0, .inl (nI 38), []) ::
  (93, .iload 7, 2, 7, 0, 0, .inl 0, []) ::
  (95, .iadd, 1, 0, 0, 0, .inl 0, []) ::
  (96, .iaload, 1, 0, 0, 0, .inl 0, []) ::
  (97, .iadd, 1, 0, 0, 0, .inl 0, []) ::
  (98, .iastore, 1, 0, 0, 0, .inl 0, []) ::
  (99, .aload_n 1, 1, 1, 0, 0, .inl 0, []) ::
  (100, .iload_n 2, 1, 2, 0, 0, .inl 0, []) ::
  (101, .iconst 2, 1, 0, 0, 0, .inl (nI 2), []) ::
  (102, .iadd, 1, 0, 0, 0, .inl 0, []) ::
  (103, .iload 7, 2, 7, 0, 0, .inl 0, []) ::
  (105, .iadd, 1, 0, 0, 0, .inl 0, []) ::
  (106, .iaload, 1, 0, 0, 0, .inl 0, []) ::
  (107, .ifCond .ne 13, 3, 120, 0, 0, .inl 0, []) ::
  (110, .aload_n 1, 1, 1, 0, 0, .inl 0, []) ::
  (111, .iload_n 2, 1, 2, 0, 0, .inl 0, []) ::
  (112, .bipush 50, 2, 0, 0, 0, .inl (nI 50), []) ::
  (114, .iadd, 1, 0, 0, 0, .inl 0, []) ::
  (115, .iload 7, 2, 7, 0, 0, .inl 0, []) ::
  (117, .iadd, 1, 0, 0, 0, .inl 0, []) ::
  (118, .iconst 0, 1, 0, 0, 0, .inl (nI 0), []) ::
  (119, .iastore, 1, 0, 0, 0, .inl 0, []) :: s_X9_goes_120
def s_X9_goes_6 : List mE := (6, .iload 6, 2, 6, 0, 0, .inl 0, []) ::
  (8, .aload_n 0, 1, 0, 0, 0, .inl 0, []) ::
  (9, .getfield 39, 3, 8, 22, 3, .inr (.inr (16, 278, 10)), [1218]) ::
  (12, .iconst 0, 1, 0, 0, 0, .inl (nI 0), []) ::
  (13, .iaload, 1, 0, 0, 0, .inl 0, []) ::
  (14, .if_icmp .ge 112, 3, 126, 0, 0, .inl 0, []) ::
  (17, .iload_n 3, 1, 3, 0, 0, .inl 0, []) ::
  (18, .iload 6, 2, 6, 0, 0, .inl 0, []) ::
  (20, .invokestatic 182, 3, 148, 2, 1, .inl 0, [1437]) ::
  (23, .istore 7, 2, 7, 0, 0, .inl 0, []) ::
  (25, .aload_n 0, 1, 0, 0, 0, .inl 0, []) ::
  (26, .getfield 39, 3, 8, 22, 3, .inr (.inr (16, 278, 10)), [1218]) ::
  (29, .bipush 38, 2, 0, 0, 0, .inl (nI 38), []) ::
  (31, .iload 7, 2, 7, 0, 0, .inl 0, []) ::
  (33, .iadd, 1, 0, 0, 0, .inl 0, []) ::
  (34, .iaload, 1, 0, 0, 0, .inl 0, []) ::
  (35, .ifCond .ne 6, 3, 41, 0, 0, .inl 0, []) ::
  (38, .goto 82, 3, 120, 0, 0, .inl 0, []) :: s_X9_goes_41
def s_X9_goes_0 : List mE := (0, .iconst 0, 1, 0, 0, 0, .inl (nI 0), []) ::
  (1, .istore 5, 2, 5, 0, 0, .inl 0, []) ::
  (3, .iconst 0, 1, 0, 0, 0, .inl (nI 0), []) ::
  (4, .istore 6, 2, 6, 0, 0, .inl 0, []) :: s_X9_goes_6
def k_X9_goes : List mE := s_X9_goes_0
set_option maxRecDepth 100000 in
theorem t_X9_goes_0 : dropTo 0 k_X9_goes = s_X9_goes_0 := rfl
set_option maxRecDepth 100000 in
theorem t_X9_goes_6 : dropTo 6 k_X9_goes = s_X9_goes_6 := rfl
set_option maxRecDepth 100000 in
theorem t_X9_goes_41 : dropTo 41 k_X9_goes = s_X9_goes_41 := rfl
set_option maxRecDepth 100000 in
theorem t_X9_goes_120 : dropTo 120 k_X9_goes = s_X9_goes_120 := rfl
set_option maxRecDepth 100000 in
theorem t_X9_goes_126 : dropTo 126 k_X9_goes = s_X9_goes_126 := rfl
set_option maxRecDepth 100000 in
theorem t_X9_goes_129 : dropTo 129 k_X9_goes = s_X9_goes_129 := rfl
set_option maxRecDepth 100000 in
theorem t_X9_goes_165 : dropTo 165 k_X9_goes = s_X9_goes_165 := rfl
set_option maxRecDepth 100000 in
theorem t_X9_goes_221 : dropTo 221 k_X9_goes = s_X9_goes_221 := rfl
set_option maxRecDepth 100000 in
theorem t_X9_goes_227 : dropTo 227 k_X9_goes = s_X9_goes_227 := rfl
theorem ok_X9_goes : mOkF m_X9_goes k_X9_goes = true := by decide +kernel
theorem cm_X9_goes : mChkM m_X9_goes = true := by decide +kernel
def s_X9_goes__104 : List mE := (104, .iload_n 3, 1, 3, 0, 0, .inl 0, []) ::
  (105, .ireturn, 1, 0, 0, 0, .inl 0, []) :: []
def s_X9_goes__98 : List mE := (98, .iinc 4 1, 3, 4, 0, 0, .inl (nI 1), []) ::
  (101, .goto (-58), 3, 43, 0, 0, .inl 0, []) :: s_X9_goes__104
def s_X9_goes__43 : List mE := (43, .iload 4, 2, 4, 0, 0, .inl 0, []) ::
  (45, .bipush 12, 2, 0, 0, 0, .inl (nI 12), []) ::
  (47, .iload_n 2, 1, 2, 0, 0, .inl 0, []) ::
  (48, .imul, 1, 0, 0, 0, .inl 0, []) ::
  (49, .bipush 12, 2, 0, 0, 0, .inl (nI 12), []) ::
  (51, .iadd, 1, 0, 0, 0, .inl 0, []) ::
  (52, .if_icmp .ge 52, 3, 104, 0, 0, .inl 0, []) ::
  (55, .aload_n 0, 1, 0, 0, 0, .inl 0, []) ::
  (56, .aload_n 0, 1, 0, 0, 0, .inl 0, []) ::
  (57, .getfield 42, 3, 8, 23, 3, .inr (.inr (16, 296, 11)), [1219]) ::
  (60, .iconst 0, 1, 0, 0, 0, .inl (nI 0), []) ::
  (61, .invokevirtual 278, 3, 171, 3, 0, .inl 0, [1520, 8]) ::
  (64, .iload 4, 2, 4, 0, 0, .inl 0, []) ::
  (66, .bipush 12, 2, 0, 0, 0, .inl (nI 12), []) ::
  (68, .iload_n 2, 1, 2, 0, 0, .inl 0, []) ::
  (69, .imul, 1, 0, 0, 0, .inl 0, []) ::
  (70, .if_icmp .lt 28, 3, 98, 0, 0, .inl 0, []) ::
  (73, .aload_n 0, 1, 0, 0, 0, .inl 0, []) ::
  (74, .getfield 42, 3, 8, 23, 3, .inr (.inr (16, 296, 11)), [1219]) ::
  (77, .sipush 252, 3, 0, 0, 0, .inl (nI 252), []) ::
  (80, .iload_n 1, 1, 1, 0, 0, .inl 0, []) ::
  (81, .iadd, 1, 0, 0, 0, .inl 0, []) ::
  (82, .iaload, 1, 0, 0, 0, .inl 0, []) ::
  (83, .ifCond .le 15, 3, 98, 0, 0, .inl 0, []) ::
  (86, .iload_n 3, 1, 3, 0, 0, .inl 0, []) ::
  (87, .iconst 1, 1, 0, 0, 0, .inl (nI 1), []) ::
  (88, .iload 4, 2, 4, 0, 0, .inl 0, []) ::
  (90, .bipush 12, 2, 0, 0, 0, .inl (nI 12), []) ::
  (92, .iload_n 2, 1, 2, 0, 0, .inl 0, []) ::
  (93, .imul, 1, 0, 0, 0, .inl 0, []) ::
  (94, .isub, 1, 0, 0, 0, .inl 0, []) ::
  (95, .ishl, 1, 0, 0, 0, .inl 0, []) ::
  (96, .ior, 1, 0, 0, 0, .inl 0, []) ::
  (97, .istore_n 3, 1, 3, 0, 0, .inl 0, []) :: s_X9_goes__98
def s_X9_goes__25 : List mE := (25, .aload_n 0, 1, 0, 0, 0, .inl 0, []) ::
  (26, .invokevirtual 285, 3, 196, 1, 0, .inl 0, [1504, 8]) ::
  (29, .aload_n 0, 1, 0, 0, 0, .inl 0, []) ::
  (30, .aload_n 0, 1, 0, 0, 0, .inl 0, []) ::
  (31, .getfield 42, 3, 8, 23, 3, .inr (.inr (16, 296, 11)), [1219]) ::
  (34, .iconst 0, 1, 0, 0, 0, .inl (nI 0), []) ::
  (35, .invokevirtual 274, 3, 242, 3, 0, .inl 0, [1508, 8]) ::
  (38, .iconst 0, 1, 0, 0, 0, .inl (nI 0), []) ::
  (39, .istore_n 3, 1, 3, 0, 0, .inl 0, []) ::
  (40, .iconst 0, 1, 0, 0, 0, .inl (nI 0), []) ::
  (41, .istore 4, 2, 4, 0, 0, .inl 0, []) :: s_X9_goes__43
def s_X9_goes__23 : List mE := (23, .iconst (-1), 1, 0, 0, 0, .inl (-1), []) ::
  (24, .ireturn, 1, 0, 0, 0, .inl 0, []) :: s_X9_goes__25
def s_X9_goes__0 : List mE := (0, .aload_n 0, 1, 0, 0, 0, .inl 0, []) ::
  (1, .iconst 0, 1, 0, 0, 0, .inl (nI 0), []) ::
  (2, .putfield 76, 3, 8, 0, 0, .inl 0, [1196]) ::
  (5, .aload_n 0, 1, 0, 0, 0, .inl 0, []) ::
  (6, .iload_n 1, 1, 1, 0, 0, .inl 0, []) ::
  (7, .invokevirtual 225, 3, 190, 2, 1, .inl 0, [1468, 8]) ::
  (10, .ifCond .eq 13, 3, 23, 0, 0, .inl 0, []) ::
  (13, .iload_n 2, 1, 2, 0, 0, .inl 0, []) ::
  (14, .iconst 0, 1, 0, 0, 0, .inl (nI 0), []) ::
  (15, .bipush 15, 2, 0, 0, 0, .inl (nI 15), []) ::
  (17, .invokestatic 143, 3, 177, 3, 1, .inl 0, [1414]) ::
  (20, .ifCond .ne 5, 3, 25, 0, 0, .inl 0, []) :: s_X9_goes__23
def k_X9_goes_ : List mE := s_X9_goes__0
set_option maxRecDepth 100000 in
theorem t_X9_goes__0 : dropTo 0 k_X9_goes_ = s_X9_goes__0 := rfl
set_option maxRecDepth 100000 in
theorem t_X9_goes__23 : dropTo 23 k_X9_goes_ = s_X9_goes__23 := rfl
set_option maxRecDepth 100000 in
theorem t_X9_goes__25 : dropTo 25 k_X9_goes_ = s_X9_goes__25 := rfl
set_option maxRecDepth 100000 in
theorem t_X9_goes__43 : dropTo 43 k_X9_goes_ = s_X9_goes__43 := rfl
set_option maxRecDepth 100000 in
theorem t_X9_goes__98 : dropTo 98 k_X9_goes_ = s_X9_goes__98 := rfl
set_option maxRecDepth 100000 in
theorem t_X9_goes__104 : dropTo 104 k_X9_goes_ = s_X9_goes__104 := rfl
theorem ok_X9_goes_ : mOkF m_X9_goes_ k_X9_goes_ = true := by decide +kernel
theorem cm_X9_goes_ : mChkM m_X9_goes_ = true := by decide +kernel
def s_X9_goods_0 : List mE := (0, .aload_n 0, 1, 0, 0, 0, .inl 0, []) ::
  (1, .getfield 13, 3, 8, 14, 3, .inr (.inr (16, 925, 2)), [1210]) ::
  (4, .iconst 0, 1, 0, 0, 0, .inl (nI 0), []) ::
  (5, .iaload, 1, 0, 0, 0, .inl 0, []) ::
  (6, .ireturn, 1, 0, 0, 0, .inl 0, []) :: []
def k_X9_goods : List mE := s_X9_goods_0
set_option maxRecDepth 100000 in
theorem t_X9_goods_0 : dropTo 0 k_X9_goods = s_X9_goods_0 := rfl
theorem ok_X9_goods : mOkF m_X9_goods k_X9_goods = true := by decide +kernel
theorem cm_X9_goods : mChkM m_X9_goods = true := by decide +kernel
def s_X9_goodsIn_43 : List mE := (43, .iload_n 3, 1, 3, 0, 0, .inl 0, []) ::
  (44, .ireturn, 1, 0, 0, 0, .inl 0, []) :: []
def s_X9_goodsIn_37 : List mE := (37, .iinc 4 1, 3, 4, 0, 0, .inl (nI 1), []) ::
  (40, .goto (-35), 3, 5, 0, 0, .inl 0, []) :: s_X9_goodsIn_43
def s_X9_goodsIn_5 : List mE := (5, .iload 4, 2, 4, 0, 0, .inl 0, []) ::
  (7, .aload_n 0, 1, 0, 0, 0, .inl 0, []) ::
  (8, .invokevirtual 222, 3, 165, 1, 1, .inl 0, [1484, 8]) ::
  (11, .if_icmp .ge 32, 3, 43, 0, 0, .inl 0, []) ::
  (14, .aload_n 0, 1, 0, 0, 0, .inl 0, []) ::
  (15, .getfield 13, 3, 8, 14, 3, .inr (.inr (16, 925, 2)), [1210]) ::
  (18, .iload_n 1, 1, 1, 0, 0, .inl 0, []) ::
  (19, .iload_n 2, 1, 2, 0, 0, .inl 0, []) ::
  (20, .iload 4, 2, 4, 0, 0, .inl 0, []) ::
  (22, .invokestatic 182, 3, 148, 2, 1, .inl 0, [1437]) ::
  (25, .iadd, 1, 0, 0, 0, .inl 0, []) ::
  (26, .iaload, 1, 0, 0, 0, .inl 0, []) ::
  (27, .ifCond .le 10, 3, 37, 0, 0, .inl 0, []) ::
  (30, .iload_n 3, 1, 3, 0, 0, .inl 0, []) ::
  (31, .iconst 1, 1, 0, 0, 0, .inl (nI 1), []) ::
  (32, .iload 4, 2, 4, 0, 0, .inl 0, []) ::
  (34, .ishl, 1, 0, 0, 0, .inl 0, []) ::
  (35, .ior, 1, 0, 0, 0, .inl 0, []) ::
  (36, .istore_n 3, 1, 3, 0, 0, .inl 0, []) :: s_X9_goodsIn_37
def s_X9_goodsIn_0 : List mE := (0, .iconst 0, 1, 0, 0, 0, .inl (nI 0), []) ::
  (1, .istore_n 3, 1, 3, 0, 0, .inl 0, []) ::
  (2, .iconst 0, 1, 0, 0, 0, .inl (nI 0), []) ::
  (3, .istore 4, 2, 4, 0, 0, .inl 0, []) :: s_X9_goodsIn_5
def k_X9_goodsIn : List mE := s_X9_goodsIn_0
set_option maxRecDepth 100000 in
theorem t_X9_goodsIn_0 : dropTo 0 k_X9_goodsIn = s_X9_goodsIn_0 := rfl
set_option maxRecDepth 100000 in
theorem t_X9_goodsIn_5 : dropTo 5 k_X9_goodsIn = s_X9_goodsIn_5 := rfl
set_option maxRecDepth 100000 in
theorem t_X9_goodsIn_37 : dropTo 37 k_X9_goodsIn = s_X9_goodsIn_37 := rfl
set_option maxRecDepth 100000 in
theorem t_X9_goodsIn_43 : dropTo 43 k_X9_goodsIn = s_X9_goodsIn_43 := rfl
theorem ok_X9_goodsIn : mOkF m_X9_goodsIn k_X9_goodsIn = true := by decide +kernel
theorem cm_X9_goodsIn : mChkM m_X9_goodsIn = true := by decide +kernel
def s_X9_greatest_22 : List mE := (22, .ireturn, 1, 0, 0, 0, .inl 0, []) :: []
def s_X9_greatest_21 : List mE := (21, .iconst (-1), 1, 0, 0, 0, .inl (-1), []) :: s_X9_greatest_22
def s_X9_greatest_0 : List mE := (0, .aload_n 0, 1, 0, 0, 0, .inl 0, []) ::
  (1, .iconst 0, 1, 0, 0, 0, .inl (nI 0), []) ::
  (2, .putfield 76, 3, 8, 0, 0, .inl 0, [1196]) ::
  (5, .aload_n 0, 1, 0, 0, 0, .inl 0, []) ::
  (6, .iload_n 1, 1, 1, 0, 0, .inl 0, []) ::
  (7, .invokevirtual 300, 3, 181, 2, 1, .inl 0, [1610, 8]) ::
  (10, .ifCond .eq 11, 3, 21, 0, 0, .inl 0, []) ::
  (13, .aload_n 0, 1, 0, 0, 0, .inl 0, []) ::
  (14, .iload_n 1, 1, 1, 0, 0, .inl 0, []) ::
  (15, .invokevirtual 333, 3, 168, 2, 1, .inl 0, [1675, 8]) ::
  (18, .goto 4, 3, 22, 0, 0, .inl 0, []) :: s_X9_greatest_21
def k_X9_greatest : List mE := s_X9_greatest_0
set_option maxRecDepth 100000 in
theorem t_X9_greatest_0 : dropTo 0 k_X9_greatest = s_X9_greatest_0 := rfl
set_option maxRecDepth 100000 in
theorem t_X9_greatest_21 : dropTo 21 k_X9_greatest = s_X9_greatest_21 := rfl
set_option maxRecDepth 100000 in
theorem t_X9_greatest_22 : dropTo 22 k_X9_greatest = s_X9_greatest_22 := rfl
theorem ok_X9_greatest : mOkF m_X9_greatest k_X9_greatest = true := by decide +kernel
theorem cm_X9_greatest : mChkM m_X9_greatest = true := by decide +kernel
def s_X9_greatestOf_47 : List mE := (47, .iload_n 2, 1, 2, 0, 0, .inl 0, []) ::
  (48, .ireturn, 1, 0, 0, 0, .inl 0, []) :: []
def s_X9_greatestOf_41 : List mE := (41, .iinc 3 1, 3, 3, 0, 0, .inl (nI 1), []) ::
  (44, .goto (-40), 3, 4, 0, 0, .inl 0, []) :: s_X9_greatestOf_47
def s_X9_greatestOf_4 : List mE := (4, .aload_n 0, 1, 0, 0, 0, .inl 0, []) ::
  (5, .iload_n 3, 1, 3, 0, 0, .inl 0, []) ::
  (6, .invokevirtual 300, 3, 181, 2, 1, .inl 0, [1610, 8]) ::
  (9, .ifCond .eq 38, 3, 47, 0, 0, .inl 0, []) ::
  (12, .iload_n 3, 1, 3, 0, 0, .inl 0, []) ::
  (13, .iload_n 1, 1, 1, 0, 0, .inl 0, []) ::
  (14, .iconst (-1), 1, 0, 0, 0, .inl (-1), []) ::
  (15, .ixor, 1, 0, 0, 0, .inl 0, []) ::
  (16, .iand, 1, 0, 0, 0, .inl 0, []) ::
  (17, .ifCond .ne 24, 3, 41, 0, 0, .inl 0, []) ::
  (20, .iload_n 3, 1, 3, 0, 0, .inl 0, []) ::
  (21, .invokestatic 324, 3, 143, 1, 1, .inl 0, [1644]) ::
  (24, .iload_n 2, 1, 2, 0, 0, .inl 0, []) ::
  (25, .invokestatic 324, 3, 143, 1, 1, .inl 0, [1644]) ::
  (28, .if_icmp .le 13, 3, 41, 0, 0, .inl 0, []) ::
  (31, .aload_n 0, 1, 0, 0, 0, .inl 0, []) ::
  (32, .iload_n 3, 1, 3, 0, 0, .inl 0, []) ::
  (33, .invokevirtual 331, 3, 184, 2, 1, .inl 0, [1659, 8]) ::
  (36, .ifCond .eq 5, 3, 41, 0, 0, .inl 0, []) ::
  (39, .iload_n 3, 1, 3, 0, 0, .inl 0, []) ::
  (40, .istore_n 2, 1, 2, 0, 0, .inl 0, []) :: s_X9_greatestOf_41
def s_X9_greatestOf_0 : List mE := (0, .iconst 0, 1, 0, 0, 0, .inl (nI 0), []) ::
  (1, .istore_n 2, 1, 2, 0, 0, .inl 0, []) ::
  (2, .iconst 1, 1, 0, 0, 0, .inl (nI 1), []) ::
  (3, .istore_n 3, 1, 3, 0, 0, .inl 0, []) :: s_X9_greatestOf_4
def k_X9_greatestOf : List mE := s_X9_greatestOf_0
set_option maxRecDepth 100000 in
theorem t_X9_greatestOf_0 : dropTo 0 k_X9_greatestOf = s_X9_greatestOf_0 := rfl
set_option maxRecDepth 100000 in
theorem t_X9_greatestOf_4 : dropTo 4 k_X9_greatestOf = s_X9_greatestOf_4 := rfl
set_option maxRecDepth 100000 in
theorem t_X9_greatestOf_41 : dropTo 41 k_X9_greatestOf = s_X9_greatestOf_41 := rfl
set_option maxRecDepth 100000 in
theorem t_X9_greatestOf_47 : dropTo 47 k_X9_greatestOf = s_X9_greatestOf_47 := rfl
theorem ok_X9_greatestOf : mOkF m_X9_greatestOf k_X9_greatestOf = true := by decide +kernel
theorem cm_X9_greatestOf : mChkM m_X9_greatestOf = true := by decide +kernel
def s_X9_has_14 : List mE := (14, .ireturn, 1, 1, 0, 0, .inl 0, []) :: []
def s_X9_has_13 : List mE := (13, .iconst 0, 1, 0, 0, 0, .inl (nI 0), []) :: s_X9_has_14
def s_X9_has_0 : List mE := (0, .iload_n 0, 1, 0, 0, 0, .inl 0, []) ::
  (1, .iload_n 1, 1, 1, 0, 0, .inl 0, []) ::
  (2, .ishr, 1, 0, 0, 0, .inl 0, []) ::
  (3, .iconst 1, 1, 0, 0, 0, .inl (nI 1), []) ::
  (4, .iand, 1, 0, 0, 0, .inl 0, []) ::
  (5, .iconst 1, 1, 0, 0, 0, .inl (nI 1), []) ::
  (6, .if_icmp .ne 7, 3, 13, 0, 0, .inl 0, []) ::
  (9, .iconst 1, 1, 0, 0, 0, .inl (nI 1), []) ::
  (10, .goto 4, 3, 14, 0, 0, .inl 0, []) :: s_X9_has_13
def k_X9_has : List mE := s_X9_has_0
set_option maxRecDepth 100000 in
theorem t_X9_has_0 : dropTo 0 k_X9_has = s_X9_has_0 := rfl
set_option maxRecDepth 100000 in
theorem t_X9_has_13 : dropTo 13 k_X9_has = s_X9_has_13 := rfl
set_option maxRecDepth 100000 in
theorem t_X9_has_14 : dropTo 14 k_X9_has = s_X9_has_14 := rfl
theorem ok_X9_has : mOkF m_X9_has k_X9_has = true := by decide +kernel
theorem cm_X9_has : mChkM m_X9_has = true := by decide +kernel
def s_X9_holds_355 : List mE := (355, .ireturn, 1, 1, 0, 0, .inl 0, []) :: []
def s_X9_holds_354 : List mE := (354, .iconst 0, 1, 0, 0, 0, .inl (nI 0), []) :: s_X9_holds_355
def s_X9_holds_343 : List mE := (343, .iload 7, 2, 7, 0, 0, .inl 0, []) ::
  (345, .iload 5, 2, 5, 0, 0, .inl 0, []) ::
  (347, .if_icmp .le 7, 3, 354, 0, 0, .inl 0, []) ::
  (350, .iconst 1, 1, 0, 0, 0, .inl (nI 1), []) ::
  (351, .goto 4, 3, 355, 0, 0, .inl 0, []) :: s_X9_holds_354
def s_X9_holds_339 : List mE := (339, .iconst 0, 1, 0, 0, 0, .inl (nI 0), []) ::
  (340, .goto 15, 3, 355, 0, 0, .inl 0, []) :: s_X9_holds_343
def s_X9_holds_315 : List mE := (315, .aload_n 0, 1, 0, 0, 0, .inl 0, []) ::
  (316, .getfield 13, 3, 8, 14, 3, .inr (.inr (16, 925, 2)), [1210]) ::
  (319, .iload_n 3, 1, 3, 0, 0, .inl 0, []) ::
  (320, .iconst 3, 1, 0, 0, 0, .inl (nI 3), []) ::
  (321, .iadd, 1, 0, 0, 0, .inl 0, []) ::
  (322, .iaload, 1, 0, 0, 0, .inl 0, []) ::
  (323, .bipush 61, 2, 0, 0, 0, .inl (nI 61), []) ::
  (325, .if_icmp .ne 18, 3, 343, 0, 0, .inl 0, []) ::
  (328, .iload 7, 2, 7, 0, 0, .inl 0, []) ::
  (330, .iload 5, 2, 5, 0, 0, .inl 0, []) ::
  (332, .if_icmp .ne 7, 3, 339, 0, 0, .inl 0, []) ::
  (335, .iconst 1, 1, 0, 0, 0, .inl (nI 1), []) ::
  (336, .goto 19, 3, 355, 0, 0, .inl 0, []) :: s_X9_holds_339
def s_X9_holds_311 : List mE := (311, .iconst 0, 1, 0, 0, 0, .inl (nI 0), []) ::
  (312, .goto 43, 3, 355, 0, 0, .inl 0, []) :: s_X9_holds_315
def s_X9_holds_285 : List mE := (285, .istore 7, 2, 7, 0, 0, .inl 0, []) ::
  (287, .aload_n 0, 1, 0, 0, 0, .inl 0, []) ::
  (288, .getfield 13, 3, 8, 14, 3, .inr (.inr (16, 925, 2)), [1210]) ::
  (291, .iload_n 3, 1, 3, 0, 0, .inl 0, []) ::
  (292, .iconst 3, 1, 0, 0, 0, .inl (nI 3), []) ::
  (293, .iadd, 1, 0, 0, 0, .inl 0, []) ::
  (294, .iaload, 1, 0, 0, 0, .inl 0, []) ::
  (295, .bipush 60, 2, 0, 0, 0, .inl (nI 60), []) ::
  (297, .if_icmp .ne 18, 3, 315, 0, 0, .inl 0, []) ::
  (300, .iload 7, 2, 7, 0, 0, .inl 0, []) ::
  (302, .iload 5, 2, 5, 0, 0, .inl 0, []) ::
  (304, .if_icmp .ge 7, 3, 311, 0, 0, .inl 0, []) ::
  (307, .iconst 1, 1, 0, 0, 0, .inl (nI 1), []) ::
  (308, .goto 47, 3, 355, 0, 0, .inl 0, []) :: s_X9_holds_311
def s_X9_holds_281 : List mE := (281, .iadd, 1, 0, 0, 0, .inl 0, []) ::
  (282, .iload_n 2, 1, 2, 0, 0, .inl 0, []) ::
  (283, .iadd, 1, 0, 0, 0, .inl 0, []) ::
  (284, .iaload, 1, 0, 0, 0, .inl 0, []) :: s_X9_holds_285
def s_X9_holds_278 : List mE := (278, .sipush 228, 3, 0, 0, 0, .inl (nI 228), []) :: s_X9_holds_281
def s_X9_holds_265 : List mE := (265, .iload 6, 2, 6, 0, 0, .inl 0, []) ::
  (267, .bipush 16, 2, 0, 0, 0, .inl (nI 16), []) ::
  (269, .if_icmp .ne 9, 3, 278, 0, 0, .inl 0, []) ::
  (272, .sipush 220, 3, 0, 0, 0, .inl (nI 220), []) ::
  (275, .goto 6, 3, 281, 0, 0, .inl 0, []) :: s_X9_holds_278
def s_X9_holds_245 : List mE := (245, .aload_n 0, 1, 0, 0, 0, .inl 0, []) ::
  (246, .getfield 13, 3, 8, 14, 3, .inr (.inr (16, 925, 2)), [1210]) ::
  (249, .sipush 621, 3, 0, 0, 0, .inl (nI 621), []) ::
  (252, .iload 6, 2, 6, 0, 0, .inl 0, []) ::
  (254, .bipush 15, 2, 0, 0, 0, .inl (nI 15), []) ::
  (256, .if_icmp .ne 9, 3, 265, 0, 0, .inl 0, []) ::
  (259, .sipush 212, 3, 0, 0, 0, .inl (nI 212), []) ::
  (262, .goto 19, 3, 281, 0, 0, .inl 0, []) :: s_X9_holds_265
def s_X9_holds_223 : List mE := (223, .aload_n 0, 1, 0, 0, 0, .inl 0, []) ::
  (224, .getfield 13, 3, 8, 14, 3, .inr (.inr (16, 925, 2)), [1210]) ::
  (227, .iload_n 3, 1, 3, 0, 0, .inl 0, []) ::
  (228, .iaload, 1, 0, 0, 0, .inl 0, []) ::
  (229, .bipush 50, 2, 0, 0, 0, .inl (nI 50), []) ::
  (231, .isub, 1, 0, 0, 0, .inl 0, []) ::
  (232, .istore 6, 2, 6, 0, 0, .inl 0, []) ::
  (234, .iload 6, 2, 6, 0, 0, .inl 0, []) ::
  (236, .bipush 18, 2, 0, 0, 0, .inl (nI 18), []) ::
  (238, .if_icmp .ne 7, 3, 245, 0, 0, .inl 0, []) ::
  (241, .iload_n 2, 1, 2, 0, 0, .inl 0, []) ::
  (242, .goto 43, 3, 285, 0, 0, .inl 0, []) :: s_X9_holds_245
def s_X9_holds_207 : List mE := (207, .aload_n 0, 1, 0, 0, 0, .inl 0, []) ::
  (208, .getfield 13, 3, 8, 14, 3, .inr (.inr (16, 925, 2)), [1210]) ::
  (211, .sipush 857, 3, 0, 0, 0, .inl (nI 857), []) ::
  (214, .iload_n 2, 1, 2, 0, 0, .inl 0, []) ::
  (215, .iadd, 1, 0, 0, 0, .inl 0, []) ::
  (216, .iaload, 1, 0, 0, 0, .inl 0, []) ::
  (217, .iload 4, 2, 4, 0, 0, .inl 0, []) ::
  (219, .invokestatic 250, 3, 169, 2, 1, .inl 0, [1543]) ::
  (222, .ireturn, 1, 1, 0, 0, .inl 0, []) :: s_X9_holds_223
def s_X9_holds_206 : List mE := (206, .ireturn, 1, 1, 0, 0, .inl 0, []) :: s_X9_holds_207
def s_X9_holds_205 : List mE := (205, .iconst 0, 1, 0, 0, 0, .inl (nI 0), []) :: s_X9_holds_206
def s_X9_holds_183 : List mE := (183, .aload_n 0, 1, 0, 0, 0, .inl 0, []) ::
  (184, .getfield 13, 3, 8, 14, 3, .inr (.inr (16, 925, 2)), [1210]) ::
  (187, .sipush 182, 3, 0, 0, 0, .inl (nI 182), []) ::
  (190, .iload_n 2, 1, 2, 0, 0, .inl 0, []) ::
  (191, .iload 4, 2, 4, 0, 0, .inl 0, []) ::
  (193, .invokestatic 182, 3, 148, 2, 1, .inl 0, [1437]) ::
  (196, .iadd, 1, 0, 0, 0, .inl 0, []) ::
  (197, .iaload, 1, 0, 0, 0, .inl 0, []) ::
  (198, .ifCond .le 7, 3, 205, 0, 0, .inl 0, []) ::
  (201, .iconst 1, 1, 0, 0, 0, .inl (nI 1), []) ::
  (202, .goto 4, 3, 206, 0, 0, .inl 0, []) :: s_X9_holds_205
def s_X9_holds_182 : List mE := (182, .ireturn, 1, 1, 0, 0, .inl 0, []) :: s_X9_holds_183
def s_X9_holds_181 : List mE := (181, .iconst 0, 1, 0, 0, 0, .inl (nI 0), []) :: s_X9_holds_182
def s_X9_holds_160 : List mE := (160, .aload_n 0, 1, 0, 0, 0, .inl 0, []) ::
  (161, .getfield 13, 3, 8, 14, 3, .inr (.inr (16, 925, 2)), [1210]) ::
  (164, .bipush 38, 2, 0, 0, 0, .inl (nI 38), []) ::
  (166, .iload_n 2, 1, 2, 0, 0, .inl 0, []) ::
  (167, .iload 4, 2, 4, 0, 0, .inl 0, []) ::
  (169, .invokestatic 182, 3, 148, 2, 1, .inl 0, [1437]) ::
  (172, .iadd, 1, 0, 0, 0, .inl 0, []) ::
  (173, .iaload, 1, 0, 0, 0, .inl 0, []) ::
  (174, .ifCond .le 7, 3, 181, 0, 0, .inl 0, []) ::
  (177, .iconst 1, 1, 0, 0, 0, .inl (nI 1), []) ::
  (178, .goto 4, 3, 182, 0, 0, .inl 0, []) :: s_X9_holds_181
def s_X9_holds_159 : List mE := (159, .ireturn, 1, 1, 0, 0, .inl 0, []) :: s_X9_holds_160
def s_X9_holds_158 : List mE := (158, .iconst 0, 1, 0, 0, 0, .inl (nI 0), []) :: s_X9_holds_159
def s_X9_holds_154 : List mE := (154, .iconst 1, 1, 0, 0, 0, .inl (nI 1), []) ::
  (155, .goto 4, 3, 159, 0, 0, .inl 0, []) :: s_X9_holds_158
def s_X9_holds_134 : List mE := (134, .aload_n 0, 1, 0, 0, 0, .inl 0, []) ::
  (135, .iload 4, 2, 4, 0, 0, .inl 0, []) ::
  (137, .iload_n 2, 1, 2, 0, 0, .inl 0, []) ::
  (138, .invokevirtual 399, 3, 170, 3, 1, .inl 0, [1791, 8]) ::
  (141, .ifCond .ne 13, 3, 154, 0, 0, .inl 0, []) ::
  (144, .aload_n 0, 1, 0, 0, 0, .inl 0, []) ::
  (145, .iload 5, 2, 5, 0, 0, .inl 0, []) ::
  (147, .iload_n 2, 1, 2, 0, 0, .inl 0, []) ::
  (148, .invokevirtual 399, 3, 170, 3, 1, .inl 0, [1791, 8]) ::
  (151, .ifCond .eq 7, 3, 158, 0, 0, .inl 0, []) :: s_X9_holds_154
def s_X9_holds_133 : List mE := (133, .ireturn, 1, 1, 0, 0, .inl 0, []) :: s_X9_holds_134
def s_X9_holds_132 : List mE := (132, .iconst 0, 1, 0, 0, 0, .inl (nI 0), []) :: s_X9_holds_133
def s_X9_holds_108 : List mE := (108, .aload_n 0, 1, 0, 0, 0, .inl 0, []) ::
  (109, .iload 4, 2, 4, 0, 0, .inl 0, []) ::
  (111, .iload_n 2, 1, 2, 0, 0, .inl 0, []) ::
  (112, .invokevirtual 399, 3, 170, 3, 1, .inl 0, [1791, 8]) ::
  (115, .ifCond .eq 17, 3, 132, 0, 0, .inl 0, []) ::
  (118, .aload_n 0, 1, 0, 0, 0, .inl 0, []) ::
  (119, .iload 5, 2, 5, 0, 0, .inl 0, []) ::
  (121, .iload_n 2, 1, 2, 0, 0, .inl 0, []) ::
  (122, .invokevirtual 399, 3, 170, 3, 1, .inl 0, [1791, 8]) ::
  (125, .ifCond .eq 7, 3, 132, 0, 0, .inl 0, []) ::
  (128, .iconst 1, 1, 0, 0, 0, .inl (nI 1), []) ::
  (129, .goto 4, 3, 133, 0, 0, .inl 0, []) :: s_X9_holds_132
def s_X9_holds_107 : List mE := (107, .ireturn, 1, 1, 0, 0, .inl 0, []) :: s_X9_holds_108
def s_X9_holds_106 : List mE := (106, .iconst 0, 1, 0, 0, 0, .inl (nI 0), []) :: s_X9_holds_107
def s_X9_holds_92 : List mE := (92, .aload_n 0, 1, 0, 0, 0, .inl 0, []) ::
  (93, .iload 4, 2, 4, 0, 0, .inl 0, []) ::
  (95, .iload_n 2, 1, 2, 0, 0, .inl 0, []) ::
  (96, .invokevirtual 399, 3, 170, 3, 1, .inl 0, [1791, 8]) ::
  (99, .ifCond .ne 7, 3, 106, 0, 0, .inl 0, []) ::
  (102, .iconst 1, 1, 0, 0, 0, .inl (nI 1), []) ::
  (103, .goto 4, 3, 107, 0, 0, .inl 0, []) :: s_X9_holds_106
def s_X9_holds_0 : List mE := (0, .sipush 381, 3, 0, 0, 0, .inl (nI 381), []) ::
  (3, .iconst 4, 1, 0, 0, 0, .inl (nI 4), []) ::
  (4, .iload_n 1, 1, 1, 0, 0, .inl 0, []) ::
  (5, .imul, 1, 0, 0, 0, .inl 0, []) ::
  (6, .iadd, 1, 0, 0, 0, .inl 0, []) ::
  (7, .istore_n 3, 1, 3, 0, 0, .inl 0, []) ::
  (8, .aload_n 0, 1, 0, 0, 0, .inl 0, []) ::
  (9, .getfield 13, 3, 8, 14, 3, .inr (.inr (16, 925, 2)), [1210]) ::
  (12, .iload_n 3, 1, 3, 0, 0, .inl 0, []) ::
  (13, .iconst 1, 1, 0, 0, 0, .inl (nI 1), []) ::
  (14, .iadd, 1, 0, 0, 0, .inl 0, []) ::
  (15, .iaload, 1, 0, 0, 0, .inl 0, []) ::
  (16, .istore 4, 2, 4, 0, 0, .inl 0, []) ::
  (18, .aload_n 0, 1, 0, 0, 0, .inl 0, []) ::
  (19, .getfield 13, 3, 8, 14, 3, .inr (.inr (16, 925, 2)), [1210]) ::
  (22, .iload_n 3, 1, 3, 0, 0, .inl 0, []) ::
  (23, .iconst 2, 1, 0, 0, 0, .inl (nI 2), []) ::
  (24, .iadd, 1, 0, 0, 0, .inl 0, []) ::
  (25, .iaload, 1, 0, 0, 0, .inl 0, []) ::
  (26, .istore 5, 2, 5, 0, 0, .inl 0, []) ::
  (28, .aload_n 0, 1, 0, 0, 0, .inl 0, []) ::
  (29, .getfield 13, 3, 8, 14, 3, .inr (.inr (16, 925, 2)), [1210]) ::
  (32, .iload_n 3, 1, 3, 0, 0, .inl 0, []) ::
  (33, .iaload, 1, 0, 0, 0, .inl 0, []) ::
  (34, .lookupswitch 189 #[(1, 58), (2, 74), (3, 100), (62, 126), (63, 149), (64, 173)], 58, 223, 0, 0, .inl 0, [1, 92, 2, 108, 3, 134, 62, 160, 63, 183, 64, 207]) :: s_X9_holds_92
def k_X9_holds : List mE := s_X9_holds_0
set_option maxRecDepth 100000 in
theorem t_X9_holds_0 : dropTo 0 k_X9_holds = s_X9_holds_0 := rfl
set_option maxRecDepth 100000 in
theorem t_X9_holds_92 : dropTo 92 k_X9_holds = s_X9_holds_92 := rfl
set_option maxRecDepth 100000 in
theorem t_X9_holds_106 : dropTo 106 k_X9_holds = s_X9_holds_106 := rfl
set_option maxRecDepth 100000 in
theorem t_X9_holds_107 : dropTo 107 k_X9_holds = s_X9_holds_107 := rfl
set_option maxRecDepth 100000 in
theorem t_X9_holds_108 : dropTo 108 k_X9_holds = s_X9_holds_108 := rfl
set_option maxRecDepth 100000 in
theorem t_X9_holds_132 : dropTo 132 k_X9_holds = s_X9_holds_132 := rfl
set_option maxRecDepth 100000 in
theorem t_X9_holds_133 : dropTo 133 k_X9_holds = s_X9_holds_133 := rfl
set_option maxRecDepth 100000 in
theorem t_X9_holds_134 : dropTo 134 k_X9_holds = s_X9_holds_134 := rfl
set_option maxRecDepth 100000 in
theorem t_X9_holds_154 : dropTo 154 k_X9_holds = s_X9_holds_154 := rfl
set_option maxRecDepth 100000 in
theorem t_X9_holds_158 : dropTo 158 k_X9_holds = s_X9_holds_158 := rfl
set_option maxRecDepth 100000 in
theorem t_X9_holds_159 : dropTo 159 k_X9_holds = s_X9_holds_159 := rfl
set_option maxRecDepth 100000 in
theorem t_X9_holds_160 : dropTo 160 k_X9_holds = s_X9_holds_160 := rfl
set_option maxRecDepth 100000 in
theorem t_X9_holds_181 : dropTo 181 k_X9_holds = s_X9_holds_181 := rfl
set_option maxRecDepth 100000 in
theorem t_X9_holds_182 : dropTo 182 k_X9_holds = s_X9_holds_182 := rfl
set_option maxRecDepth 100000 in
theorem t_X9_holds_183 : dropTo 183 k_X9_holds = s_X9_holds_183 := rfl
set_option maxRecDepth 100000 in
theorem t_X9_holds_205 : dropTo 205 k_X9_holds = s_X9_holds_205 := rfl
set_option maxRecDepth 100000 in
theorem t_X9_holds_206 : dropTo 206 k_X9_holds = s_X9_holds_206 := rfl
set_option maxRecDepth 100000 in
theorem t_X9_holds_207 : dropTo 207 k_X9_holds = s_X9_holds_207 := rfl
set_option maxRecDepth 100000 in
theorem t_X9_holds_223 : dropTo 223 k_X9_holds = s_X9_holds_223 := rfl
set_option maxRecDepth 100000 in
theorem t_X9_holds_245 : dropTo 245 k_X9_holds = s_X9_holds_245 := rfl
set_option maxRecDepth 100000 in
theorem t_X9_holds_265 : dropTo 265 k_X9_holds = s_X9_holds_265 := rfl
set_option maxRecDepth 100000 in
theorem t_X9_holds_278 : dropTo 278 k_X9_holds = s_X9_holds_278 := rfl
set_option maxRecDepth 100000 in
theorem t_X9_holds_281 : dropTo 281 k_X9_holds = s_X9_holds_281 := rfl
set_option maxRecDepth 100000 in
theorem t_X9_holds_285 : dropTo 285 k_X9_holds = s_X9_holds_285 := rfl
set_option maxRecDepth 100000 in
theorem t_X9_holds_311 : dropTo 311 k_X9_holds = s_X9_holds_311 := rfl
set_option maxRecDepth 100000 in
theorem t_X9_holds_315 : dropTo 315 k_X9_holds = s_X9_holds_315 := rfl
set_option maxRecDepth 100000 in
theorem t_X9_holds_339 : dropTo 339 k_X9_holds = s_X9_holds_339 := rfl
set_option maxRecDepth 100000 in
theorem t_X9_holds_343 : dropTo 343 k_X9_holds = s_X9_holds_343 := rfl
set_option maxRecDepth 100000 in
theorem t_X9_holds_354 : dropTo 354 k_X9_holds = s_X9_holds_354 := rfl
set_option maxRecDepth 100000 in
theorem t_X9_holds_355 : dropTo 355 k_X9_holds = s_X9_holds_355 := rfl
theorem ok_X9_holds : mOkF m_X9_holds k_X9_holds = true := by decide +kernel
theorem cm_X9_holds : mChkM m_X9_holds = true := by decide +kernel
def s_X9_hour_400 : List mE := (400, .aload_n 1, 1, 1, 0, 0, .inl 0, []) ::
  (401, .iload_n 2, 1, 2, 0, 0, .inl 0, []) ::
  (402, .iconst 1, 1, 0, 0, 0, .inl (nI 1), []) ::
  (403, .iadd, 1, 0, 0, 0, .inl 0, []) ::
  (404, .dup2, 1, 0, 0, 0, .inl 0, []) ::
  (405, .iaload, 1, 0, 0, 0, .inl 0, []) ::
  (406, .iconst 1, 1, 0, 0, 0, .inl (nI 1), []) ::
  (407, .iadd, 1, 0, 0, 0, .inl 0, []) ::
  (408, .iastore, 1, 0, 0, 0, .inl 0, []) ::
  (409, .return_, 1, 0, 0, 0, .inl 0, []) :: []
def s_X9_hour_393 : List mE := (393, .iastore, 1, 0, 0, 0, .inl 0, []) ::
  (394, .iinc 5 1, 3, 5, 0, 0, .inl (nI 1), []) ::
  (397, .goto (-133), 3, 264, 0, 0, .inl 0, []) :: s_X9_hour_400
def s_X9_hour_392 : List mE := (392, .iconst 0, 1, 0, 0, 0, .inl (nI 0), []) :: s_X9_hour_393
def s_X9_hour_367 : List mE := (367, .iastore, 1, 0, 0, 0, .inl 0, []) ::
  (368, .aload_n 1, 1, 1, 0, 0, .inl 0, []) ::
  (369, .iload_n 2, 1, 2, 0, 0, .inl 0, []) ::
  (370, .sipush 206, 3, 0, 0, 0, .inl (nI 206), []) ::
  (373, .iadd, 1, 0, 0, 0, .inl 0, []) ::
  (374, .iload 5, 2, 5, 0, 0, .inl 0, []) ::
  (376, .iadd, 1, 0, 0, 0, .inl 0, []) ::
  (377, .iload 6, 2, 6, 0, 0, .inl 0, []) ::
  (379, .ifCond .eq 13, 3, 392, 0, 0, .inl 0, []) ::
  (382, .aload_n 0, 1, 0, 0, 0, .inl 0, []) ::
  (383, .getfield 51, 3, 8, 26, 3, .inr (.inr (16, 6, 14)), [1222]) ::
  (386, .iload 5, 2, 5, 0, 0, .inl 0, []) ::
  (388, .iaload, 1, 0, 0, 0, .inl 0, []) ::
  (389, .goto 4, 3, 393, 0, 0, .inl 0, []) :: s_X9_hour_392
def s_X9_hour_366 : List mE := (366, .iconst 0, 1, 0, 0, 0, .inl (nI 0), []) :: s_X9_hour_367
def s_X9_hour_341 : List mE := (341, .iastore, 1, 0, 0, 0, .inl 0, []) ::
  (342, .aload_n 1, 1, 1, 0, 0, .inl 0, []) ::
  (343, .iload_n 2, 1, 2, 0, 0, .inl 0, []) ::
  (344, .sipush 200, 3, 0, 0, 0, .inl (nI 200), []) ::
  (347, .iadd, 1, 0, 0, 0, .inl 0, []) ::
  (348, .iload 5, 2, 5, 0, 0, .inl 0, []) ::
  (350, .iadd, 1, 0, 0, 0, .inl 0, []) ::
  (351, .iload 6, 2, 6, 0, 0, .inl 0, []) ::
  (353, .ifCond .eq 13, 3, 366, 0, 0, .inl 0, []) ::
  (356, .aload_n 0, 1, 0, 0, 0, .inl 0, []) ::
  (357, .getfield 48, 3, 8, 25, 3, .inr (.inr (16, 6, 13)), [1221]) ::
  (360, .iload 5, 2, 5, 0, 0, .inl 0, []) ::
  (362, .iaload, 1, 0, 0, 0, .inl 0, []) ::
  (363, .goto 4, 3, 367, 0, 0, .inl 0, []) :: s_X9_hour_366
def s_X9_hour_340 : List mE := (340, .iconst 0, 1, 0, 0, 0, .inl (nI 0), []) :: s_X9_hour_341
def s_X9_hour_316 : List mE := (316, .aload_n 1, 1, 1, 0, 0, .inl 0, []) ::
  (317, .iload_n 2, 1, 2, 0, 0, .inl 0, []) ::
  (318, .sipush 194, 3, 0, 0, 0, .inl (nI 194), []) ::
  (321, .iadd, 1, 0, 0, 0, .inl 0, []) ::
  (322, .iload 5, 2, 5, 0, 0, .inl 0, []) ::
  (324, .iadd, 1, 0, 0, 0, .inl 0, []) ::
  (325, .iload 6, 2, 6, 0, 0, .inl 0, []) ::
  (327, .ifCond .eq 13, 3, 340, 0, 0, .inl 0, []) ::
  (330, .aload_n 0, 1, 0, 0, 0, .inl 0, []) ::
  (331, .getfield 45, 3, 8, 24, 3, .inr (.inr (16, 6, 12)), [1220]) ::
  (334, .iload 5, 2, 5, 0, 0, .inl 0, []) ::
  (336, .iaload, 1, 0, 0, 0, .inl 0, []) ::
  (337, .goto 4, 3, 341, 0, 0, .inl 0, []) :: s_X9_hour_340
def s_X9_hour_289 : List mE := (289, .istore 6, 2, 6, 0, 0, .inl 0, []) ::
  (291, .iload 6, 2, 6, 0, 0, .inl 0, []) ::
  (293, .ifCond .ne 23, 3, 316, 0, 0, .inl 0, []) ::
  (296, .aload_n 1, 1, 1, 0, 0, .inl 0, []) ::
  (297, .iload_n 2, 1, 2, 0, 0, .inl 0, []) ::
  (298, .sipush 290, 3, 0, 0, 0, .inl (nI 290), []) ::
  (301, .iadd, 1, 0, 0, 0, .inl 0, []) ::
  (302, .iload 5, 2, 5, 0, 0, .inl 0, []) ::
  (304, .iadd, 1, 0, 0, 0, .inl 0, []) ::
  (305, .dup2, 1, 0, 0, 0, .inl 0, []) ::
  (306, .iaload, 1, 0, 0, 0, .inl 0, []) ::
  (307, .aload_n 0, 1, 0, 0, 0, .inl 0, []) ::
  (308, .getfield 45, 3, 8, 24, 3, .inr (.inr (16, 6, 12)), [1220]) ::
  (311, .iload 5, 2, 5, 0, 0, .inl 0, []) ::
  (313, .iaload, 1, 0, 0, 0, .inl 0, []) ::
  (314, .iadd, 1, 0, 0, 0, .inl 0, []) ::
  (315, .iastore, 1, 0, 0, 0, .inl 0, []) :: s_X9_hour_316
def s_X9_hour_288 : List mE := (288, .iconst 0, 1, 0, 0, 0, .inl (nI 0), []) :: s_X9_hour_289
def s_X9_hour_264 : List mE := (264, .iload 5, 2, 5, 0, 0, .inl 0, []) ::
  (266, .aload_n 0, 1, 0, 0, 0, .inl 0, []) ::
  (267, .getfield 39, 3, 8, 22, 3, .inr (.inr (16, 278, 10)), [1218]) ::
  (270, .iconst 0, 1, 0, 0, 0, .inl (nI 0), []) ::
  (271, .iaload, 1, 0, 0, 0, .inl 0, []) ::
  (272, .if_icmp .ge 128, 3, 400, 0, 0, .inl 0, []) ::
  (275, .aload_n 0, 1, 0, 0, 0, .inl 0, []) ::
  (276, .getfield 39, 3, 8, 22, 3, .inr (.inr (16, 278, 10)), [1218]) ::
  (279, .iconst 2, 1, 0, 0, 0, .inl (nI 2), []) ::
  (280, .iaload, 1, 0, 0, 0, .inl 0, []) ::
  (281, .ifCond .le 7, 3, 288, 0, 0, .inl 0, []) ::
  (284, .iconst 1, 1, 0, 0, 0, .inl (nI 1), []) ::
  (285, .goto 4, 3, 289, 0, 0, .inl 0, []) :: s_X9_hour_288
def s_X9_hour_261 : List mE := (261, .iconst 0, 1, 0, 0, 0, .inl (nI 0), []) ::
  (262, .istore 5, 2, 5, 0, 0, .inl 0, []) :: s_X9_hour_264
def s_X9_hour_255 : List mE := (255, .iinc 5 1, 3, 5, 0, 0, .inl (nI 1), []) ::
  (258, .goto (-139), 3, 119, 0, 0, .inl 0, []) :: s_X9_hour_261
def s_X9_hour_221 : List mE := (221, .iload 7, 2, 7, 0, 0, .inl 0, []) ::
  (223, .aload_n 0, 1, 0, 0, 0, .inl 0, []) ::
  (224, .getfield 39, 3, 8, 22, 3, .inr (.inr (16, 278, 10)), [1218]) ::
  (227, .iconst 0, 1, 0, 0, 0, .inl (nI 0), []) ::
  (228, .iaload, 1, 0, 0, 0, .inl 0, []) ::
  (229, .if_icmp .ge 26, 3, 255, 0, 0, .inl 0, []) ::
  (232, .iload 5, 2, 5, 0, 0, .inl 0, []) ::
  (234, .iload 4, 2, 4, 0, 0, .inl 0, []) ::
  (236, .iconst 1, 1, 0, 0, 0, .inl (nI 1), []) ::
  (237, .isub, 1, 0, 0, 0, .inl 0, []) ::
  (238, .if_icmp .ge 17, 3, 255, 0, 0, .inl 0, []) ::
  (241, .aload_n 0, 1, 0, 0, 0, .inl 0, []) ::
  (242, .aload_n 1, 1, 1, 0, 0, .inl 0, []) ::
  (243, .iload_n 2, 1, 2, 0, 0, .inl 0, []) ::
  (244, .iload 7, 2, 7, 0, 0, .inl 0, []) ::
  (246, .invokevirtual 260, 3, 201, 4, 0, .inl 0, [1531, 8]) ::
  (249, .iinc 7 1, 3, 7, 0, 0, .inl (nI 1), []) ::
  (252, .goto (-31), 3, 221, 0, 0, .inl 0, []) :: s_X9_hour_255
def s_X9_hour_218 : List mE := (218, .iconst 0, 1, 0, 0, 0, .inl (nI 0), []) ::
  (219, .istore 7, 2, 7, 0, 0, .inl 0, []) :: s_X9_hour_221
def s_X9_hour_204 : List mE := (204, .aload_n 1, 1, 1, 0, 0, .inl 0, []) ::
  (205, .iload_n 2, 1, 2, 0, 0, .inl 0, []) ::
  (206, .sipush 220, 3, 0, 0, 0, .inl (nI 220), []) ::
  (209, .iadd, 1, 0, 0, 0, .inl 0, []) ::
  (210, .iload 5, 2, 5, 0, 0, .inl 0, []) ::
  (212, .iadd, 1, 0, 0, 0, .inl 0, []) ::
  (213, .dup2, 1, 0, 0, 0, .inl 0, []) ::
  (214, .iaload, 1, 0, 0, 0, .inl 0, []) ::
  (215, .iconst 1, 1, 0, 0, 0, .inl (nI 1), []) ::
  (216, .iadd, 1, 0, 0, 0, .inl 0, []) ::
  (217, .iastore, 1, 0, 0, 0, .inl 0, []) :: s_X9_hour_218
def s_X9_hour_186 : List mE := (186, .iastore, 1, 0, 0, 0, .inl 0, []) ::
  (187, .iload 6, 2, 6, 0, 0, .inl 0, []) ::
  (189, .ifCond .eq 15, 3, 204, 0, 0, .inl 0, []) ::
  (192, .aload_n 0, 1, 0, 0, 0, .inl 0, []) ::
  (193, .aload_n 1, 1, 1, 0, 0, .inl 0, []) ::
  (194, .iload_n 2, 1, 2, 0, 0, .inl 0, []) ::
  (195, .iload 5, 2, 5, 0, 0, .inl 0, []) ::
  (197, .iload_n 3, 1, 3, 0, 0, .inl 0, []) ::
  (198, .invokevirtual 271, 3, 163, 5, 0, .inl 0, [1550, 8]) ::
  (201, .goto 17, 3, 218, 0, 0, .inl 0, []) :: s_X9_hour_204
def s_X9_hour_185 : List mE := (185, .iconst 0, 1, 0, 0, 0, .inl (nI 0), []) :: s_X9_hour_186
def s_X9_hour_156 : List mE := (156, .aload_n 0, 1, 0, 0, 0, .inl 0, []) ::
  (157, .aload_n 1, 1, 1, 0, 0, .inl 0, []) ::
  (158, .iload_n 2, 1, 2, 0, 0, .inl 0, []) ::
  (159, .iload 5, 2, 5, 0, 0, .inl 0, []) ::
  (161, .iload_n 3, 1, 3, 0, 0, .inl 0, []) ::
  (162, .invokevirtual 267, 3, 206, 5, 1, .inl 0, [1539, 8]) ::
  (165, .istore 6, 2, 6, 0, 0, .inl 0, []) ::
  (167, .aload_n 1, 1, 1, 0, 0, .inl 0, []) ::
  (168, .iload_n 2, 1, 2, 0, 0, .inl 0, []) ::
  (169, .sipush 252, 3, 0, 0, 0, .inl (nI 252), []) ::
  (172, .iadd, 1, 0, 0, 0, .inl 0, []) ::
  (173, .iload 5, 2, 5, 0, 0, .inl 0, []) ::
  (175, .iadd, 1, 0, 0, 0, .inl 0, []) ::
  (176, .iload 6, 2, 6, 0, 0, .inl 0, []) ::
  (178, .ifCond .eq 7, 3, 185, 0, 0, .inl 0, []) ::
  (181, .iconst 1, 1, 0, 0, 0, .inl (nI 1), []) ::
  (182, .goto 4, 3, 186, 0, 0, .inl 0, []) :: s_X9_hour_185
def s_X9_hour_129 : List mE := (129, .iload 6, 2, 6, 0, 0, .inl 0, []) ::
  (131, .aload_n 0, 1, 0, 0, 0, .inl 0, []) ::
  (132, .getfield 39, 3, 8, 22, 3, .inr (.inr (16, 278, 10)), [1218]) ::
  (135, .iconst 0, 1, 0, 0, 0, .inl (nI 0), []) ::
  (136, .iaload, 1, 0, 0, 0, .inl 0, []) ::
  (137, .if_icmp .ge 19, 3, 156, 0, 0, .inl 0, []) ::
  (140, .aload_n 0, 1, 0, 0, 0, .inl 0, []) ::
  (141, .aload_n 1, 1, 1, 0, 0, .inl 0, []) ::
  (142, .iload_n 2, 1, 2, 0, 0, .inl 0, []) ::
  (143, .iload 5, 2, 5, 0, 0, .inl 0, []) ::
  (145, .iload 6, 2, 6, 0, 0, .inl 0, []) ::
  (147, .invokevirtual 263, 3, 160, 5, 0, .inl 0, [1535, 8]) ::
  (150, .iinc 6 1, 3, 6, 0, 0, .inl (nI 1), []) ::
  (153, .goto (-24), 3, 129, 0, 0, .inl 0, []) :: s_X9_hour_156
def s_X9_hour_119 : List mE := (119, .iload 5, 2, 5, 0, 0, .inl 0, []) ::
  (121, .iload 4, 2, 4, 0, 0, .inl 0, []) ::
  (123, .if_icmp .ge 138, 3, 261, 0, 0, .inl 0, []) ::
  (126, .iconst 0, 1, 0, 0, 0, .inl (nI 0), []) ::
  (127, .istore 6, 2, 6, 0, 0, .inl 0, []) :: s_X9_hour_129
def s_X9_hour_116 : List mE := (116, .iconst 0, 1, 0, 0, 0, .inl (nI 0), []) ::
  (117, .istore 5, 2, 5, 0, 0, .inl 0, []) :: s_X9_hour_119
def s_X9_hour_110 : List mE := (110, .iinc 5 1, 3, 5, 0, 0, .inl (nI 1), []) ::
  (113, .goto (-82), 3, 31, 0, 0, .inl 0, []) :: s_X9_hour_116
def s_X9_hour_31 : List mE := (31, .iload 5, 2, 5, 0, 0, .inl 0, []) ::
  (33, .aload_n 0, 1, 0, 0, 0, .inl 0, []) ::
  (34, .getfield 39, 3, 8, 22, 3, .inr (.inr (16, 278, 10)), [1218]) ::
  (37, .iconst 0, 1, 0, 0, 0, .inl (nI 0), []) ::
  (38, .iaload, 1, 0, 0, 0, .inl 0, []) ::
  (39, .if_icmp .ge 77, 3, 116, 0, 0, .inl 0, []) ::
  (42, .aload_n 0, 1, 0, 0, 0, .inl 0, []) ::
  (43, .getfield 45, 3, 8, 24, 3, .inr (.inr (16, 6, 12)), [1220]) ::
  (46, .iload 5, 2, 5, 0, 0, .inl 0, []) ::
  (48, .aload_n 1, 1, 1, 0, 0, .inl 0, []) ::
  (49, .iload_n 2, 1, 2, 0, 0, .inl 0, []) ::
  (50, .sipush 194, 3, 0, 0, 0, .inl (nI 194), []) ::
  (53, .iadd, 1, 0, 0, 0, .inl 0, []) ::
  (54, .iload 5, 2, 5, 0, 0, .inl 0, []) ::
  (56, .iadd, 1, 0, 0, 0, .inl 0, []) ::
  (57, .iaload, 1, 0, 0, 0, .inl 0, []) ::
  (58, .iastore, 1, 0, 0, 0, .inl 0, []) ::
  (59, .aload_n 0, 1, 0, 0, 0, .inl 0, []) ::
  (60, .getfield 48, 3, 8, 25, 3, .inr (.inr (16, 6, 13)), [1221]) ::
  (63, .iload 5, 2, 5, 0, 0, .inl 0, []) ::
  (65, .aload_n 1, 1, 1, 0, 0, .inl 0, []) ::
  (66, .iload_n 2, 1, 2, 0, 0, .inl 0, []) ::
  (67, .sipush 200, 3, 0, 0, 0, .inl (nI 200), []) ::
  (70, .iadd, 1, 0, 0, 0, .inl 0, []) ::
  (71, .iload 5, 2, 5, 0, 0, .inl 0, []) ::
  (73, .iadd, 1, 0, 0, 0, .inl 0, []) ::
  (74, .iaload, 1, 0, 0, 0, .inl 0, []) ::
  (75, .iastore, 1, 0, 0, 0, .inl 0, []) ::
  (76, .aload_n 0, 1, 0, 0, 0, .inl 0, []) ::
  (77, .getfield 51, 3, 8, 26, 3, .inr (.inr (16, 6, 14)), [1222]) ::
  (80, .iload 5, 2, 5, 0, 0, .inl 0, []) ::
  (82, .aload_n 1, 1, 1, 0, 0, .inl 0, []) ::
  (83, .iload_n 2, 1, 2, 0, 0, .inl 0, []) ::
  (84, .sipush 206, 3, 0, 0, 0, .inl (nI 206), []) ::
  (87, .iadd, 1, 0, 0, 0, .inl 0, []) ::
  (88, .iload 5, 2, 5, 0, 0, .inl 0, []) ::
  (90, .iadd, 1, 0, 0, 0, .inl 0, []) ::
  (91, .iaload, 1, 0, 0, 0, .inl 0, []) ::
  (92, .iastore, 1, 0, 0, 0, .inl 0, []) ::
  (93, .aload_n 0, 1, 0, 0, 0, .inl 0, []) ::
  (94, .getfield 39, 3, 8, 22, 3, .inr (.inr (16, 278, 10)), [1218]) ::
  (97, .iconst 2, 1, 0, 0, 0, .inl (nI 2), []) ::
  (98, .iaload, 1, 0, 0, 0, .inl 0, []) ::
  (99, .ifCond .le 11, 3, 110, 0, 0, .inl 0, []) ::
  (102, .aload_n 0, 1, 0, 0, 0, .inl 0, []) ::
  (103, .aload_n 1, 1, 1, 0, 0, .inl 0, []) ::
  (104, .iload_n 2, 1, 2, 0, 0, .inl 0, []) ::
  (105, .iload 5, 2, 5, 0, 0, .inl 0, []) ::
  (107, .invokevirtual 260, 3, 201, 4, 0, .inl 0, [1531, 8]) :: s_X9_hour_110
def s_X9_hour_28 : List mE := (28, .iconst 0, 1, 0, 0, 0, .inl (nI 0), []) ::
  (29, .istore 5, 2, 5, 0, 0, .inl 0, []) :: s_X9_hour_31
def s_X9_hour_0 : List mE := (0, .aload_n 1, 1, 1, 0, 0, .inl 0, []) ::
  (1, .iload_n 2, 1, 2, 0, 0, .inl 0, []) ::
  (2, .iconst 1, 1, 0, 0, 0, .inl (nI 1), []) ::
  (3, .iadd, 1, 0, 0, 0, .inl 0, []) ::
  (4, .iaload, 1, 0, 0, 0, .inl 0, []) ::
  (5, .istore_n 3, 1, 3, 0, 0, .inl 0, []) ::
  (6, .aload_n 0, 1, 0, 0, 0, .inl 0, []) ::
  (7, .getfield 39, 3, 8, 22, 3, .inr (.inr (16, 278, 10)), [1218]) ::
  (10, .iconst 1, 1, 0, 0, 0, .inl (nI 1), []) ::
  (11, .iaload, 1, 0, 0, 0, .inl 0, []) ::
  (12, .istore 4, 2, 4, 0, 0, .inl 0, []) ::
  (14, .aload_n 0, 1, 0, 0, 0, .inl 0, []) ::
  (15, .getfield 243, 3, 8, 29, 2, .inl 0, [1225]) ::
  (18, .ifCond .eq 10, 3, 28, 0, 0, .inl 0, []) ::
  (21, .aload_n 0, 1, 0, 0, 0, .inl 0, []) ::
  (22, .aload_n 1, 1, 1, 0, 0, .inl 0, []) ::
  (23, .iload_n 2, 1, 2, 0, 0, .inl 0, []) ::
  (24, .iload_n 3, 1, 3, 0, 0, .inl 0, []) ::
  (25, .invokevirtual 256, 3, 144, 4, 0, .inl 0, [1524, 8]) :: s_X9_hour_28
def k_X9_hour : List mE := s_X9_hour_0
set_option maxRecDepth 100000 in
theorem t_X9_hour_0 : dropTo 0 k_X9_hour = s_X9_hour_0 := rfl
set_option maxRecDepth 100000 in
theorem t_X9_hour_28 : dropTo 28 k_X9_hour = s_X9_hour_28 := rfl
set_option maxRecDepth 100000 in
theorem t_X9_hour_31 : dropTo 31 k_X9_hour = s_X9_hour_31 := rfl
set_option maxRecDepth 100000 in
theorem t_X9_hour_110 : dropTo 110 k_X9_hour = s_X9_hour_110 := rfl
set_option maxRecDepth 100000 in
theorem t_X9_hour_116 : dropTo 116 k_X9_hour = s_X9_hour_116 := rfl
set_option maxRecDepth 100000 in
theorem t_X9_hour_119 : dropTo 119 k_X9_hour = s_X9_hour_119 := rfl
set_option maxRecDepth 100000 in
theorem t_X9_hour_129 : dropTo 129 k_X9_hour = s_X9_hour_129 := rfl
set_option maxRecDepth 100000 in
theorem t_X9_hour_156 : dropTo 156 k_X9_hour = s_X9_hour_156 := rfl
set_option maxRecDepth 100000 in
theorem t_X9_hour_185 : dropTo 185 k_X9_hour = s_X9_hour_185 := rfl
set_option maxRecDepth 100000 in
theorem t_X9_hour_186 : dropTo 186 k_X9_hour = s_X9_hour_186 := rfl
set_option maxRecDepth 100000 in
theorem t_X9_hour_204 : dropTo 204 k_X9_hour = s_X9_hour_204 := rfl
set_option maxRecDepth 100000 in
theorem t_X9_hour_218 : dropTo 218 k_X9_hour = s_X9_hour_218 := rfl
set_option maxRecDepth 100000 in
theorem t_X9_hour_221 : dropTo 221 k_X9_hour = s_X9_hour_221 := rfl
set_option maxRecDepth 100000 in
theorem t_X9_hour_255 : dropTo 255 k_X9_hour = s_X9_hour_255 := rfl
set_option maxRecDepth 100000 in
theorem t_X9_hour_261 : dropTo 261 k_X9_hour = s_X9_hour_261 := rfl
set_option maxRecDepth 100000 in
theorem t_X9_hour_264 : dropTo 264 k_X9_hour = s_X9_hour_264 := rfl
set_option maxRecDepth 100000 in
theorem t_X9_hour_288 : dropTo 288 k_X9_hour = s_X9_hour_288 := rfl
set_option maxRecDepth 100000 in
theorem t_X9_hour_289 : dropTo 289 k_X9_hour = s_X9_hour_289 := rfl
set_option maxRecDepth 100000 in
theorem t_X9_hour_316 : dropTo 316 k_X9_hour = s_X9_hour_316 := rfl
set_option maxRecDepth 100000 in
theorem t_X9_hour_340 : dropTo 340 k_X9_hour = s_X9_hour_340 := rfl
set_option maxRecDepth 100000 in
theorem t_X9_hour_341 : dropTo 341 k_X9_hour = s_X9_hour_341 := rfl
set_option maxRecDepth 100000 in
theorem t_X9_hour_366 : dropTo 366 k_X9_hour = s_X9_hour_366 := rfl
set_option maxRecDepth 100000 in
theorem t_X9_hour_367 : dropTo 367 k_X9_hour = s_X9_hour_367 := rfl
set_option maxRecDepth 100000 in
theorem t_X9_hour_392 : dropTo 392 k_X9_hour = s_X9_hour_392 := rfl
set_option maxRecDepth 100000 in
theorem t_X9_hour_393 : dropTo 393 k_X9_hour = s_X9_hour_393 := rfl
set_option maxRecDepth 100000 in
theorem t_X9_hour_400 : dropTo 400 k_X9_hour = s_X9_hour_400 := rfl
theorem ok_X9_hour : mOkF m_X9_hour k_X9_hour = true := by decide +kernel
theorem cm_X9_hour : mChkM m_X9_hour = true := by decide +kernel
def s_X9_hour__24 : List mE := (24, .ireturn, 1, 0, 0, 0, .inl 0, []) :: []
def s_X9_hour__23 : List mE := (23, .iconst (-1), 1, 0, 0, 0, .inl (-1), []) :: s_X9_hour__24
def s_X9_hour__0 : List mE := (0, .aload_n 0, 1, 0, 0, 0, .inl 0, []) ::
  (1, .iconst 0, 1, 0, 0, 0, .inl (nI 0), []) ::
  (2, .putfield 76, 3, 8, 0, 0, .inl 0, [1196]) ::
  (5, .aload_n 0, 1, 0, 0, 0, .inl 0, []) ::
  (6, .invokevirtual 288, 3, 180, 1, 1, .inl 0, [1516, 8]) ::
  (9, .ifCond .eq 14, 3, 23, 0, 0, .inl 0, []) ::
  (12, .aload_n 0, 1, 0, 0, 0, .inl 0, []) ::
  (13, .getfield 13, 3, 8, 14, 3, .inr (.inr (16, 925, 2)), [1210]) ::
  (16, .sipush 622, 3, 0, 0, 0, .inl (nI 622), []) ::
  (19, .iaload, 1, 0, 0, 0, .inl 0, []) ::
  (20, .goto 4, 3, 24, 0, 0, .inl 0, []) :: s_X9_hour__23
def k_X9_hour_ : List mE := s_X9_hour__0
set_option maxRecDepth 100000 in
theorem t_X9_hour__0 : dropTo 0 k_X9_hour_ = s_X9_hour__0 := rfl
set_option maxRecDepth 100000 in
theorem t_X9_hour__23 : dropTo 23 k_X9_hour_ = s_X9_hour__23 := rfl
set_option maxRecDepth 100000 in
theorem t_X9_hour__24 : dropTo 24 k_X9_hour_ = s_X9_hour__24 := rfl
theorem ok_X9_hour_ : mOkF m_X9_hour_ k_X9_hour_ = true := by decide +kernel
theorem cm_X9_hour_ : mChkM m_X9_hour_ = true := by decide +kernel
def s_X9_image_80 : List mE := (80, .aload_n 0, 1, 0, 0, 0, .inl 0, []) ::
  (81, .getfield 35, 3, 8, 21, 3, .inr (.inr (18, 2, 9)), [1217]) ::
  (84, .iload_n 1, 1, 1, 0, 0, .inl 0, []) ::
  (85, .iconst 1, 1, 0, 0, 0, .inl (nI 1), []) ::
  (86, .bastore, 1, 0, 0, 0, .inl 0, []) ::
  (87, .iconst 1, 1, 0, 0, 0, .inl (nI 1), []) ::
  (88, .ireturn, 1, 1, 0, 0, .inl 0, []) :: []
def s_X9_image_51 : List mE := (51, .iload_n 2, 1, 2, 0, 0, .inl 0, []) ::
  (52, .bipush 14, 2, 0, 0, 0, .inl (nI 14), []) ::
  (54, .if_icmp .ge 26, 3, 80, 0, 0, .inl 0, []) ::
  (57, .aload_n 0, 1, 0, 0, 0, .inl 0, []) ::
  (58, .getfield 32, 3, 8, 20, 3, .inr (.inr (17, 28, 8)), [1216]) ::
  (61, .bipush 14, 2, 0, 0, 0, .inl (nI 14), []) ::
  (63, .iload_n 1, 1, 1, 0, 0, .inl 0, []) ::
  (64, .imul, 1, 0, 0, 0, .inl 0, []) ::
  (65, .iload_n 2, 1, 2, 0, 0, .inl 0, []) ::
  (66, .iadd, 1, 0, 0, 0, .inl 0, []) ::
  (67, .aload_n 0, 1, 0, 0, 0, .inl 0, []) ::
  (68, .getfield 25, 3, 8, 18, 3, .inr (.inr (17, 14, 6)), [1214]) ::
  (71, .iload_n 2, 1, 2, 0, 0, .inl 0, []) ::
  (72, .laload, 1, 0, 0, 0, .inl 0, []) ::
  (73, .lastore, 1, 0, 0, 0, .inl 0, []) ::
  (74, .iinc 2 1, 3, 2, 0, 0, .inl (nI 1), []) ::
  (77, .goto (-26), 3, 51, 0, 0, .inl 0, []) :: s_X9_image_80
def s_X9_image_49 : List mE := (49, .iconst 0, 1, 0, 0, 0, .inl (nI 0), []) ::
  (50, .istore_n 2, 1, 2, 0, 0, .inl 0, []) :: s_X9_image_51
def s_X9_image_18 : List mE := (18, .iload_n 2, 1, 2, 0, 0, .inl 0, []) ::
  (19, .sipush 925, 3, 0, 0, 0, .inl (nI 925), []) ::
  (22, .if_icmp .ge 27, 3, 49, 0, 0, .inl 0, []) ::
  (25, .aload_n 0, 1, 0, 0, 0, .inl 0, []) ::
  (26, .getfield 22, 3, 8, 17, 3, .inr (.inr (16, 1850, 5)), [1213]) ::
  (29, .sipush 925, 3, 0, 0, 0, .inl (nI 925), []) ::
  (32, .iload_n 1, 1, 1, 0, 0, .inl 0, []) ::
  (33, .imul, 1, 0, 0, 0, .inl 0, []) ::
  (34, .iload_n 2, 1, 2, 0, 0, .inl 0, []) ::
  (35, .iadd, 1, 0, 0, 0, .inl 0, []) ::
  (36, .aload_n 0, 1, 0, 0, 0, .inl 0, []) ::
  (37, .getfield 13, 3, 8, 14, 3, .inr (.inr (16, 925, 2)), [1210]) ::
  (40, .iload_n 2, 1, 2, 0, 0, .inl 0, []) ::
  (41, .iaload, 1, 0, 0, 0, .inl 0, []) ::
  (42, .iastore, 1, 0, 0, 0, .inl 0, []) ::
  (43, .iinc 2 1, 3, 2, 0, 0, .inl (nI 1), []) ::
  (46, .goto (-28), 3, 18, 0, 0, .inl 0, []) :: s_X9_image_49
def s_X9_image_16 : List mE := (16, .iconst 0, 1, 0, 0, 0, .inl (nI 0), []) ::
  (17, .istore_n 2, 1, 2, 0, 0, .inl 0, []) :: s_X9_image_18
def s_X9_image_0 : List mE := (0, .aload_n 0, 1, 0, 0, 0, .inl 0, []) ::
  (1, .iconst 0, 1, 0, 0, 0, .inl (nI 0), []) ::
  (2, .putfield 76, 3, 8, 0, 0, .inl 0, [1196]) ::
  (5, .iload_n 1, 1, 1, 0, 0, .inl 0, []) ::
  (6, .iconst 0, 1, 0, 0, 0, .inl (nI 0), []) ::
  (7, .iconst 1, 1, 0, 0, 0, .inl (nI 1), []) ::
  (8, .invokestatic 143, 3, 177, 3, 1, .inl 0, [1414]) ::
  (11, .ifCond .ne 5, 3, 16, 0, 0, .inl 0, []) ::
  (14, .iconst 0, 1, 0, 0, 0, .inl (nI 0), []) ::
  (15, .ireturn, 1, 1, 0, 0, .inl 0, []) :: s_X9_image_16
def k_X9_image : List mE := s_X9_image_0
set_option maxRecDepth 100000 in
theorem t_X9_image_0 : dropTo 0 k_X9_image = s_X9_image_0 := rfl
set_option maxRecDepth 100000 in
theorem t_X9_image_16 : dropTo 16 k_X9_image = s_X9_image_16 := rfl
set_option maxRecDepth 100000 in
theorem t_X9_image_18 : dropTo 18 k_X9_image = s_X9_image_18 := rfl
set_option maxRecDepth 100000 in
theorem t_X9_image_49 : dropTo 49 k_X9_image = s_X9_image_49 := rfl
set_option maxRecDepth 100000 in
theorem t_X9_image_51 : dropTo 51 k_X9_image = s_X9_image_51 := rfl
set_option maxRecDepth 100000 in
theorem t_X9_image_80 : dropTo 80 k_X9_image = s_X9_image_80 := rfl
theorem ok_X9_image : mOkF m_X9_image k_X9_image = true := by decide +kernel
theorem cm_X9_image : mChkM m_X9_image = true := by decide +kernel
def s_X9_isDigit_17 : List mE := (17, .ireturn, 1, 1, 0, 0, .inl 0, []) :: []
def s_X9_isDigit_16 : List mE := (16, .iconst 0, 1, 0, 0, 0, .inl (nI 0), []) :: s_X9_isDigit_17
def s_X9_isDigit_0 : List mE := (0, .iload_n 0, 1, 0, 0, 0, .inl 0, []) ::
  (1, .bipush 48, 2, 0, 0, 0, .inl (nI 48), []) ::
  (3, .if_icmp .lt 13, 3, 16, 0, 0, .inl 0, []) ::
  (6, .iload_n 0, 1, 0, 0, 0, .inl 0, []) ::
  (7, .bipush 57, 2, 0, 0, 0, .inl (nI 57), []) ::
  (9, .if_icmp .gt 7, 3, 16, 0, 0, .inl 0, []) ::
  (12, .iconst 1, 1, 0, 0, 0, .inl (nI 1), []) ::
  (13, .goto 4, 3, 17, 0, 0, .inl 0, []) :: s_X9_isDigit_16
def k_X9_isDigit : List mE := s_X9_isDigit_0
set_option maxRecDepth 100000 in
theorem t_X9_isDigit_0 : dropTo 0 k_X9_isDigit = s_X9_isDigit_0 := rfl
set_option maxRecDepth 100000 in
theorem t_X9_isDigit_16 : dropTo 16 k_X9_isDigit = s_X9_isDigit_16 := rfl
set_option maxRecDepth 100000 in
theorem t_X9_isDigit_17 : dropTo 17 k_X9_isDigit = s_X9_isDigit_17 := rfl
theorem ok_X9_isDigit : mOkF m_X9_isDigit k_X9_isDigit = true := by decide +kernel
theorem cm_X9_isDigit : mChkM m_X9_isDigit = true := by decide +kernel
def s_X9_isGood_17 : List mE := (17, .ireturn, 1, 1, 0, 0, .inl 0, []) :: []
def s_X9_isGood_16 : List mE := (16, .iconst 0, 1, 0, 0, 0, .inl (nI 0), []) :: s_X9_isGood_17
def s_X9_isGood_0 : List mE := (0, .iload_n 1, 1, 1, 0, 0, .inl 0, []) ::
  (1, .ifCond .lt 15, 3, 16, 0, 0, .inl 0, []) ::
  (4, .iload_n 1, 1, 1, 0, 0, .inl 0, []) ::
  (5, .aload_n 0, 1, 0, 0, 0, .inl 0, []) ::
  (6, .invokevirtual 222, 3, 165, 1, 1, .inl 0, [1484, 8]) ::
  (9, .if_icmp .ge 7, 3, 16, 0, 0, .inl 0, []) ::
  (12, .iconst 1, 1, 0, 0, 0, .inl (nI 1), []) ::
  (13, .goto 4, 3, 17, 0, 0, .inl 0, []) :: s_X9_isGood_16
def k_X9_isGood : List mE := s_X9_isGood_0
set_option maxRecDepth 100000 in
theorem t_X9_isGood_0 : dropTo 0 k_X9_isGood = s_X9_isGood_0 := rfl
set_option maxRecDepth 100000 in
theorem t_X9_isGood_16 : dropTo 16 k_X9_isGood = s_X9_isGood_16 := rfl
set_option maxRecDepth 100000 in
theorem t_X9_isGood_17 : dropTo 17 k_X9_isGood = s_X9_isGood_17 := rfl
theorem ok_X9_isGood : mOkF m_X9_isGood k_X9_isGood = true := by decide +kernel
theorem cm_X9_isGood : mChkM m_X9_isGood = true := by decide +kernel
def s_X9_isHours_0 : List mE := (0, .iload_n 0, 1, 0, 0, 0, .inl 0, []) ::
  (1, .iconst 1, 1, 0, 0, 0, .inl (nI 1), []) ::
  (2, .sipush 200, 3, 0, 0, 0, .inl (nI 200), []) ::
  (5, .invokestatic 143, 3, 177, 3, 1, .inl 0, [1414]) ::
  (8, .ireturn, 1, 1, 0, 0, .inl 0, []) :: []
def k_X9_isHours : List mE := s_X9_isHours_0
set_option maxRecDepth 100000 in
theorem t_X9_isHours_0 : dropTo 0 k_X9_isHours = s_X9_isHours_0 := rfl
theorem ok_X9_isHours : mOkF m_X9_isHours k_X9_isHours = true := by decide +kernel
theorem cm_X9_isHours : mChkM m_X9_isHours = true := by decide +kernel
def s_X9_isIn_15 : List mE := (15, .ireturn, 1, 1, 0, 0, .inl 0, []) :: []
def s_X9_isIn_14 : List mE := (14, .iconst 0, 1, 0, 0, 0, .inl (nI 0), []) :: s_X9_isIn_15
def s_X9_isIn_0 : List mE := (0, .iload_n 0, 1, 0, 0, 0, .inl 0, []) ::
  (1, .iload_n 1, 1, 1, 0, 0, .inl 0, []) ::
  (2, .if_icmp .lt 12, 3, 14, 0, 0, .inl 0, []) ::
  (5, .iload_n 0, 1, 0, 0, 0, .inl 0, []) ::
  (6, .iload_n 2, 1, 2, 0, 0, .inl 0, []) ::
  (7, .if_icmp .gt 7, 3, 14, 0, 0, .inl 0, []) ::
  (10, .iconst 1, 1, 0, 0, 0, .inl (nI 1), []) ::
  (11, .goto 4, 3, 15, 0, 0, .inl 0, []) :: s_X9_isIn_14
def k_X9_isIn : List mE := s_X9_isIn_0
set_option maxRecDepth 100000 in
theorem t_X9_isIn_0 : dropTo 0 k_X9_isIn = s_X9_isIn_0 := rfl
set_option maxRecDepth 100000 in
theorem t_X9_isIn_14 : dropTo 14 k_X9_isIn = s_X9_isIn_14 := rfl
set_option maxRecDepth 100000 in
theorem t_X9_isIn_15 : dropTo 15 k_X9_isIn = s_X9_isIn_15 := rfl
theorem ok_X9_isIn : mOkF m_X9_isIn k_X9_isIn = true := by decide +kernel
theorem cm_X9_isIn : mChkM m_X9_isIn = true := by decide +kernel
def s_X9_isLetter_17 : List mE := (17, .ireturn, 1, 1, 0, 0, .inl 0, []) :: []
def s_X9_isLetter_16 : List mE := (16, .iconst 0, 1, 0, 0, 0, .inl (nI 0), []) :: s_X9_isLetter_17
def s_X9_isLetter_0 : List mE := (0, .iload_n 0, 1, 0, 0, 0, .inl 0, []) ::
  (1, .bipush 97, 2, 0, 0, 0, .inl (nI 97), []) ::
  (3, .if_icmp .lt 13, 3, 16, 0, 0, .inl 0, []) ::
  (6, .iload_n 0, 1, 0, 0, 0, .inl 0, []) ::
  (7, .bipush 122, 2, 0, 0, 0, .inl (nI 122), []) ::
  (9, .if_icmp .gt 7, 3, 16, 0, 0, .inl 0, []) ::
  (12, .iconst 1, 1, 0, 0, 0, .inl (nI 1), []) ::
  (13, .goto 4, 3, 17, 0, 0, .inl 0, []) :: s_X9_isLetter_16
def k_X9_isLetter : List mE := s_X9_isLetter_0
set_option maxRecDepth 100000 in
theorem t_X9_isLetter_0 : dropTo 0 k_X9_isLetter = s_X9_isLetter_0 := rfl
set_option maxRecDepth 100000 in
theorem t_X9_isLetter_16 : dropTo 16 k_X9_isLetter = s_X9_isLetter_16 := rfl
set_option maxRecDepth 100000 in
theorem t_X9_isLetter_17 : dropTo 17 k_X9_isLetter = s_X9_isLetter_17 := rfl
theorem ok_X9_isLetter : mOkF m_X9_isLetter k_X9_isLetter = true := by decide +kernel
theorem cm_X9_isLetter : mChkM m_X9_isLetter = true := by decide +kernel
def s_X9_isName_38 : List mE := (38, .iconst 1, 1, 0, 0, 0, .inl (nI 1), []) ::
  (39, .ireturn, 1, 1, 0, 0, .inl 0, []) :: []
def s_X9_isName_32 : List mE := (32, .iinc 1 1, 3, 1, 0, 0, .inl (nI 1), []) ::
  (35, .goto (-23), 3, 12, 0, 0, .inl 0, []) :: s_X9_isName_38
def s_X9_isName_12 : List mE := (12, .iload_n 1, 1, 1, 0, 0, .inl 0, []) ::
  (13, .bipush 18, 2, 0, 0, 0, .inl (nI 18), []) ::
  (15, .if_icmp .gt 23, 3, 38, 0, 0, .inl 0, []) ::
  (18, .aload_n 0, 1, 0, 0, 0, .inl 0, []) ::
  (19, .getfield 111, 3, 8, 12, 1, .inl 0, [1208]) ::
  (22, .iload_n 1, 1, 1, 0, 0, .inl 0, []) ::
  (23, .invokestatic 130, 3, 251, 1, 2, .inl 0, [1385]) ::
  (26, .lcmp, 1, 0, 0, 0, .inl 0, []) ::
  (27, .ifCond .ne 5, 3, 32, 0, 0, .inl 0, []) ::
  (30, .iconst 0, 1, 0, 0, 0, .inl (nI 0), []) ::
  (31, .ireturn, 1, 1, 0, 0, .inl 0, []) :: s_X9_isName_32
def s_X9_isName_10 : List mE := (10, .iconst 0, 1, 0, 0, 0, .inl (nI 0), []) ::
  (11, .istore_n 1, 1, 1, 0, 0, .inl 0, []) :: s_X9_isName_12
def s_X9_isName_0 : List mE := (0, .aload_n 0, 1, 0, 0, 0, .inl 0, []) ::
  (1, .getfield 98, 3, 8, 7, 0, .inl 0, [1203]) ::
  (4, .iconst 2, 1, 0, 0, 0, .inl (nI 2), []) ::
  (5, .if_icmp .eq 5, 3, 10, 0, 0, .inl 0, []) ::
  (8, .iconst 0, 1, 0, 0, 0, .inl (nI 0), []) ::
  (9, .ireturn, 1, 1, 0, 0, .inl 0, []) :: s_X9_isName_10
def k_X9_isName : List mE := s_X9_isName_0
set_option maxRecDepth 100000 in
theorem t_X9_isName_0 : dropTo 0 k_X9_isName = s_X9_isName_0 := rfl
set_option maxRecDepth 100000 in
theorem t_X9_isName_10 : dropTo 10 k_X9_isName = s_X9_isName_10 := rfl
set_option maxRecDepth 100000 in
theorem t_X9_isName_12 : dropTo 12 k_X9_isName = s_X9_isName_12 := rfl
set_option maxRecDepth 100000 in
theorem t_X9_isName_32 : dropTo 32 k_X9_isName = s_X9_isName_32 := rfl
set_option maxRecDepth 100000 in
theorem t_X9_isName_38 : dropTo 38 k_X9_isName = s_X9_isName_38 := rfl
theorem ok_X9_isName : mOkF m_X9_isName k_X9_isName = true := by decide +kernel
theorem cm_X9_isName : mChkM m_X9_isName = true := by decide +kernel
def s_X9_isRun_16 : List mE := (16, .ireturn, 1, 1, 0, 0, .inl 0, []) :: []
def s_X9_isRun_15 : List mE := (15, .iconst 0, 1, 0, 0, 0, .inl (nI 0), []) :: s_X9_isRun_16
def s_X9_isRun_0 : List mE := (0, .aload_n 0, 1, 0, 0, 0, .inl 0, []) ::
  (1, .getfield 13, 3, 8, 14, 3, .inr (.inr (16, 925, 2)), [1210]) ::
  (4, .sipush 621, 3, 0, 0, 0, .inl (nI 621), []) ::
  (7, .iaload, 1, 0, 0, 0, .inl 0, []) ::
  (8, .ifCond .le 7, 3, 15, 0, 0, .inl 0, []) ::
  (11, .iconst 1, 1, 0, 0, 0, .inl (nI 1), []) ::
  (12, .goto 4, 3, 16, 0, 0, .inl 0, []) :: s_X9_isRun_15
def k_X9_isRun : List mE := s_X9_isRun_0
set_option maxRecDepth 100000 in
theorem t_X9_isRun_0 : dropTo 0 k_X9_isRun = s_X9_isRun_0 := rfl
set_option maxRecDepth 100000 in
theorem t_X9_isRun_15 : dropTo 15 k_X9_isRun = s_X9_isRun_15 := rfl
set_option maxRecDepth 100000 in
theorem t_X9_isRun_16 : dropTo 16 k_X9_isRun = s_X9_isRun_16 := rfl
theorem ok_X9_isRun : mOkF m_X9_isRun k_X9_isRun = true := by decide +kernel
theorem cm_X9_isRun : mChkM m_X9_isRun = true := by decide +kernel
def s_X9_isSet_19 : List mE := (19, .ireturn, 1, 1, 0, 0, .inl 0, []) :: []
def s_X9_isSet_18 : List mE := (18, .iconst 0, 1, 0, 0, 0, .inl (nI 0), []) :: s_X9_isSet_19
def s_X9_isSet_0 : List mE := (0, .iload_n 1, 1, 1, 0, 0, .inl 0, []) ::
  (1, .ifCond .lt 17, 3, 18, 0, 0, .inl 0, []) ::
  (4, .iload_n 1, 1, 1, 0, 0, .inl 0, []) ::
  (5, .iconst 1, 1, 0, 0, 0, .inl (nI 1), []) ::
  (6, .aload_n 0, 1, 0, 0, 0, .inl 0, []) ::
  (7, .invokevirtual 219, 3, 253, 1, 1, .inl 0, [1472, 8]) ::
  (10, .ishl, 1, 0, 0, 0, .inl 0, []) ::
  (11, .if_icmp .ge 7, 3, 18, 0, 0, .inl 0, []) ::
  (14, .iconst 1, 1, 0, 0, 0, .inl (nI 1), []) ::
  (15, .goto 4, 3, 19, 0, 0, .inl 0, []) :: s_X9_isSet_18
def k_X9_isSet : List mE := s_X9_isSet_0
set_option maxRecDepth 100000 in
theorem t_X9_isSet_0 : dropTo 0 k_X9_isSet = s_X9_isSet_0 := rfl
set_option maxRecDepth 100000 in
theorem t_X9_isSet_18 : dropTo 18 k_X9_isSet = s_X9_isSet_18 := rfl
set_option maxRecDepth 100000 in
theorem t_X9_isSet_19 : dropTo 19 k_X9_isSet = s_X9_isSet_19 := rfl
theorem ok_X9_isSet : mOkF m_X9_isSet k_X9_isSet = true := by decide +kernel
theorem cm_X9_isSet : mChkM m_X9_isSet = true := by decide +kernel
def s_X9_isSign_21 : List mE := (21, .ireturn, 1, 1, 0, 0, .inl 0, []) :: []
def s_X9_isSign_20 : List mE := (20, .iconst 0, 1, 0, 0, 0, .inl (nI 0), []) :: s_X9_isSign_21
def s_X9_isSign_0 : List mE := (0, .aload_n 0, 1, 0, 0, 0, .inl 0, []) ::
  (1, .getfield 98, 3, 8, 7, 0, .inl 0, [1203]) ::
  (4, .iconst 4, 1, 0, 0, 0, .inl (nI 4), []) ::
  (5, .if_icmp .ne 15, 3, 20, 0, 0, .inl 0, []) ::
  (8, .aload_n 0, 1, 0, 0, 0, .inl 0, []) ::
  (9, .getfield 108, 3, 8, 9, 0, .inl 0, [1205]) ::
  (12, .iload_n 1, 1, 1, 0, 0, .inl 0, []) ::
  (13, .if_icmp .ne 7, 3, 20, 0, 0, .inl 0, []) ::
  (16, .iconst 1, 1, 0, 0, 0, .inl (nI 1), []) ::
  (17, .goto 4, 3, 21, 0, 0, .inl 0, []) :: s_X9_isSign_20
def k_X9_isSign : List mE := s_X9_isSign_0
set_option maxRecDepth 100000 in
theorem t_X9_isSign_0 : dropTo 0 k_X9_isSign = s_X9_isSign_0 := rfl
set_option maxRecDepth 100000 in
theorem t_X9_isSign_20 : dropTo 20 k_X9_isSign = s_X9_isSign_20 := rfl
set_option maxRecDepth 100000 in
theorem t_X9_isSign_21 : dropTo 21 k_X9_isSign = s_X9_isSign_21 := rfl
theorem ok_X9_isSign : mOkF m_X9_isSign k_X9_isSign = true := by decide +kernel
theorem cm_X9_isSign : mChkM m_X9_isSign = true := by decide +kernel
def s_X9_isSteady_161 : List mE := (161, .iconst 1, 1, 0, 0, 0, .inl (nI 1), []) ::
  (162, .ireturn, 1, 1, 0, 0, .inl 0, []) :: []
def s_X9_isSteady_155 : List mE := (155, .iinc 5 1, 3, 5, 0, 0, .inl (nI 1), []) ::
  (158, .goto (-155), 3, 3, 0, 0, .inl 0, []) :: s_X9_isSteady_161
def s_X9_isSteady_149 : List mE := (149, .iinc 7 1, 3, 7, 0, 0, .inl (nI 1), []) ::
  (152, .goto (-134), 3, 18, 0, 0, .inl 0, []) :: s_X9_isSteady_155
def s_X9_isSteady_118 : List mE := (118, .iload 7, 2, 7, 0, 0, .inl 0, []) ::
  (120, .aload_n 0, 1, 0, 0, 0, .inl 0, []) ::
  (121, .invokevirtual 219, 3, 253, 1, 1, .inl 0, [1472, 8]) ::
  (124, .iconst 1, 1, 0, 0, 0, .inl (nI 1), []) ::
  (125, .isub, 1, 0, 0, 0, .inl 0, []) ::
  (126, .if_icmp .ge 23, 3, 149, 0, 0, .inl 0, []) ::
  (129, .iload 6, 2, 6, 0, 0, .inl 0, []) ::
  (131, .iload 6, 2, 6, 0, 0, .inl 0, []) ::
  (133, .aload_n 0, 1, 0, 0, 0, .inl 0, []) ::
  (134, .getfield 13, 3, 8, 14, 3, .inr (.inr (16, 925, 2)), [1210]) ::
  (137, .bipush 8, 2, 0, 0, 0, .inl (nI 8), []) ::
  (139, .iload 5, 2, 5, 0, 0, .inl 0, []) ::
  (141, .iadd, 1, 0, 0, 0, .inl 0, []) ::
  (142, .iaload, 1, 0, 0, 0, .inl 0, []) ::
  (143, .invokestatic 247, 3, 199, 2, 1, .inl 0, [1528]) ::
  (146, .isub, 1, 0, 0, 0, .inl 0, []) ::
  (147, .istore 6, 2, 6, 0, 0, .inl 0, []) :: s_X9_isSteady_149
def s_X9_isSteady_102 : List mE := (102, .iload 6, 2, 6, 0, 0, .inl 0, []) ::
  (104, .aload_n 0, 1, 0, 0, 0, .inl 0, []) ::
  (105, .getfield 13, 3, 8, 14, 3, .inr (.inr (16, 925, 2)), [1210]) ::
  (108, .sipush 182, 3, 0, 0, 0, .inl (nI 182), []) ::
  (111, .iload 8, 2, 8, 0, 0, .inl 0, []) ::
  (113, .iadd, 1, 0, 0, 0, .inl 0, []) ::
  (114, .iaload, 1, 0, 0, 0, .inl 0, []) ::
  (115, .iadd, 1, 0, 0, 0, .inl 0, []) ::
  (116, .istore 6, 2, 6, 0, 0, .inl 0, []) :: s_X9_isSteady_118
def s_X9_isSteady_71 : List mE := (71, .iload_n 1, 1, 1, 0, 0, .inl 0, []) ::
  (72, .iload 7, 2, 7, 0, 0, .inl 0, []) ::
  (74, .invokestatic 250, 3, 169, 2, 1, .inl 0, [1543]) ::
  (77, .ifCond .eq 41, 3, 118, 0, 0, .inl 0, []) ::
  (80, .iload 6, 2, 6, 0, 0, .inl 0, []) ::
  (82, .aload_n 0, 1, 0, 0, 0, .inl 0, []) ::
  (83, .getfield 13, 3, 8, 14, 3, .inr (.inr (16, 925, 2)), [1210]) ::
  (86, .bipush 38, 2, 0, 0, 0, .inl (nI 38), []) ::
  (88, .iload 8, 2, 8, 0, 0, .inl 0, []) ::
  (90, .iadd, 1, 0, 0, 0, .inl 0, []) ::
  (91, .iaload, 1, 0, 0, 0, .inl 0, []) ::
  (92, .isub, 1, 0, 0, 0, .inl 0, []) ::
  (93, .istore 6, 2, 6, 0, 0, .inl 0, []) ::
  (95, .iload 6, 2, 6, 0, 0, .inl 0, []) ::
  (97, .ifCond .ge 5, 3, 102, 0, 0, .inl 0, []) ::
  (100, .iconst 0, 1, 0, 0, 0, .inl (nI 0), []) ::
  (101, .ireturn, 1, 1, 0, 0, .inl 0, []) :: s_X9_isSteady_102
def s_X9_isSteady_18 : List mE := (18, .iload 7, 2, 7, 0, 0, .inl 0, []) ::
  (20, .aload_n 0, 1, 0, 0, 0, .inl 0, []) ::
  (21, .invokevirtual 219, 3, 253, 1, 1, .inl 0, [1472, 8]) ::
  (24, .if_icmp .ge 131, 3, 155, 0, 0, .inl 0, []) ::
  (27, .iload 7, 2, 7, 0, 0, .inl 0, []) ::
  (29, .iload 5, 2, 5, 0, 0, .inl 0, []) ::
  (31, .invokestatic 182, 3, 148, 2, 1, .inl 0, [1437]) ::
  (34, .istore 8, 2, 8, 0, 0, .inl 0, []) ::
  (36, .iload 6, 2, 6, 0, 0, .inl 0, []) ::
  (38, .aload_n 0, 1, 0, 0, 0, .inl 0, []) ::
  (39, .getfield 13, 3, 8, 14, 3, .inr (.inr (16, 925, 2)), [1210]) ::
  (42, .sipush 230, 3, 0, 0, 0, .inl (nI 230), []) ::
  (45, .iload 8, 2, 8, 0, 0, .inl 0, []) ::
  (47, .iadd, 1, 0, 0, 0, .inl 0, []) ::
  (48, .iaload, 1, 0, 0, 0, .inl 0, []) ::
  (49, .iadd, 1, 0, 0, 0, .inl 0, []) ::
  (50, .istore 6, 2, 6, 0, 0, .inl 0, []) ::
  (52, .iload 7, 2, 7, 0, 0, .inl 0, []) ::
  (54, .iload_n 2, 1, 2, 0, 0, .inl 0, []) ::
  (55, .if_icmp .ne 16, 3, 71, 0, 0, .inl 0, []) ::
  (58, .iload 5, 2, 5, 0, 0, .inl 0, []) ::
  (60, .iload_n 3, 1, 3, 0, 0, .inl 0, []) ::
  (61, .if_icmp .ne 10, 3, 71, 0, 0, .inl 0, []) ::
  (64, .iload 6, 2, 6, 0, 0, .inl 0, []) ::
  (66, .iload 4, 2, 4, 0, 0, .inl 0, []) ::
  (68, .iadd, 1, 0, 0, 0, .inl 0, []) ::
  (69, .istore 6, 2, 6, 0, 0, .inl 0, []) :: s_X9_isSteady_71
def s_X9_isSteady_3 : List mE := (3, .iload 5, 2, 5, 0, 0, .inl 0, []) ::
  (5, .aload_n 0, 1, 0, 0, 0, .inl 0, []) ::
  (6, .invokevirtual 222, 3, 165, 1, 1, .inl 0, [1484, 8]) ::
  (9, .if_icmp .ge 152, 3, 161, 0, 0, .inl 0, []) ::
  (12, .iconst 0, 1, 0, 0, 0, .inl (nI 0), []) ::
  (13, .istore 6, 2, 6, 0, 0, .inl 0, []) ::
  (15, .iconst 0, 1, 0, 0, 0, .inl (nI 0), []) ::
  (16, .istore 7, 2, 7, 0, 0, .inl 0, []) :: s_X9_isSteady_18
def s_X9_isSteady_0 : List mE := (0, .iconst 0, 1, 0, 0, 0, .inl (nI 0), []) ::
  (1, .istore 5, 2, 5, 0, 0, .inl 0, []) :: s_X9_isSteady_3
def k_X9_isSteady : List mE := s_X9_isSteady_0
set_option maxRecDepth 100000 in
theorem t_X9_isSteady_0 : dropTo 0 k_X9_isSteady = s_X9_isSteady_0 := rfl
set_option maxRecDepth 100000 in
theorem t_X9_isSteady_3 : dropTo 3 k_X9_isSteady = s_X9_isSteady_3 := rfl
set_option maxRecDepth 100000 in
theorem t_X9_isSteady_18 : dropTo 18 k_X9_isSteady = s_X9_isSteady_18 := rfl
set_option maxRecDepth 100000 in
theorem t_X9_isSteady_71 : dropTo 71 k_X9_isSteady = s_X9_isSteady_71 := rfl
set_option maxRecDepth 100000 in
theorem t_X9_isSteady_102 : dropTo 102 k_X9_isSteady = s_X9_isSteady_102 := rfl
set_option maxRecDepth 100000 in
theorem t_X9_isSteady_118 : dropTo 118 k_X9_isSteady = s_X9_isSteady_118 := rfl
set_option maxRecDepth 100000 in
theorem t_X9_isSteady_149 : dropTo 149 k_X9_isSteady = s_X9_isSteady_149 := rfl
set_option maxRecDepth 100000 in
theorem t_X9_isSteady_155 : dropTo 155 k_X9_isSteady = s_X9_isSteady_155 := rfl
set_option maxRecDepth 100000 in
theorem t_X9_isSteady_161 : dropTo 161 k_X9_isSteady = s_X9_isSteady_161 := rfl
theorem ok_X9_isSteady : mOkF m_X9_isSteady k_X9_isSteady = true := by decide +kernel
theorem cm_X9_isSteady : mChkM m_X9_isSteady = true := by decide +kernel
def s_X9_isSteady__0 : List mE := (0, .aload_n 0, 1, 0, 0, 0, .inl 0, []) ::
  (1, .iload_n 1, 1, 1, 0, 0, .inl 0, []) ::
  (2, .iconst (-1), 1, 0, 0, 0, .inl (-1), []) ::
  (3, .iconst (-1), 1, 0, 0, 0, .inl (-1), []) ::
  (4, .iconst 0, 1, 0, 0, 0, .inl (nI 0), []) ::
  (5, .invokevirtual 327, 3, 183, 5, 1, .inl 0, [1663, 8]) ::
  (8, .ireturn, 1, 1, 0, 0, .inl 0, []) :: []
def k_X9_isSteady_ : List mE := s_X9_isSteady__0
set_option maxRecDepth 100000 in
theorem t_X9_isSteady__0 : dropTo 0 k_X9_isSteady_ = s_X9_isSteady__0 := rfl
theorem ok_X9_isSteady_ : mOkF m_X9_isSteady_ k_X9_isSteady_ = true := by decide +kernel
theorem cm_X9_isSteady_ : mChkM m_X9_isSteady_ = true := by decide +kernel
def s_X9_isStopped_86 : List mE := (86, .iconst 0, 1, 0, 0, 0, .inl (nI 0), []) ::
  (87, .ireturn, 1, 1, 0, 0, .inl 0, []) :: []
def s_X9_isStopped_80 : List mE := (80, .iinc 3 1, 3, 3, 0, 0, .inl (nI 1), []) ::
  (83, .goto (-81), 3, 2, 0, 0, .inl 0, []) :: s_X9_isStopped_86
def s_X9_isStopped_2 : List mE := (2, .iload_n 3, 1, 3, 0, 0, .inl 0, []) ::
  (3, .aload_n 0, 1, 0, 0, 0, .inl 0, []) ::
  (4, .getfield 13, 3, 8, 14, 3, .inr (.inr (16, 925, 2)), [1210]) ::
  (7, .sipush 278, 3, 0, 0, 0, .inl (nI 278), []) ::
  (10, .iaload, 1, 0, 0, 0, .inl 0, []) ::
  (11, .if_icmp .ge 75, 3, 86, 0, 0, .inl 0, []) ::
  (14, .aload_n 0, 1, 0, 0, 0, .inl 0, []) ::
  (15, .getfield 243, 3, 8, 29, 2, .inl 0, [1225]) ::
  (18, .ifCond .eq 68, 3, 86, 0, 0, .inl 0, []) ::
  (21, .sipush 279, 3, 0, 0, 0, .inl (nI 279), []) ::
  (24, .iconst 5, 1, 0, 0, 0, .inl (nI 5), []) ::
  (25, .iload_n 3, 1, 3, 0, 0, .inl 0, []) ::
  (26, .imul, 1, 0, 0, 0, .inl 0, []) ::
  (27, .iadd, 1, 0, 0, 0, .inl 0, []) ::
  (28, .istore 4, 2, 4, 0, 0, .inl 0, []) ::
  (30, .aload_n 0, 1, 0, 0, 0, .inl 0, []) ::
  (31, .getfield 13, 3, 8, 14, 3, .inr (.inr (16, 925, 2)), [1210]) ::
  (34, .iload 4, 2, 4, 0, 0, .inl 0, []) ::
  (36, .iaload, 1, 0, 0, 0, .inl 0, []) ::
  (37, .ifCond .ne 43, 3, 80, 0, 0, .inl 0, []) ::
  (40, .aload_n 0, 1, 0, 0, 0, .inl 0, []) ::
  (41, .getfield 13, 3, 8, 14, 3, .inr (.inr (16, 925, 2)), [1210]) ::
  (44, .iload 4, 2, 4, 0, 0, .inl 0, []) ::
  (46, .iconst 1, 1, 0, 0, 0, .inl (nI 1), []) ::
  (47, .iadd, 1, 0, 0, 0, .inl 0, []) ::
  (48, .iaload, 1, 0, 0, 0, .inl 0, []) ::
  (49, .iload_n 1, 1, 1, 0, 0, .inl 0, []) ::
  (50, .if_icmp .ne 30, 3, 80, 0, 0, .inl 0, []) ::
  (53, .iload_n 2, 1, 2, 0, 0, .inl 0, []) ::
  (54, .aload_n 0, 1, 0, 0, 0, .inl 0, []) ::
  (55, .getfield 13, 3, 8, 14, 3, .inr (.inr (16, 925, 2)), [1210]) ::
  (58, .iload 4, 2, 4, 0, 0, .inl 0, []) ::
  (60, .iconst 2, 1, 0, 0, 0, .inl (nI 2), []) ::
  (61, .iadd, 1, 0, 0, 0, .inl 0, []) ::
  (62, .iaload, 1, 0, 0, 0, .inl 0, []) ::
  (63, .aload_n 0, 1, 0, 0, 0, .inl 0, []) ::
  (64, .getfield 13, 3, 8, 14, 3, .inr (.inr (16, 925, 2)), [1210]) ::
  (67, .iload 4, 2, 4, 0, 0, .inl 0, []) ::
  (69, .iconst 3, 1, 0, 0, 0, .inl (nI 3), []) ::
  (70, .iadd, 1, 0, 0, 0, .inl 0, []) ::
  (71, .iaload, 1, 0, 0, 0, .inl 0, []) ::
  (72, .invokestatic 143, 3, 177, 3, 1, .inl 0, [1414]) ::
  (75, .ifCond .eq 5, 3, 80, 0, 0, .inl 0, []) ::
  (78, .iconst 1, 1, 0, 0, 0, .inl (nI 1), []) ::
  (79, .ireturn, 1, 1, 0, 0, .inl 0, []) :: s_X9_isStopped_80
def s_X9_isStopped_0 : List mE := (0, .iconst 0, 1, 0, 0, 0, .inl (nI 0), []) ::
  (1, .istore_n 3, 1, 3, 0, 0, .inl 0, []) :: s_X9_isStopped_2
def k_X9_isStopped : List mE := s_X9_isStopped_0
set_option maxRecDepth 100000 in
theorem t_X9_isStopped_0 : dropTo 0 k_X9_isStopped = s_X9_isStopped_0 := rfl
set_option maxRecDepth 100000 in
theorem t_X9_isStopped_2 : dropTo 2 k_X9_isStopped = s_X9_isStopped_2 := rfl
set_option maxRecDepth 100000 in
theorem t_X9_isStopped_80 : dropTo 80 k_X9_isStopped = s_X9_isStopped_80 := rfl
set_option maxRecDepth 100000 in
theorem t_X9_isStopped_86 : dropTo 86 k_X9_isStopped = s_X9_isStopped_86 := rfl
theorem ok_X9_isStopped : mOkF m_X9_isStopped k_X9_isStopped = true := by decide +kernel
theorem cm_X9_isStopped : mChkM m_X9_isStopped = true := by decide +kernel
def s_X9_isToldGood_50 : List mE := (50, .ireturn, 1, 1, 0, 0, .inl 0, []) :: []
def s_X9_isToldGood_49 : List mE := (49, .iconst 0, 1, 0, 0, 0, .inl (nI 0), []) :: s_X9_isToldGood_50
def s_X9_isToldGood_45 : List mE := (45, .iconst 1, 1, 0, 0, 0, .inl (nI 1), []) ::
  (46, .goto 4, 3, 50, 0, 0, .inl 0, []) :: s_X9_isToldGood_49
def s_X9_isToldGood_13 : List mE := (13, .aload_n 0, 1, 0, 0, 0, .inl 0, []) ::
  (14, .aload_n 1, 1, 1, 0, 0, .inl 0, []) ::
  (15, .iconst 0, 1, 0, 0, 0, .inl (nI 0), []) ::
  (16, .aload_n 2, 1, 2, 0, 0, .inl 0, []) ::
  (17, .iconst 0, 1, 0, 0, 0, .inl (nI 0), []) ::
  (18, .iaload, 1, 0, 0, 0, .inl 0, []) ::
  (19, .aload_n 0, 1, 0, 0, 0, .inl 0, []) ::
  (20, .getfield 111, 3, 8, 12, 1, .inl 0, [1208]) ::
  (23, .invokestatic 164, 3, 161, 4, 1, .inl 0, [1407]) ::
  (26, .putfield 147, 3, 8, 13, 0, .inl 0, [1209]) ::
  (29, .aload_n 0, 1, 0, 0, 0, .inl 0, []) ::
  (30, .getfield 147, 3, 8, 13, 0, .inl 0, [1209]) ::
  (33, .iconst (-1), 1, 0, 0, 0, .inl (-1), []) ::
  (34, .if_icmp .ne 11, 3, 45, 0, 0, .inl 0, []) ::
  (37, .aload_n 0, 1, 0, 0, 0, .inl 0, []) ::
  (38, .iconst 3, 1, 0, 0, 0, .inl (nI 3), []) ::
  (39, .invokevirtual 140, 3, 140, 2, 1, .inl 0, [1395, 8]) ::
  (42, .ifCond .eq 7, 3, 49, 0, 0, .inl 0, []) :: s_X9_isToldGood_45
def s_X9_isToldGood_0 : List mE := (0, .aload_n 0, 1, 0, 0, 0, .inl 0, []) ::
  (1, .invokevirtual 160, 3, 179, 1, 1, .inl 0, [1403, 8]) ::
  (4, .ifCond .ne 9, 3, 13, 0, 0, .inl 0, []) ::
  (7, .aload_n 0, 1, 0, 0, 0, .inl 0, []) ::
  (8, .iconst 1, 1, 0, 0, 0, .inl (nI 1), []) ::
  (9, .invokevirtual 140, 3, 140, 2, 1, .inl 0, [1395, 8]) ::
  (12, .ireturn, 1, 1, 0, 0, .inl 0, []) :: s_X9_isToldGood_13
def k_X9_isToldGood : List mE := s_X9_isToldGood_0
set_option maxRecDepth 100000 in
theorem t_X9_isToldGood_0 : dropTo 0 k_X9_isToldGood = s_X9_isToldGood_0 := rfl
set_option maxRecDepth 100000 in
theorem t_X9_isToldGood_13 : dropTo 13 k_X9_isToldGood = s_X9_isToldGood_13 := rfl
set_option maxRecDepth 100000 in
theorem t_X9_isToldGood_45 : dropTo 45 k_X9_isToldGood = s_X9_isToldGood_45 := rfl
set_option maxRecDepth 100000 in
theorem t_X9_isToldGood_49 : dropTo 49 k_X9_isToldGood = s_X9_isToldGood_49 := rfl
set_option maxRecDepth 100000 in
theorem t_X9_isToldGood_50 : dropTo 50 k_X9_isToldGood = s_X9_isToldGood_50 := rfl
theorem ok_X9_isToldGood : mOkF m_X9_isToldGood k_X9_isToldGood = true := by decide +kernel
theorem cm_X9_isToldGood : mChkM m_X9_isToldGood = true := by decide +kernel
def s_X9_isToldWork_51 : List mE := (51, .ireturn, 1, 1, 0, 0, .inl 0, []) :: []
def s_X9_isToldWork_50 : List mE := (50, .iconst 0, 1, 0, 0, 0, .inl (nI 0), []) :: s_X9_isToldWork_51
def s_X9_isToldWork_46 : List mE := (46, .iconst 1, 1, 0, 0, 0, .inl (nI 1), []) ::
  (47, .goto 4, 3, 51, 0, 0, .inl 0, []) :: s_X9_isToldWork_50
def s_X9_isToldWork_13 : List mE := (13, .aload_n 0, 1, 0, 0, 0, .inl 0, []) ::
  (14, .aload_n 1, 1, 1, 0, 0, .inl 0, []) ::
  (15, .bipush 6, 2, 0, 0, 0, .inl (nI 6), []) ::
  (17, .aload_n 2, 1, 2, 0, 0, .inl 0, []) ::
  (18, .iconst 1, 1, 0, 0, 0, .inl (nI 1), []) ::
  (19, .iaload, 1, 0, 0, 0, .inl 0, []) ::
  (20, .aload_n 0, 1, 0, 0, 0, .inl 0, []) ::
  (21, .getfield 111, 3, 8, 12, 1, .inl 0, [1208]) ::
  (24, .invokestatic 164, 3, 161, 4, 1, .inl 0, [1407]) ::
  (27, .putfield 147, 3, 8, 13, 0, .inl 0, [1209]) ::
  (30, .aload_n 0, 1, 0, 0, 0, .inl 0, []) ::
  (31, .getfield 147, 3, 8, 13, 0, .inl 0, [1209]) ::
  (34, .iconst (-1), 1, 0, 0, 0, .inl (-1), []) ::
  (35, .if_icmp .ne 11, 3, 46, 0, 0, .inl 0, []) ::
  (38, .aload_n 0, 1, 0, 0, 0, .inl 0, []) ::
  (39, .iconst 3, 1, 0, 0, 0, .inl (nI 3), []) ::
  (40, .invokevirtual 140, 3, 140, 2, 1, .inl 0, [1395, 8]) ::
  (43, .ifCond .eq 7, 3, 50, 0, 0, .inl 0, []) :: s_X9_isToldWork_46
def s_X9_isToldWork_0 : List mE := (0, .aload_n 0, 1, 0, 0, 0, .inl 0, []) ::
  (1, .invokevirtual 160, 3, 179, 1, 1, .inl 0, [1403, 8]) ::
  (4, .ifCond .ne 9, 3, 13, 0, 0, .inl 0, []) ::
  (7, .aload_n 0, 1, 0, 0, 0, .inl 0, []) ::
  (8, .iconst 1, 1, 0, 0, 0, .inl (nI 1), []) ::
  (9, .invokevirtual 140, 3, 140, 2, 1, .inl 0, [1395, 8]) ::
  (12, .ireturn, 1, 1, 0, 0, .inl 0, []) :: s_X9_isToldWork_13
def k_X9_isToldWork : List mE := s_X9_isToldWork_0
set_option maxRecDepth 100000 in
theorem t_X9_isToldWork_0 : dropTo 0 k_X9_isToldWork = s_X9_isToldWork_0 := rfl
set_option maxRecDepth 100000 in
theorem t_X9_isToldWork_13 : dropTo 13 k_X9_isToldWork = s_X9_isToldWork_13 := rfl
set_option maxRecDepth 100000 in
theorem t_X9_isToldWork_46 : dropTo 46 k_X9_isToldWork = s_X9_isToldWork_46 := rfl
set_option maxRecDepth 100000 in
theorem t_X9_isToldWork_50 : dropTo 50 k_X9_isToldWork = s_X9_isToldWork_50 := rfl
set_option maxRecDepth 100000 in
theorem t_X9_isToldWork_51 : dropTo 51 k_X9_isToldWork = s_X9_isToldWork_51 := rfl
theorem ok_X9_isToldWork : mOkF m_X9_isToldWork k_X9_isToldWork = true := by decide +kernel
theorem cm_X9_isToldWork : mChkM m_X9_isToldWork = true := by decide +kernel
def s_X9_isVat_44 : List mE := (44, .ireturn, 1, 1, 0, 0, .inl 0, []) :: []
def s_X9_isVat_43 : List mE := (43, .iconst 0, 1, 0, 0, 0, .inl (nI 0), []) :: s_X9_isVat_44
def s_X9_isVat_0 : List mE := (0, .aload_n 0, 1, 0, 0, 0, .inl 0, []) ::
  (1, .invokevirtual 288, 3, 180, 1, 1, .inl 0, [1516, 8]) ::
  (4, .ifCond .eq 39, 3, 43, 0, 0, .inl 0, []) ::
  (7, .aload_n 0, 1, 0, 0, 0, .inl 0, []) ::
  (8, .iload_n 1, 1, 1, 0, 0, .inl 0, []) ::
  (9, .invokevirtual 225, 3, 190, 2, 1, .inl 0, [1468, 8]) ::
  (12, .ifCond .eq 31, 3, 43, 0, 0, .inl 0, []) ::
  (15, .aload_n 0, 1, 0, 0, 0, .inl 0, []) ::
  (16, .iload_n 2, 1, 2, 0, 0, .inl 0, []) ::
  (17, .invokevirtual 234, 3, 175, 2, 1, .inl 0, [1492, 8]) ::
  (20, .ifCond .eq 23, 3, 43, 0, 0, .inl 0, []) ::
  (23, .aload_n 0, 1, 0, 0, 0, .inl 0, []) ::
  (24, .getfield 13, 3, 8, 14, 3, .inr (.inr (16, 925, 2)), [1210]) ::
  (27, .bipush 38, 2, 0, 0, 0, .inl (nI 38), []) ::
  (29, .iload_n 1, 1, 1, 0, 0, .inl 0, []) ::
  (30, .iload_n 2, 1, 2, 0, 0, .inl 0, []) ::
  (31, .invokestatic 182, 3, 148, 2, 1, .inl 0, [1437]) ::
  (34, .iadd, 1, 0, 0, 0, .inl 0, []) ::
  (35, .iaload, 1, 0, 0, 0, .inl 0, []) ::
  (36, .ifCond .le 7, 3, 43, 0, 0, .inl 0, []) ::
  (39, .iconst 1, 1, 0, 0, 0, .inl (nI 1), []) ::
  (40, .goto 4, 3, 44, 0, 0, .inl 0, []) :: s_X9_isVat_43
def k_X9_isVat : List mE := s_X9_isVat_0
set_option maxRecDepth 100000 in
theorem t_X9_isVat_0 : dropTo 0 k_X9_isVat = s_X9_isVat_0 := rfl
set_option maxRecDepth 100000 in
theorem t_X9_isVat_43 : dropTo 43 k_X9_isVat = s_X9_isVat_43 := rfl
set_option maxRecDepth 100000 in
theorem t_X9_isVat_44 : dropTo 44 k_X9_isVat = s_X9_isVat_44 := rfl
theorem ok_X9_isVat : mOkF m_X9_isVat k_X9_isVat = true := by decide +kernel
theorem cm_X9_isVat : mChkM m_X9_isVat = true := by decide +kernel
def s_X9_isWord_25 : List mE := (25, .ireturn, 1, 1, 0, 0, .inl 0, []) :: []
def s_X9_isWord_24 : List mE := (24, .iconst 0, 1, 0, 0, 0, .inl (nI 0), []) :: s_X9_isWord_25
def s_X9_isWord_0 : List mE := (0, .aload_n 0, 1, 0, 0, 0, .inl 0, []) ::
  (1, .getfield 98, 3, 8, 7, 0, .inl 0, [1203]) ::
  (4, .iconst 2, 1, 0, 0, 0, .inl (nI 2), []) ::
  (5, .if_icmp .ne 19, 3, 24, 0, 0, .inl 0, []) ::
  (8, .aload_n 0, 1, 0, 0, 0, .inl 0, []) ::
  (9, .getfield 111, 3, 8, 12, 1, .inl 0, [1208]) ::
  (12, .iload_n 1, 1, 1, 0, 0, .inl 0, []) ::
  (13, .invokestatic 130, 3, 251, 1, 2, .inl 0, [1385]) ::
  (16, .lcmp, 1, 0, 0, 0, .inl 0, []) ::
  (17, .ifCond .ne 7, 3, 24, 0, 0, .inl 0, []) ::
  (20, .iconst 1, 1, 0, 0, 0, .inl (nI 1), []) ::
  (21, .goto 4, 3, 25, 0, 0, .inl 0, []) :: s_X9_isWord_24
def k_X9_isWord : List mE := s_X9_isWord_0
set_option maxRecDepth 100000 in
theorem t_X9_isWord_0 : dropTo 0 k_X9_isWord = s_X9_isWord_0 := rfl
set_option maxRecDepth 100000 in
theorem t_X9_isWord_24 : dropTo 24 k_X9_isWord = s_X9_isWord_24 := rfl
set_option maxRecDepth 100000 in
theorem t_X9_isWord_25 : dropTo 25 k_X9_isWord = s_X9_isWord_25 := rfl
theorem ok_X9_isWord : mOkF m_X9_isWord k_X9_isWord = true := by decide +kernel
theorem cm_X9_isWord : mChkM m_X9_isWord = true := by decide +kernel
def s_X9_isWork_17 : List mE := (17, .ireturn, 1, 1, 0, 0, .inl 0, []) :: []
def s_X9_isWork_16 : List mE := (16, .iconst 0, 1, 0, 0, 0, .inl (nI 0), []) :: s_X9_isWork_17
def s_X9_isWork_0 : List mE := (0, .iload_n 1, 1, 1, 0, 0, .inl 0, []) ::
  (1, .ifCond .lt 15, 3, 16, 0, 0, .inl 0, []) ::
  (4, .iload_n 1, 1, 1, 0, 0, .inl 0, []) ::
  (5, .aload_n 0, 1, 0, 0, 0, .inl 0, []) ::
  (6, .invokevirtual 219, 3, 253, 1, 1, .inl 0, [1472, 8]) ::
  (9, .if_icmp .ge 7, 3, 16, 0, 0, .inl 0, []) ::
  (12, .iconst 1, 1, 0, 0, 0, .inl (nI 1), []) ::
  (13, .goto 4, 3, 17, 0, 0, .inl 0, []) :: s_X9_isWork_16
def k_X9_isWork : List mE := s_X9_isWork_0
set_option maxRecDepth 100000 in
theorem t_X9_isWork_0 : dropTo 0 k_X9_isWork = s_X9_isWork_0 := rfl
set_option maxRecDepth 100000 in
theorem t_X9_isWork_16 : dropTo 16 k_X9_isWork = s_X9_isWork_16 := rfl
set_option maxRecDepth 100000 in
theorem t_X9_isWork_17 : dropTo 17 k_X9_isWork = s_X9_isWork_17 := rfl
theorem ok_X9_isWork : mOkF m_X9_isWork k_X9_isWork = true := by decide +kernel
theorem cm_X9_isWork : mChkM m_X9_isWork = true := by decide +kernel
def s_X9_kept_124 : List mE := (124, .iconst (-1), 1, 0, 0, 0, .inl (-1), []) ::
  (125, .ireturn, 1, 0, 0, 0, .inl 0, []) :: []
def s_X9_kept_118 : List mE := (118, .iinc 3 1, 3, 3, 0, 0, .inl (nI 1), []) ::
  (121, .goto (-84), 3, 37, 0, 0, .inl 0, []) :: s_X9_kept_124
def s_X9_kept_105 : List mE := (105, .aload_n 0, 1, 0, 0, 0, .inl 0, []) ::
  (106, .getfield 57, 3, 8, 31, 3, .inr (.inr (16, 256, 16)), [1227]) ::
  (109, .iload_n 3, 1, 3, 0, 0, .inl 0, []) ::
  (110, .iaload, 1, 0, 0, 0, .inl 0, []) ::
  (111, .iload 4, 2, 4, 0, 0, .inl 0, []) ::
  (113, .if_icmp .le 5, 3, 118, 0, 0, .inl 0, []) ::
  (116, .iload_n 3, 1, 3, 0, 0, .inl 0, []) ::
  (117, .ireturn, 1, 0, 0, 0, .inl 0, []) :: s_X9_kept_118
def s_X9_kept_99 : List mE := (99, .iinc 5 1, 3, 5, 0, 0, .inl (nI 1), []) ::
  (102, .goto (-51), 3, 51, 0, 0, .inl 0, []) :: s_X9_kept_105
def s_X9_kept_51 : List mE := (51, .iload 5, 2, 5, 0, 0, .inl 0, []) ::
  (53, .aload_n 0, 1, 0, 0, 0, .inl 0, []) ::
  (54, .invokevirtual 219, 3, 253, 1, 1, .inl 0, [1472, 8]) ::
  (57, .if_icmp .ge 48, 3, 105, 0, 0, .inl 0, []) ::
  (60, .iload_n 3, 1, 3, 0, 0, .inl 0, []) ::
  (61, .iload 5, 2, 5, 0, 0, .inl 0, []) ::
  (63, .invokestatic 250, 3, 169, 2, 1, .inl 0, [1543]) ::
  (66, .ifCond .eq 33, 3, 99, 0, 0, .inl 0, []) ::
  (69, .iload 4, 2, 4, 0, 0, .inl 0, []) ::
  (71, .sipush 256, 3, 0, 0, 0, .inl (nI 256), []) ::
  (74, .aload_n 0, 1, 0, 0, 0, .inl 0, []) ::
  (75, .getfield 7, 3, 8, 1, 3, .inr (.inr (16, 940, 1)), [1197]) ::
  (78, .iconst 2, 1, 0, 0, 0, .inl (nI 2), []) ::
  (79, .iload 5, 2, 5, 0, 0, .inl 0, []) ::
  (81, .imul, 1, 0, 0, 0, .inl 0, []) ::
  (82, .iaload, 1, 0, 0, 0, .inl 0, []) ::
  (83, .imul, 1, 0, 0, 0, .inl 0, []) ::
  (84, .aload_n 0, 1, 0, 0, 0, .inl 0, []) ::
  (85, .getfield 7, 3, 8, 1, 3, .inr (.inr (16, 940, 1)), [1197]) ::
  (88, .iconst 2, 1, 0, 0, 0, .inl (nI 2), []) ::
  (89, .iload 5, 2, 5, 0, 0, .inl 0, []) ::
  (91, .imul, 1, 0, 0, 0, .inl 0, []) ::
  (92, .iconst 1, 1, 0, 0, 0, .inl (nI 1), []) ::
  (93, .iadd, 1, 0, 0, 0, .inl 0, []) ::
  (94, .iaload, 1, 0, 0, 0, .inl 0, []) ::
  (95, .iadd, 1, 0, 0, 0, .inl 0, []) ::
  (96, .iadd, 1, 0, 0, 0, .inl 0, []) ::
  (97, .istore 4, 2, 4, 0, 0, .inl 0, []) :: s_X9_kept_99
def s_X9_kept_37 : List mE := (37, .aload_n 0, 1, 0, 0, 0, .inl 0, []) ::
  (38, .iload_n 3, 1, 3, 0, 0, .inl 0, []) ::
  (39, .invokevirtual 300, 3, 181, 2, 1, .inl 0, [1610, 8]) ::
  (42, .ifCond .eq 82, 3, 124, 0, 0, .inl 0, []) ::
  (45, .iconst 0, 1, 0, 0, 0, .inl (nI 0), []) ::
  (46, .istore 4, 2, 4, 0, 0, .inl 0, []) ::
  (48, .iconst 0, 1, 0, 0, 0, .inl (nI 0), []) ::
  (49, .istore 5, 2, 5, 0, 0, .inl 0, []) :: s_X9_kept_51
def s_X9_kept_30 : List mE := (30, .aload_n 0, 1, 0, 0, 0, .inl 0, []) ::
  (31, .iload_n 1, 1, 1, 0, 0, .inl 0, []) ::
  (32, .invokevirtual 312, 3, 197, 2, 0, .inl 0, [1637, 8]) ::
  (35, .iconst 0, 1, 0, 0, 0, .inl (nI 0), []) ::
  (36, .istore_n 3, 1, 3, 0, 0, .inl 0, []) :: s_X9_kept_37
def s_X9_kept_27 : List mE := (27, .bipush (-2), 2, 0, 0, 0, .inl (-2), []) ::
  (29, .ireturn, 1, 0, 0, 0, .inl 0, []) :: s_X9_kept_30
def s_X9_kept_0 : List mE := (0, .aload_n 0, 1, 0, 0, 0, .inl 0, []) ::
  (1, .iconst 0, 1, 0, 0, 0, .inl (nI 0), []) ::
  (2, .putfield 76, 3, 8, 0, 0, .inl 0, [1196]) ::
  (5, .aload_n 0, 1, 0, 0, 0, .inl 0, []) ::
  (6, .invokevirtual 156, 3, 245, 1, 1, .inl 0, [1357, 8]) ::
  (9, .istore_n 2, 1, 2, 0, 0, .inl 0, []) ::
  (10, .iload_n 1, 1, 1, 0, 0, .inl 0, []) ::
  (11, .invokestatic 303, 3, 176, 1, 1, .inl 0, [1614]) ::
  (14, .ifCond .eq 13, 3, 27, 0, 0, .inl 0, []) ::
  (17, .iload_n 2, 1, 2, 0, 0, .inl 0, []) ::
  (18, .iconst 2, 1, 0, 0, 0, .inl (nI 2), []) ::
  (19, .aload_n 0, 1, 0, 0, 0, .inl 0, []) ::
  (20, .invokevirtual 219, 3, 253, 1, 1, .inl 0, [1472, 8]) ::
  (23, .imul, 1, 0, 0, 0, .inl 0, []) ::
  (24, .if_icmp .eq 6, 3, 30, 0, 0, .inl 0, []) :: s_X9_kept_27
def k_X9_kept : List mE := s_X9_kept_0
set_option maxRecDepth 100000 in
theorem t_X9_kept_0 : dropTo 0 k_X9_kept = s_X9_kept_0 := rfl
set_option maxRecDepth 100000 in
theorem t_X9_kept_27 : dropTo 27 k_X9_kept = s_X9_kept_27 := rfl
set_option maxRecDepth 100000 in
theorem t_X9_kept_30 : dropTo 30 k_X9_kept = s_X9_kept_30 := rfl
set_option maxRecDepth 100000 in
theorem t_X9_kept_37 : dropTo 37 k_X9_kept = s_X9_kept_37 := rfl
set_option maxRecDepth 100000 in
theorem t_X9_kept_51 : dropTo 51 k_X9_kept = s_X9_kept_51 := rfl
set_option maxRecDepth 100000 in
theorem t_X9_kept_99 : dropTo 99 k_X9_kept = s_X9_kept_99 := rfl
set_option maxRecDepth 100000 in
theorem t_X9_kept_105 : dropTo 105 k_X9_kept = s_X9_kept_105 := rfl
set_option maxRecDepth 100000 in
theorem t_X9_kept_118 : dropTo 118 k_X9_kept = s_X9_kept_118 := rfl
set_option maxRecDepth 100000 in
theorem t_X9_kept_124 : dropTo 124 k_X9_kept = s_X9_kept_124 := rfl
theorem ok_X9_kept : mOkF m_X9_kept k_X9_kept = true := by decide +kernel
theorem cm_X9_kept : mChkM m_X9_kept = true := by decide +kernel
def s_X9_kindle_158 : List mE := (158, .aload_n 0, 1, 0, 0, 0, .inl 0, []) ::
  (159, .iload_n 3, 1, 3, 0, 0, .inl 0, []) ::
  (160, .putfield 63, 3, 8, 35, 0, .inl 0, [1231]) ::
  (163, .iload 4, 2, 4, 0, 0, .inl 0, []) ::
  (165, .ireturn, 1, 0, 0, 0, .inl 0, []) :: []
def s_X9_kindle_151 : List mE := (151, .iload_n 3, 1, 3, 0, 0, .inl 0, []) ::
  (152, .iconst (-1), 1, 0, 0, 0, .inl (-1), []) ::
  (153, .if_icmp .ne 5, 3, 158, 0, 0, .inl 0, []) ::
  (156, .iconst (-1), 1, 0, 0, 0, .inl (-1), []) ::
  (157, .ireturn, 1, 0, 0, 0, .inl 0, []) :: s_X9_kindle_158
def s_X9_kindle_145 : List mE := (145, .iinc 5 1, 3, 5, 0, 0, .inl (nI 1), []) ::
  (148, .goto (-114), 3, 34, 0, 0, .inl 0, []) :: s_X9_kindle_151
def s_X9_kindle_138 : List mE := (138, .iload 5, 2, 5, 0, 0, .inl 0, []) ::
  (140, .istore_n 3, 1, 3, 0, 0, .inl 0, []) ::
  (141, .iload 6, 2, 6, 0, 0, .inl 0, []) ::
  (143, .istore 4, 2, 4, 0, 0, .inl 0, []) :: s_X9_kindle_145
def s_X9_kindle_124 : List mE := (124, .aload_n 0, 1, 0, 0, 0, .inl 0, []) ::
  (125, .iload 5, 2, 5, 0, 0, .inl 0, []) ::
  (127, .iload_n 1, 1, 1, 0, 0, .inl 0, []) ::
  (128, .iload_n 2, 1, 2, 0, 0, .inl 0, []) ::
  (129, .invokevirtual 336, 3, 194, 4, 1, .inl 0, [1691, 8]) ::
  (132, .ifCond .ne 6, 3, 138, 0, 0, .inl 0, []) ::
  (135, .goto 10, 3, 145, 0, 0, .inl 0, []) :: s_X9_kindle_138
def s_X9_kindle_112 : List mE := (112, .iload_n 3, 1, 3, 0, 0, .inl 0, []) ::
  (113, .iconst (-1), 1, 0, 0, 0, .inl (-1), []) ::
  (114, .if_icmp .eq 10, 3, 124, 0, 0, .inl 0, []) ::
  (117, .iload 6, 2, 6, 0, 0, .inl 0, []) ::
  (119, .iload 4, 2, 4, 0, 0, .inl 0, []) ::
  (121, .if_icmp .ge 24, 3, 145, 0, 0, .inl 0, []) :: s_X9_kindle_124
def s_X9_kindle_106 : List mE := (106, .iinc 7 1, 3, 7, 0, 0, .inl (nI 1), []) ::
  (109, .goto (-60), 3, 49, 0, 0, .inl 0, []) :: s_X9_kindle_112
def s_X9_kindle_61 : List mE := (61, .iload 8, 2, 8, 0, 0, .inl 0, []) ::
  (63, .aload_n 0, 1, 0, 0, 0, .inl 0, []) ::
  (64, .invokevirtual 222, 3, 165, 1, 1, .inl 0, [1484, 8]) ::
  (67, .if_icmp .ge 39, 3, 106, 0, 0, .inl 0, []) ::
  (70, .iload 5, 2, 5, 0, 0, .inl 0, []) ::
  (72, .iload 7, 2, 7, 0, 0, .inl 0, []) ::
  (74, .invokestatic 250, 3, 169, 2, 1, .inl 0, [1543]) ::
  (77, .ifCond .eq 29, 3, 106, 0, 0, .inl 0, []) ::
  (80, .iload 6, 2, 6, 0, 0, .inl 0, []) ::
  (82, .aload_n 0, 1, 0, 0, 0, .inl 0, []) ::
  (83, .getfield 13, 3, 8, 14, 3, .inr (.inr (16, 925, 2)), [1210]) ::
  (86, .bipush 38, 2, 0, 0, 0, .inl (nI 38), []) ::
  (88, .iload 7, 2, 7, 0, 0, .inl 0, []) ::
  (90, .iload 8, 2, 8, 0, 0, .inl 0, []) ::
  (92, .invokestatic 182, 3, 148, 2, 1, .inl 0, [1437]) ::
  (95, .iadd, 1, 0, 0, 0, .inl 0, []) ::
  (96, .iaload, 1, 0, 0, 0, .inl 0, []) ::
  (97, .iadd, 1, 0, 0, 0, .inl 0, []) ::
  (98, .istore 6, 2, 6, 0, 0, .inl 0, []) ::
  (100, .iinc 8 1, 3, 8, 0, 0, .inl (nI 1), []) ::
  (103, .goto (-42), 3, 61, 0, 0, .inl 0, []) :: s_X9_kindle_106
def s_X9_kindle_49 : List mE := (49, .iload 7, 2, 7, 0, 0, .inl 0, []) ::
  (51, .aload_n 0, 1, 0, 0, 0, .inl 0, []) ::
  (52, .invokevirtual 219, 3, 253, 1, 1, .inl 0, [1472, 8]) ::
  (55, .if_icmp .ge 57, 3, 112, 0, 0, .inl 0, []) ::
  (58, .iconst 0, 1, 0, 0, 0, .inl (nI 0), []) ::
  (59, .istore 8, 2, 8, 0, 0, .inl 0, []) :: s_X9_kindle_61
def s_X9_kindle_34 : List mE := (34, .aload_n 0, 1, 0, 0, 0, .inl 0, []) ::
  (35, .iload 5, 2, 5, 0, 0, .inl 0, []) ::
  (37, .invokevirtual 300, 3, 181, 2, 1, .inl 0, [1610, 8]) ::
  (40, .ifCond .eq 111, 3, 151, 0, 0, .inl 0, []) ::
  (43, .iconst 0, 1, 0, 0, 0, .inl (nI 0), []) ::
  (44, .istore 6, 2, 6, 0, 0, .inl 0, []) ::
  (46, .iconst 0, 1, 0, 0, 0, .inl (nI 0), []) ::
  (47, .istore 7, 2, 7, 0, 0, .inl 0, []) :: s_X9_kindle_49
def s_X9_kindle_26 : List mE := (26, .iconst (-1), 1, 0, 0, 0, .inl (-1), []) ::
  (27, .istore_n 3, 1, 3, 0, 0, .inl 0, []) ::
  (28, .iconst 0, 1, 0, 0, 0, .inl (nI 0), []) ::
  (29, .istore 4, 2, 4, 0, 0, .inl 0, []) ::
  (31, .iconst 0, 1, 0, 0, 0, .inl (nI 0), []) ::
  (32, .istore 5, 2, 5, 0, 0, .inl 0, []) :: s_X9_kindle_34
def s_X9_kindle_23 : List mE := (23, .bipush (-2), 2, 0, 0, 0, .inl (-2), []) ::
  (25, .ireturn, 1, 0, 0, 0, .inl 0, []) :: s_X9_kindle_26
def s_X9_kindle_0 : List mE := (0, .aload_n 0, 1, 0, 0, 0, .inl 0, []) ::
  (1, .iconst 0, 1, 0, 0, 0, .inl (nI 0), []) ::
  (2, .putfield 76, 3, 8, 0, 0, .inl 0, [1196]) ::
  (5, .aload_n 0, 1, 0, 0, 0, .inl 0, []) ::
  (6, .iload_n 1, 1, 1, 0, 0, .inl 0, []) ::
  (7, .invokevirtual 300, 3, 181, 2, 1, .inl 0, [1610, 8]) ::
  (10, .ifCond .eq 13, 3, 23, 0, 0, .inl 0, []) ::
  (13, .iload_n 2, 1, 2, 0, 0, .inl 0, []) ::
  (14, .iconst 1, 1, 0, 0, 0, .inl (nI 1), []) ::
  (15, .bipush 48, 2, 0, 0, 0, .inl (nI 48), []) ::
  (17, .invokestatic 143, 3, 177, 3, 1, .inl 0, [1414]) ::
  (20, .ifCond .ne 6, 3, 26, 0, 0, .inl 0, []) :: s_X9_kindle_23
def k_X9_kindle : List mE := s_X9_kindle_0
set_option maxRecDepth 100000 in
theorem t_X9_kindle_0 : dropTo 0 k_X9_kindle = s_X9_kindle_0 := rfl
set_option maxRecDepth 100000 in
theorem t_X9_kindle_23 : dropTo 23 k_X9_kindle = s_X9_kindle_23 := rfl
set_option maxRecDepth 100000 in
theorem t_X9_kindle_26 : dropTo 26 k_X9_kindle = s_X9_kindle_26 := rfl
set_option maxRecDepth 100000 in
theorem t_X9_kindle_34 : dropTo 34 k_X9_kindle = s_X9_kindle_34 := rfl
set_option maxRecDepth 100000 in
theorem t_X9_kindle_49 : dropTo 49 k_X9_kindle = s_X9_kindle_49 := rfl
set_option maxRecDepth 100000 in
theorem t_X9_kindle_61 : dropTo 61 k_X9_kindle = s_X9_kindle_61 := rfl
set_option maxRecDepth 100000 in
theorem t_X9_kindle_106 : dropTo 106 k_X9_kindle = s_X9_kindle_106 := rfl
set_option maxRecDepth 100000 in
theorem t_X9_kindle_112 : dropTo 112 k_X9_kindle = s_X9_kindle_112 := rfl
set_option maxRecDepth 100000 in
theorem t_X9_kindle_124 : dropTo 124 k_X9_kindle = s_X9_kindle_124 := rfl
set_option maxRecDepth 100000 in
theorem t_X9_kindle_138 : dropTo 138 k_X9_kindle = s_X9_kindle_138 := rfl
set_option maxRecDepth 100000 in
theorem t_X9_kindle_145 : dropTo 145 k_X9_kindle = s_X9_kindle_145 := rfl
set_option maxRecDepth 100000 in
theorem t_X9_kindle_151 : dropTo 151 k_X9_kindle = s_X9_kindle_151 := rfl
set_option maxRecDepth 100000 in
theorem t_X9_kindle_158 : dropTo 158 k_X9_kindle = s_X9_kindle_158 := rfl
theorem ok_X9_kindle : mOkF m_X9_kindle k_X9_kindle = true := by decide +kernel
theorem cm_X9_kindle : mChkM m_X9_kindle = true := by decide +kernel
