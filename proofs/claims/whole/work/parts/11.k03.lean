def s_X8_setWorth_91 : List mE := (91, .getstatic 289, 3, 0, 0, 0, .inr (.inr (20, 9, 0)), [907]) ::
  (94, .aload_n 0, 1, 0, 0, 0, .inl 0, []) ::
  (95, .getfield 84, 3, 7, 15, 0, .inl 0, [493]) ::
  (98, .iaload, 1, 0, 0, 0, .inl 0, []) ::
  (99, .i2l, 1, 0, 0, 0, .inl 0, []) ::
  (100, .lstore 5, 2, 5, 0, 0, .inl 0, []) ::
  (102, .lload_n 3, 1, 3, 0, 0, .inl 0, []) ::
  (103, .invokestatic 292, 3, 0, 1, 13, .inl 0, [909]) ::
  (106, .lload 5, 2, 5, 0, 0, .inl 0, []) ::
  (108, .invokestatic 296, 3, 84, 2, 2, .inl 0, [912]) ::
  (111, .lstore 7, 2, 7, 0, 0, .inl 0, []) ::
  (113, .aload_n 0, 1, 0, 0, 0, .inl 0, []) ::
  (114, .getfield 77, 3, 7, 13, 3, .inr (.inr (17, 8, 162)), [491]) ::
  (117, .iload_n 1, 1, 1, 0, 0, .inl 0, []) ::
  (118, .lload_n 3, 1, 3, 0, 0, .inl 0, []) ::
  (119, .lload 7, 2, 7, 0, 0, .inl 0, []) ::
  (121, .ldiv, 1, 0, 0, 0, .inl 0, []) ::
  (122, .lastore, 1, 0, 0, 0, .inl 0, []) ::
  (123, .aload_n 0, 1, 0, 0, 0, .inl 0, []) ::
  (124, .getfield 81, 3, 7, 14, 3, .inr (.inr (17, 8, 163)), [492]) ::
  (127, .iload_n 1, 1, 1, 0, 0, .inl 0, []) ::
  (128, .lload 5, 2, 5, 0, 0, .inl 0, []) ::
  (130, .lload 7, 2, 7, 0, 0, .inl 0, []) ::
  (132, .ldiv, 1, 0, 0, 0, .inl 0, []) ::
  (133, .lastore, 1, 0, 0, 0, .inl 0, []) ::
  (134, .return_, 1, 0, 0, 0, .inl 0, []) :: []
def s_X8_setWorth_85 : List mE := (85, .iinc 5 1, 3, 5, 0, 0, .inl (nI 1), []) ::
  (88, .goto (-75), 3, 13, 0, 0, .inl 0, []) :: s_X8_setWorth_91
def s_X8_setWorth_13 : List mE := (13, .iload 5, 2, 5, 0, 0, .inl 0, []) ::
  (15, .iload_n 2, 1, 2, 0, 0, .inl 0, []) ::
  (16, .if_icmp .gt 75, 3, 91, 0, 0, .inl 0, []) ::
  (19, .iload 5, 2, 5, 0, 0, .inl 0, []) ::
  (21, .iload_n 1, 1, 1, 0, 0, .inl 0, []) ::
  (22, .ishr, 1, 0, 0, 0, .inl 0, []) ::
  (23, .iconst 1, 1, 0, 0, 0, .inl (nI 1), []) ::
  (24, .iand, 1, 0, 0, 0, .inl 0, []) ::
  (25, .ifCond .ne 60, 3, 85, 0, 0, .inl 0, []) ::
  (28, .iload 5, 2, 5, 0, 0, .inl 0, []) ::
  (30, .invokestatic 284, 3, 0, 1, 1, .inl 0, [901]) ::
  (33, .istore 6, 2, 6, 0, 0, .inl 0, []) ::
  (35, .getstatic 289, 3, 0, 0, 0, .inr (.inr (20, 9, 0)), [907]) ::
  (38, .iload 6, 2, 6, 0, 0, .inl 0, []) ::
  (40, .iaload, 1, 0, 0, 0, .inl 0, []) ::
  (41, .i2l, 1, 0, 0, 0, .inl 0, []) ::
  (42, .getstatic 289, 3, 0, 0, 0, .inr (.inr (20, 9, 0)), [907]) ::
  (45, .aload_n 0, 1, 0, 0, 0, .inl 0, []) ::
  (46, .getfield 84, 3, 7, 15, 0, .inl 0, [493]) ::
  (49, .iconst 1, 1, 0, 0, 0, .inl (nI 1), []) ::
  (50, .isub, 1, 0, 0, 0, .inl 0, []) ::
  (51, .iload 6, 2, 6, 0, 0, .inl 0, []) ::
  (53, .isub, 1, 0, 0, 0, .inl 0, []) ::
  (54, .iaload, 1, 0, 0, 0, .inl 0, []) ::
  (55, .i2l, 1, 0, 0, 0, .inl 0, []) ::
  (56, .lmul, 1, 0, 0, 0, .inl 0, []) ::
  (57, .lstore 7, 2, 7, 0, 0, .inl 0, []) ::
  (59, .lload_n 3, 1, 3, 0, 0, .inl 0, []) ::
  (60, .lload 7, 2, 7, 0, 0, .inl 0, []) ::
  (62, .aload_n 0, 1, 0, 0, 0, .inl 0, []) ::
  (63, .getfield 73, 3, 7, 12, 3, .inr (.inr (16, 256, 161)), [490]) ::
  (66, .iload 5, 2, 5, 0, 0, .inl 0, []) ::
  (68, .iconst 1, 1, 0, 0, 0, .inl (nI 1), []) ::
  (69, .iload_n 1, 1, 1, 0, 0, .inl 0, []) ::
  (70, .ishl, 1, 0, 0, 0, .inl 0, []) ::
  (71, .ior, 1, 0, 0, 0, .inl 0, []) ::
  (72, .iaload, 1, 0, 0, 0, .inl 0, []) ::
  (73, .aload_n 0, 1, 0, 0, 0, .inl 0, []) ::
  (74, .getfield 73, 3, 7, 12, 3, .inr (.inr (16, 256, 161)), [490]) ::
  (77, .iload 5, 2, 5, 0, 0, .inl 0, []) ::
  (79, .iaload, 1, 0, 0, 0, .inl 0, []) ::
  (80, .isub, 1, 0, 0, 0, .inl 0, []) ::
  (81, .i2l, 1, 0, 0, 0, .inl 0, []) ::
  (82, .lmul, 1, 0, 0, 0, .inl 0, []) ::
  (83, .ladd, 1, 0, 0, 0, .inl 0, []) ::
  (84, .lstore_n 3, 1, 3, 0, 0, .inl 0, []) :: s_X8_setWorth_85
def s_X8_setWorth_0 : List mE := (0, .aload_n 0, 1, 0, 0, 0, .inl 0, []) ::
  (1, .getfield 19, 3, 7, 1, 3, .inr (.inr (0, 0, 4)), [479]) ::
  (4, .invokevirtual 181, 3, 2, 1, 1, .inl 0, [728, 0]) ::
  (7, .istore_n 2, 1, 2, 0, 0, .inl 0, []) ::
  (8, .lconst 0, 1, 0, 0, 0, .inr (.inl 0), []) ::
  (9, .lstore_n 3, 1, 3, 0, 0, .inl 0, []) ::
  (10, .iconst 0, 1, 0, 0, 0, .inl (nI 0), []) ::
  (11, .istore 5, 2, 5, 0, 0, .inl 0, []) :: s_X8_setWorth_13
def k_X8_setWorth : List mE := s_X8_setWorth_0
set_option maxRecDepth 100000 in
theorem t_X8_setWorth_0 : dropTo 0 k_X8_setWorth = s_X8_setWorth_0 := rfl
set_option maxRecDepth 100000 in
theorem t_X8_setWorth_13 : dropTo 13 k_X8_setWorth = s_X8_setWorth_13 := rfl
set_option maxRecDepth 100000 in
theorem t_X8_setWorth_85 : dropTo 85 k_X8_setWorth = s_X8_setWorth_85 := rfl
set_option maxRecDepth 100000 in
theorem t_X8_setWorth_91 : dropTo 91 k_X8_setWorth = s_X8_setWorth_91 := rfl
theorem ok_X8_setWorth : mOkF m_X8_setWorth k_X8_setWorth = true := by decide +kernel
theorem cm_X8_setWorth : mChkM m_X8_setWorth = true := by decide +kernel
def s_X8_sharesOf_62 : List mE := (62, .iload_n 2, 1, 2, 0, 0, .inl 0, []) ::
  (63, .ireturn, 1, 0, 0, 0, .inl 0, []) :: []
def s_X8_sharesOf_56 : List mE := (56, .iinc 3 1, 3, 3, 0, 0, .inl (nI 1), []) ::
  (59, .goto (-55), 3, 4, 0, 0, .inl 0, []) :: s_X8_sharesOf_62
def s_X8_sharesOf_4 : List mE := (4, .iload_n 3, 1, 3, 0, 0, .inl 0, []) ::
  (5, .aload_n 0, 1, 0, 0, 0, .inl 0, []) ::
  (6, .getfield 19, 3, 7, 1, 3, .inr (.inr (0, 0, 4)), [479]) ::
  (9, .getfield 175, 3, 0, 1, 0, .inl 0, [249]) ::
  (12, .if_icmp .ge 50, 3, 62, 0, 0, .inl 0, []) ::
  (15, .iload_n 1, 1, 1, 0, 0, .inl 0, []) ::
  (16, .iload_n 3, 1, 3, 0, 0, .inl 0, []) ::
  (17, .ishr, 1, 0, 0, 0, .inl 0, []) ::
  (18, .iconst 1, 1, 0, 0, 0, .inl (nI 1), []) ::
  (19, .iand, 1, 0, 0, 0, .inl 0, []) ::
  (20, .iconst 1, 1, 0, 0, 0, .inl (nI 1), []) ::
  (21, .if_icmp .ne 35, 3, 56, 0, 0, .inl 0, []) ::
  (24, .iload_n 2, 1, 2, 0, 0, .inl 0, []) ::
  (25, .aload_n 0, 1, 0, 0, 0, .inl 0, []) ::
  (26, .getfield 12, 3, 7, 0, 3, .inr (.inr (5, 0, 1)), [478]) ::
  (29, .getfield 308, 3, 5, 0, 3, .inr (.inr (16, 940, 1)), [186]) ::
  (32, .iconst 2, 1, 0, 0, 0, .inl (nI 2), []) ::
  (33, .iload_n 3, 1, 3, 0, 0, .inl 0, []) ::
  (34, .imul, 1, 0, 0, 0, .inl 0, []) ::
  (35, .iaload, 1, 0, 0, 0, .inl 0, []) ::
  (36, .sipush 256, 3, 0, 0, 0, .inl (nI 256), []) ::
  (39, .imul, 1, 0, 0, 0, .inl 0, []) ::
  (40, .aload_n 0, 1, 0, 0, 0, .inl 0, []) ::
  (41, .getfield 12, 3, 7, 0, 3, .inr (.inr (5, 0, 1)), [478]) ::
  (44, .getfield 308, 3, 5, 0, 3, .inr (.inr (16, 940, 1)), [186]) ::
  (47, .iconst 2, 1, 0, 0, 0, .inl (nI 2), []) ::
  (48, .iload_n 3, 1, 3, 0, 0, .inl 0, []) ::
  (49, .imul, 1, 0, 0, 0, .inl 0, []) ::
  (50, .iconst 1, 1, 0, 0, 0, .inl (nI 1), []) ::
  (51, .iadd, 1, 0, 0, 0, .inl 0, []) ::
  (52, .iaload, 1, 0, 0, 0, .inl 0, []) ::
  (53, .iadd, 1, 0, 0, 0, .inl 0, []) ::
  (54, .iadd, 1, 0, 0, 0, .inl 0, []) ::
  (55, .istore_n 2, 1, 2, 0, 0, .inl 0, []) :: s_X8_sharesOf_56
def s_X8_sharesOf_0 : List mE := (0, .iconst 0, 1, 0, 0, 0, .inl (nI 0), []) ::
  (1, .istore_n 2, 1, 2, 0, 0, .inl 0, []) ::
  (2, .iconst 0, 1, 0, 0, 0, .inl (nI 0), []) ::
  (3, .istore_n 3, 1, 3, 0, 0, .inl 0, []) :: s_X8_sharesOf_4
def k_X8_sharesOf : List mE := s_X8_sharesOf_0
set_option maxRecDepth 100000 in
theorem t_X8_sharesOf_0 : dropTo 0 k_X8_sharesOf = s_X8_sharesOf_0 := rfl
set_option maxRecDepth 100000 in
theorem t_X8_sharesOf_4 : dropTo 4 k_X8_sharesOf = s_X8_sharesOf_4 := rfl
set_option maxRecDepth 100000 in
theorem t_X8_sharesOf_56 : dropTo 56 k_X8_sharesOf = s_X8_sharesOf_56 := rfl
set_option maxRecDepth 100000 in
theorem t_X8_sharesOf_62 : dropTo 62 k_X8_sharesOf = s_X8_sharesOf_62 := rfl
theorem ok_X8_sharesOf : mOkF m_X8_sharesOf k_X8_sharesOf = true := by decide +kernel
theorem cm_X8_sharesOf : mChkM m_X8_sharesOf = true := by decide +kernel
def s_X8_steadies_69 : List mE := (69, .ireturn, 1, 0, 0, 0, .inl 0, []) :: []
def s_X8_steadies_68 : List mE := (68, .iconst (-1), 1, 0, 0, 0, .inl (-1), []) :: s_X8_steadies_69
def s_X8_steadies_59 : List mE := (59, .iload_n 1, 1, 1, 0, 0, .inl 0, []) ::
  (60, .iconst (-1), 1, 0, 0, 0, .inl (-1), []) ::
  (61, .if_icmp .ne 7, 3, 68, 0, 0, .inl 0, []) ::
  (64, .iload_n 3, 1, 3, 0, 0, .inl 0, []) ::
  (65, .goto 4, 3, 69, 0, 0, .inl 0, []) :: s_X8_steadies_68
def s_X8_steadies_53 : List mE := (53, .iinc 4 1, 3, 4, 0, 0, .inl (nI 1), []) ::
  (56, .goto (-36), 3, 20, 0, 0, .inl 0, []) :: s_X8_steadies_59
def s_X8_steadies_50 : List mE := (50, .iinc 3 1, 3, 3, 0, 0, .inl (nI 1), []) :: s_X8_steadies_53
def s_X8_steadies_20 : List mE := (20, .iload 4, 2, 4, 0, 0, .inl 0, []) ::
  (22, .iload_n 2, 1, 2, 0, 0, .inl 0, []) ::
  (23, .if_icmp .gt 36, 3, 59, 0, 0, .inl 0, []) ::
  (26, .aload_n 0, 1, 0, 0, 0, .inl 0, []) ::
  (27, .getfield 53, 3, 7, 8, 3, .inr (.inr (3, 0, 62)), [486]) ::
  (30, .aload_n 0, 1, 0, 0, 0, .inl 0, []) ::
  (31, .getfield 19, 3, 7, 1, 3, .inr (.inr (0, 0, 4)), [479]) ::
  (34, .iload 4, 2, 4, 0, 0, .inl 0, []) ::
  (36, .invokevirtual 311, 3, 38, 3, 1, .inl 0, [930, 3]) ::
  (39, .ifCond .eq 14, 3, 53, 0, 0, .inl 0, []) ::
  (42, .iload_n 3, 1, 3, 0, 0, .inl 0, []) ::
  (43, .iload_n 1, 1, 1, 0, 0, .inl 0, []) ::
  (44, .if_icmp .ne 6, 3, 50, 0, 0, .inl 0, []) ::
  (47, .iload 4, 2, 4, 0, 0, .inl 0, []) ::
  (49, .ireturn, 1, 0, 0, 0, .inl 0, []) :: s_X8_steadies_50
def s_X8_steadies_7 : List mE := (7, .aload_n 0, 1, 0, 0, 0, .inl 0, []) ::
  (8, .getfield 19, 3, 7, 1, 3, .inr (.inr (0, 0, 4)), [479]) ::
  (11, .invokevirtual 181, 3, 2, 1, 1, .inl 0, [728, 0]) ::
  (14, .istore_n 2, 1, 2, 0, 0, .inl 0, []) ::
  (15, .iconst 0, 1, 0, 0, 0, .inl (nI 0), []) ::
  (16, .istore_n 3, 1, 3, 0, 0, .inl 0, []) ::
  (17, .iconst 0, 1, 0, 0, 0, .inl (nI 0), []) ::
  (18, .istore 4, 2, 4, 0, 0, .inl 0, []) :: s_X8_steadies_20
def s_X8_steadies_0 : List mE := (0, .iload_n 1, 1, 1, 0, 0, .inl 0, []) ::
  (1, .iconst (-1), 1, 0, 0, 0, .inl (-1), []) ::
  (2, .if_icmp .ge 5, 3, 7, 0, 0, .inl 0, []) ::
  (5, .iconst (-1), 1, 0, 0, 0, .inl (-1), []) ::
  (6, .ireturn, 1, 0, 0, 0, .inl 0, []) :: s_X8_steadies_7
def k_X8_steadies : List mE := s_X8_steadies_0
set_option maxRecDepth 100000 in
theorem t_X8_steadies_0 : dropTo 0 k_X8_steadies = s_X8_steadies_0 := rfl
set_option maxRecDepth 100000 in
theorem t_X8_steadies_7 : dropTo 7 k_X8_steadies = s_X8_steadies_7 := rfl
set_option maxRecDepth 100000 in
theorem t_X8_steadies_20 : dropTo 20 k_X8_steadies = s_X8_steadies_20 := rfl
set_option maxRecDepth 100000 in
theorem t_X8_steadies_50 : dropTo 50 k_X8_steadies = s_X8_steadies_50 := rfl
set_option maxRecDepth 100000 in
theorem t_X8_steadies_53 : dropTo 53 k_X8_steadies = s_X8_steadies_53 := rfl
set_option maxRecDepth 100000 in
theorem t_X8_steadies_59 : dropTo 59 k_X8_steadies = s_X8_steadies_59 := rfl
set_option maxRecDepth 100000 in
theorem t_X8_steadies_68 : dropTo 68 k_X8_steadies = s_X8_steadies_68 := rfl
set_option maxRecDepth 100000 in
theorem t_X8_steadies_69 : dropTo 69 k_X8_steadies = s_X8_steadies_69 := rfl
theorem ok_X8_steadies : mOkF m_X8_steadies k_X8_steadies = true := by decide +kernel
theorem cm_X8_steadies : mChkM m_X8_steadies = true := by decide +kernel
def s_X8_steady_30 : List mE := (30, .ireturn, 1, 0, 0, 0, .inl 0, []) :: []
def s_X8_steady_29 : List mE := (29, .iconst 0, 1, 0, 0, 0, .inl (nI 0), []) :: s_X8_steady_30
def s_X8_steady_10 : List mE := (10, .aload_n 0, 1, 0, 0, 0, .inl 0, []) ::
  (11, .getfield 53, 3, 7, 8, 3, .inr (.inr (3, 0, 62)), [486]) ::
  (14, .aload_n 0, 1, 0, 0, 0, .inl 0, []) ::
  (15, .getfield 19, 3, 7, 1, 3, .inr (.inr (0, 0, 4)), [479]) ::
  (18, .iload_n 1, 1, 1, 0, 0, .inl 0, []) ::
  (19, .invokevirtual 311, 3, 38, 3, 1, .inl 0, [930, 3]) ::
  (22, .ifCond .eq 7, 3, 29, 0, 0, .inl 0, []) ::
  (25, .iconst 1, 1, 0, 0, 0, .inl (nI 1), []) ::
  (26, .goto 4, 3, 30, 0, 0, .inl 0, []) :: s_X8_steady_29
def s_X8_steady_0 : List mE := (0, .aload_n 0, 1, 0, 0, 0, .inl 0, []) ::
  (1, .iload_n 1, 1, 1, 0, 0, .inl 0, []) ::
  (2, .invokevirtual 268, 3, 104, 2, 1, .inl 0, [874, 7]) ::
  (5, .ifCond .ne 5, 3, 10, 0, 0, .inl 0, []) ::
  (8, .iconst (-1), 1, 0, 0, 0, .inl (-1), []) ::
  (9, .ireturn, 1, 0, 0, 0, .inl 0, []) :: s_X8_steady_10
def k_X8_steady : List mE := s_X8_steady_0
set_option maxRecDepth 100000 in
theorem t_X8_steady_0 : dropTo 0 k_X8_steady = s_X8_steady_0 := rfl
set_option maxRecDepth 100000 in
theorem t_X8_steady_10 : dropTo 10 k_X8_steady = s_X8_steady_10 := rfl
set_option maxRecDepth 100000 in
theorem t_X8_steady_29 : dropTo 29 k_X8_steady = s_X8_steady_29 := rfl
set_option maxRecDepth 100000 in
theorem t_X8_steady_30 : dropTo 30 k_X8_steady = s_X8_steady_30 := rfl
theorem ok_X8_steady : mOkF m_X8_steady k_X8_steady = true := by decide +kernel
theorem cm_X8_steady : mChkM m_X8_steady = true := by decide +kernel
def s_X8_vat_27 : List mE := (27, .ireturn, 1, 0, 0, 0, .inl 0, []) :: []
def s_X8_vat_26 : List mE := (26, .iconst (-1), 1, 0, 0, 0, .inl (-1), []) :: s_X8_vat_27
def s_X8_vat_0 : List mE := (0, .aload_n 0, 1, 0, 0, 0, .inl 0, []) ::
  (1, .iload_n 1, 1, 1, 0, 0, .inl 0, []) ::
  (2, .iload_n 2, 1, 2, 0, 0, .inl 0, []) ::
  (3, .invokevirtual 209, 3, 105, 3, 1, .inl 0, [772, 7]) ::
  (6, .ifCond .eq 20, 3, 26, 0, 0, .inl 0, []) ::
  (9, .aload_n 0, 1, 0, 0, 0, .inl 0, []) ::
  (10, .getfield 49, 3, 7, 7, 3, .inr (.inr (3, 0, 50)), [485]) ::
  (13, .getfield 213, 3, 3, 1, 3, .inr (.inr (16, 48, 1)), [383]) ::
  (16, .iload_n 1, 1, 1, 0, 0, .inl 0, []) ::
  (17, .bipush 6, 2, 0, 0, 0, .inl (nI 6), []) ::
  (19, .imul, 1, 0, 0, 0, .inl 0, []) ::
  (20, .iload_n 2, 1, 2, 0, 0, .inl 0, []) ::
  (21, .iadd, 1, 0, 0, 0, .inl 0, []) ::
  (22, .iaload, 1, 0, 0, 0, .inl 0, []) ::
  (23, .goto 4, 3, 27, 0, 0, .inl 0, []) :: s_X8_vat_26
def k_X8_vat : List mE := s_X8_vat_0
set_option maxRecDepth 100000 in
theorem t_X8_vat_0 : dropTo 0 k_X8_vat = s_X8_vat_0 := rfl
set_option maxRecDepth 100000 in
theorem t_X8_vat_26 : dropTo 26 k_X8_vat = s_X8_vat_26 := rfl
set_option maxRecDepth 100000 in
theorem t_X8_vat_27 : dropTo 27 k_X8_vat = s_X8_vat_27 := rfl
theorem ok_X8_vat : mOkF m_X8_vat k_X8_vat = true := by decide +kernel
theorem cm_X8_vat : mChkM m_X8_vat = true := by decide +kernel
def s_X8_went_141 : List mE := (141, .iconst (-1), 1, 0, 0, 0, .inl (-1), []) ::
  (142, .ireturn, 1, 0, 0, 0, .inl 0, []) :: []
def s_X8_went_140 : List mE := (140, .ireturn, 1, 0, 0, 0, .inl 0, []) :: s_X8_went_141
def s_X8_went_139 : List mE := (139, .iconst 0, 1, 0, 0, 0, .inl (nI 0), []) :: s_X8_went_140
def s_X8_went_124 : List mE := (124, .aload_n 0, 1, 0, 0, 0, .inl 0, []) ::
  (125, .getfield 49, 3, 7, 7, 3, .inr (.inr (3, 0, 50)), [485]) ::
  (128, .iload_n 1, 1, 1, 0, 0, .inl 0, []) ::
  (129, .invokevirtual 225, 3, 48, 2, 1, .inl 0, [780, 3]) ::
  (132, .ifCond .eq 7, 3, 139, 0, 0, .inl 0, []) ::
  (135, .iconst 1, 1, 0, 0, 0, .inl (nI 1), []) ::
  (136, .goto 4, 3, 140, 0, 0, .inl 0, []) :: s_X8_went_139
def s_X8_went_114 : List mE := (114, .aload_n 0, 1, 0, 0, 0, .inl 0, []) ::
  (115, .getfield 49, 3, 7, 7, 3, .inr (.inr (3, 0, 50)), [485]) ::
  (118, .getfield 222, 3, 3, 9, 3, .inr (.inr (16, 8, 9)), [397]) ::
  (121, .iload_n 1, 1, 1, 0, 0, .inl 0, []) ::
  (122, .iaload, 1, 0, 0, 0, .inl 0, []) ::
  (123, .ireturn, 1, 0, 0, 0, .inl 0, []) :: s_X8_went_124
def s_X8_went_104 : List mE := (104, .aload_n 0, 1, 0, 0, 0, .inl 0, []) ::
  (105, .getfield 49, 3, 7, 7, 3, .inr (.inr (3, 0, 50)), [485]) ::
  (108, .getfield 219, 3, 3, 10, 3, .inr (.inr (16, 8, 10)), [400]) ::
  (111, .iload_n 1, 1, 1, 0, 0, .inl 0, []) ::
  (112, .iaload, 1, 0, 0, 0, .inl 0, []) ::
  (113, .ireturn, 1, 0, 0, 0, .inl 0, []) :: s_X8_went_114
def s_X8_went_84 : List mE := (84, .aload_n 0, 1, 0, 0, 0, .inl 0, []) ::
  (85, .getfield 49, 3, 7, 7, 3, .inr (.inr (3, 0, 50)), [485]) ::
  (88, .getfield 216, 3, 3, 8, 3, .inr (.inr (16, 8, 8)), [395]) ::
  (91, .iload_n 1, 1, 1, 0, 0, .inl 0, []) ::
  (92, .iaload, 1, 0, 0, 0, .inl 0, []) ::
  (93, .aload_n 0, 1, 0, 0, 0, .inl 0, []) ::
  (94, .getfield 19, 3, 7, 1, 3, .inr (.inr (0, 0, 4)), [479]) ::
  (97, .getfield 147, 3, 0, 9, 3, .inr (.inr (16, 8, 6)), [268]) ::
  (100, .iload_n 1, 1, 1, 0, 0, .inl 0, []) ::
  (101, .iaload, 1, 0, 0, 0, .inl 0, []) ::
  (102, .imul, 1, 0, 0, 0, .inl 0, []) ::
  (103, .ireturn, 1, 0, 0, 0, .inl 0, []) :: s_X8_went_104
def s_X8_went_66 : List mE := (66, .aload_n 0, 1, 0, 0, 0, .inl 0, []) ::
  (67, .getfield 49, 3, 7, 7, 3, .inr (.inr (3, 0, 50)), [485]) ::
  (70, .getfield 123, 3, 3, 0, 0, .inl 0, [379]) ::
  (73, .aload_n 0, 1, 0, 0, 0, .inl 0, []) ::
  (74, .getfield 49, 3, 7, 7, 3, .inr (.inr (3, 0, 50)), [485]) ::
  (77, .getfield 216, 3, 3, 8, 3, .inr (.inr (16, 8, 8)), [395]) ::
  (80, .iload_n 1, 1, 1, 0, 0, .inl 0, []) ::
  (81, .iaload, 1, 0, 0, 0, .inl 0, []) ::
  (82, .isub, 1, 0, 0, 0, .inl 0, []) ::
  (83, .ireturn, 1, 0, 0, 0, .inl 0, []) :: s_X8_went_84
def s_X8_went_56 : List mE := (56, .aload_n 0, 1, 0, 0, 0, .inl 0, []) ::
  (57, .getfield 49, 3, 7, 7, 3, .inr (.inr (3, 0, 50)), [485]) ::
  (60, .getfield 216, 3, 3, 8, 3, .inr (.inr (16, 8, 8)), [395]) ::
  (63, .iload_n 1, 1, 1, 0, 0, .inl 0, []) ::
  (64, .iaload, 1, 0, 0, 0, .inl 0, []) ::
  (65, .ireturn, 1, 0, 0, 0, .inl 0, []) :: s_X8_went_66
def s_X8_went_17 : List mE := (17, .iload_n 2, 1, 2, 0, 0, .inl 0, []) ::
  (18, .tableswitch 123 0 5 #[38, 48, 66, 86, 96, 106], 38, 141, 0, 0, .inl 0, [56, 66, 84, 104, 114, 124]) :: s_X8_went_56
def s_X8_went_15 : List mE := (15, .iconst (-1), 1, 0, 0, 0, .inl (-1), []) ::
  (16, .ireturn, 1, 0, 0, 0, .inl 0, []) :: s_X8_went_17
def s_X8_went_0 : List mE := (0, .aload_n 0, 1, 0, 0, 0, .inl 0, []) ::
  (1, .invokevirtual 188, 3, 103, 1, 1, .inl 0, [712, 7]) ::
  (4, .ifCond .eq 11, 3, 15, 0, 0, .inl 0, []) ::
  (7, .aload_n 0, 1, 0, 0, 0, .inl 0, []) ::
  (8, .iload_n 1, 1, 1, 0, 0, .inl 0, []) ::
  (9, .invokevirtual 130, 3, 106, 2, 1, .inl 0, [682, 7]) ::
  (12, .ifCond .ne 5, 3, 17, 0, 0, .inl 0, []) :: s_X8_went_15
def k_X8_went : List mE := s_X8_went_0
set_option maxRecDepth 100000 in
theorem t_X8_went_0 : dropTo 0 k_X8_went = s_X8_went_0 := rfl
set_option maxRecDepth 100000 in
theorem t_X8_went_15 : dropTo 15 k_X8_went = s_X8_went_15 := rfl
set_option maxRecDepth 100000 in
theorem t_X8_went_17 : dropTo 17 k_X8_went = s_X8_went_17 := rfl
set_option maxRecDepth 100000 in
theorem t_X8_went_56 : dropTo 56 k_X8_went = s_X8_went_56 := rfl
set_option maxRecDepth 100000 in
theorem t_X8_went_66 : dropTo 66 k_X8_went = s_X8_went_66 := rfl
set_option maxRecDepth 100000 in
theorem t_X8_went_84 : dropTo 84 k_X8_went = s_X8_went_84 := rfl
set_option maxRecDepth 100000 in
theorem t_X8_went_104 : dropTo 104 k_X8_went = s_X8_went_104 := rfl
set_option maxRecDepth 100000 in
theorem t_X8_went_114 : dropTo 114 k_X8_went = s_X8_went_114 := rfl
set_option maxRecDepth 100000 in
theorem t_X8_went_124 : dropTo 124 k_X8_went = s_X8_went_124 := rfl
set_option maxRecDepth 100000 in
theorem t_X8_went_139 : dropTo 139 k_X8_went = s_X8_went_139 := rfl
set_option maxRecDepth 100000 in
theorem t_X8_went_140 : dropTo 140 k_X8_went = s_X8_went_140 := rfl
set_option maxRecDepth 100000 in
theorem t_X8_went_141 : dropTo 141 k_X8_went = s_X8_went_141 := rfl
theorem ok_X8_went : mOkF m_X8_went k_X8_went = true := by decide +kernel
theorem cm_X8_went : mChkM m_X8_went = true := by decide +kernel
def s_X8_wider_181 : List mE := (181, .iload_n 3, 1, 3, 0, 0, .inl 0, []) ::
  (182, .ireturn, 1, 0, 0, 0, .inl 0, []) :: []
def s_X8_wider_175 : List mE := (175, .iinc 5 1, 3, 5, 0, 0, .inl (nI 1), []) ::
  (178, .goto (-139), 3, 39, 0, 0, .inl 0, []) :: s_X8_wider_181
def s_X8_wider_169 : List mE := (169, .iinc 6 1, 3, 6, 0, 0, .inl (nI 1), []) ::
  (172, .goto (-118), 3, 54, 0, 0, .inl 0, []) :: s_X8_wider_175
def s_X8_wider_54 : List mE := (54, .iload 6, 2, 6, 0, 0, .inl 0, []) ::
  (56, .aload_n 0, 1, 0, 0, 0, .inl 0, []) ::
  (57, .getfield 19, 3, 7, 1, 3, .inr (.inr (0, 0, 4)), [479]) ::
  (60, .getfield 178, 3, 0, 0, 0, .inl 0, [246]) ::
  (63, .if_icmp .ge 112, 3, 175, 0, 0, .inl 0, []) ::
  (66, .iload 5, 2, 5, 0, 0, .inl 0, []) ::
  (68, .bipush 6, 2, 0, 0, 0, .inl (nI 6), []) ::
  (70, .imul, 1, 0, 0, 0, .inl 0, []) ::
  (71, .iload 6, 2, 6, 0, 0, .inl 0, []) ::
  (73, .iadd, 1, 0, 0, 0, .inl 0, []) ::
  (74, .istore 7, 2, 7, 0, 0, .inl 0, []) ::
  (76, .aload_n 0, 1, 0, 0, 0, .inl 0, []) ::
  (77, .getfield 19, 3, 7, 1, 3, .inr (.inr (0, 0, 4)), [479]) ::
  (80, .getfield 150, 3, 0, 10, 3, .inr (.inr (16, 48, 7)), [274]) ::
  (83, .iload 7, 2, 7, 0, 0, .inl 0, []) ::
  (85, .iaload, 1, 0, 0, 0, .inl 0, []) ::
  (86, .ifCond .le 83, 3, 169, 0, 0, .inl 0, []) ::
  (89, .aload_n 0, 1, 0, 0, 0, .inl 0, []) ::
  (90, .getfield 23, 3, 7, 2, 3, .inr (.inr (0, 0, 16)), [480]) ::
  (93, .getfield 166, 3, 0, 11, 3, .inr (.inr (16, 48, 8)), [278]) ::
  (96, .iload 7, 2, 7, 0, 0, .inl 0, []) ::
  (98, .aload_n 0, 1, 0, 0, 0, .inl 0, []) ::
  (99, .getfield 19, 3, 7, 1, 3, .inr (.inr (0, 0, 4)), [479]) ::
  (102, .getfield 166, 3, 0, 11, 3, .inr (.inr (16, 48, 8)), [278]) ::
  (105, .iload 7, 2, 7, 0, 0, .inl 0, []) ::
  (107, .iaload, 1, 0, 0, 0, .inl 0, []) ::
  (108, .iload_n 1, 1, 1, 0, 0, .inl 0, []) ::
  (109, .iadd, 1, 0, 0, 0, .inl 0, []) ::
  (110, .iastore, 1, 0, 0, 0, .inl 0, []) ::
  (111, .aload_n 0, 1, 0, 0, 0, .inl 0, []) ::
  (112, .aload_n 0, 1, 0, 0, 0, .inl 0, []) ::
  (113, .getfield 23, 3, 7, 2, 3, .inr (.inr (0, 0, 16)), [480]) ::
  (116, .aload_n 0, 1, 0, 0, 0, .inl 0, []) ::
  (117, .getfield 19, 3, 7, 1, 3, .inr (.inr (0, 0, 4)), [479]) ::
  (120, .invokevirtual 181, 3, 2, 1, 1, .inl 0, [728, 0]) ::
  (123, .iload_n 2, 1, 2, 0, 0, .inl 0, []) ::
  (124, .invokevirtual 274, 3, 114, 4, 1, .inl 0, [881, 7]) ::
  (127, .istore 8, 2, 8, 0, 0, .inl 0, []) ::
  (129, .aload_n 0, 1, 0, 0, 0, .inl 0, []) ::
  (130, .getfield 23, 3, 7, 2, 3, .inr (.inr (0, 0, 16)), [480]) ::
  (133, .getfield 166, 3, 0, 11, 3, .inr (.inr (16, 48, 8)), [278]) ::
  (136, .iload 7, 2, 7, 0, 0, .inl 0, []) ::
  (138, .aload_n 0, 1, 0, 0, 0, .inl 0, []) ::
  (139, .getfield 19, 3, 7, 1, 3, .inr (.inr (0, 0, 4)), [479]) ::
  (142, .getfield 166, 3, 0, 11, 3, .inr (.inr (16, 48, 8)), [278]) ::
  (145, .iload 7, 2, 7, 0, 0, .inl 0, []) ::
  (147, .iaload, 1, 0, 0, 0, .inl 0, []) ::
  (148, .iastore, 1, 0, 0, 0, .inl 0, []) ::
  (149, .iload 8, 2, 8, 0, 0, .inl 0, []) ::
  (151, .iload 4, 2, 4, 0, 0, .inl 0, []) ::
  (153, .if_icmp .le 16, 3, 169, 0, 0, .inl 0, []) ::
  (156, .iload 8, 2, 8, 0, 0, .inl 0, []) ::
  (158, .istore 4, 2, 4, 0, 0, .inl 0, []) ::
  (160, .bipush 10, 2, 0, 0, 0, .inl (nI 10), []) ::
  (162, .iload 5, 2, 5, 0, 0, .inl 0, []) ::
  (164, .imul, 1, 0, 0, 0, .inl 0, []) ::
  (165, .iload 6, 2, 6, 0, 0, .inl 0, []) ::
  (167, .iadd, 1, 0, 0, 0, .inl 0, []) ::
  (168, .istore_n 3, 1, 3, 0, 0, .inl 0, []) :: s_X8_wider_169
def s_X8_wider_39 : List mE := (39, .iload 5, 2, 5, 0, 0, .inl 0, []) ::
  (41, .aload_n 0, 1, 0, 0, 0, .inl 0, []) ::
  (42, .getfield 19, 3, 7, 1, 3, .inr (.inr (0, 0, 4)), [479]) ::
  (45, .getfield 175, 3, 0, 1, 0, .inl 0, [249]) ::
  (48, .if_icmp .ge 133, 3, 181, 0, 0, .inl 0, []) ::
  (51, .iconst 0, 1, 0, 0, 0, .inl (nI 0), []) ::
  (52, .istore 6, 2, 6, 0, 0, .inl 0, []) :: s_X8_wider_54
def s_X8_wider_20 : List mE := (20, .aload_n 0, 1, 0, 0, 0, .inl 0, []) ::
  (21, .getfield 23, 3, 7, 2, 3, .inr (.inr (0, 0, 16)), [480]) ::
  (24, .aload_n 0, 1, 0, 0, 0, .inl 0, []) ::
  (25, .getfield 19, 3, 7, 1, 3, .inr (.inr (0, 0, 4)), [479]) ::
  (28, .invokevirtual 115, 3, 4, 2, 0, .inl 0, [659, 0]) ::
  (31, .iconst (-1), 1, 0, 0, 0, .inl (-1), []) ::
  (32, .istore_n 3, 1, 3, 0, 0, .inl 0, []) ::
  (33, .iconst (-1), 1, 0, 0, 0, .inl (-1), []) ::
  (34, .istore 4, 2, 4, 0, 0, .inl 0, []) ::
  (36, .iconst 0, 1, 0, 0, 0, .inl (nI 0), []) ::
  (37, .istore 5, 2, 5, 0, 0, .inl 0, []) :: s_X8_wider_39
def s_X8_wider_18 : List mE := (18, .iconst (-1), 1, 0, 0, 0, .inl (-1), []) ::
  (19, .ireturn, 1, 0, 0, 0, .inl 0, []) :: s_X8_wider_20
def s_X8_wider_0 : List mE := (0, .iload_n 1, 1, 1, 0, 0, .inl 0, []) ::
  (1, .iconst 1, 1, 0, 0, 0, .inl (nI 1), []) ::
  (2, .if_icmp .lt 16, 3, 18, 0, 0, .inl 0, []) ::
  (5, .iload_n 1, 1, 1, 0, 0, .inl 0, []) ::
  (6, .bipush 99, 2, 0, 0, 0, .inl (nI 99), []) ::
  (8, .if_icmp .gt 10, 3, 18, 0, 0, .inl 0, []) ::
  (11, .iload_n 2, 1, 2, 0, 0, .inl 0, []) ::
  (12, .invokestatic 271, 3, 76, 1, 1, .inl 0, [878]) ::
  (15, .ifCond .ne 5, 3, 20, 0, 0, .inl 0, []) :: s_X8_wider_18
def k_X8_wider : List mE := s_X8_wider_0
set_option maxRecDepth 100000 in
theorem t_X8_wider_0 : dropTo 0 k_X8_wider = s_X8_wider_0 := rfl
set_option maxRecDepth 100000 in
theorem t_X8_wider_18 : dropTo 18 k_X8_wider = s_X8_wider_18 := rfl
set_option maxRecDepth 100000 in
theorem t_X8_wider_20 : dropTo 20 k_X8_wider = s_X8_wider_20 := rfl
set_option maxRecDepth 100000 in
theorem t_X8_wider_39 : dropTo 39 k_X8_wider = s_X8_wider_39 := rfl
set_option maxRecDepth 100000 in
theorem t_X8_wider_54 : dropTo 54 k_X8_wider = s_X8_wider_54 := rfl
set_option maxRecDepth 100000 in
theorem t_X8_wider_169 : dropTo 169 k_X8_wider = s_X8_wider_169 := rfl
set_option maxRecDepth 100000 in
theorem t_X8_wider_175 : dropTo 175 k_X8_wider = s_X8_wider_175 := rfl
set_option maxRecDepth 100000 in
theorem t_X8_wider_181 : dropTo 181 k_X8_wider = s_X8_wider_181 := rfl
theorem ok_X8_wider : mOkF m_X8_wider k_X8_wider = true := by decide +kernel
theorem cm_X8_wider : mChkM m_X8_wider = true := by decide +kernel
def s_X8_work_118 : List mE := (118, .aload_n 0, 1, 0, 0, 0, .inl 0, []) ::
  (119, .getfield 19, 3, 7, 1, 3, .inr (.inr (0, 0, 4)), [479]) ::
  (122, .getfield 160, 3, 0, 14, 3, .inr (.inr (16, 48, 11)), [287]) ::
  (125, .iload_n 1, 1, 1, 0, 0, .inl 0, []) ::
  (126, .invokestatic 153, 3, 97, 2, 1, .inl 0, [1179]) ::
  (129, .ireturn, 1, 0, 0, 0, .inl 0, []) :: []
def s_X8_work_106 : List mE := (106, .aload_n 0, 1, 0, 0, 0, .inl 0, []) ::
  (107, .getfield 19, 3, 7, 1, 3, .inr (.inr (0, 0, 4)), [479]) ::
  (110, .getfield 157, 3, 0, 13, 3, .inr (.inr (16, 48, 10)), [283]) ::
  (113, .iload_n 1, 1, 1, 0, 0, .inl 0, []) ::
  (114, .invokestatic 153, 3, 97, 2, 1, .inl 0, [1179]) ::
  (117, .ireturn, 1, 0, 0, 0, .inl 0, []) :: s_X8_work_118
def s_X8_work_94 : List mE := (94, .aload_n 0, 1, 0, 0, 0, .inl 0, []) ::
  (95, .getfield 19, 3, 7, 1, 3, .inr (.inr (0, 0, 4)), [479]) ::
  (98, .getfield 150, 3, 0, 10, 3, .inr (.inr (16, 48, 7)), [274]) ::
  (101, .iload_n 1, 1, 1, 0, 0, .inl 0, []) ::
  (102, .invokestatic 153, 3, 97, 2, 1, .inl 0, [1179]) ::
  (105, .ireturn, 1, 0, 0, 0, .inl 0, []) :: s_X8_work_106
def s_X8_work_84 : List mE := (84, .aload_n 0, 1, 0, 0, 0, .inl 0, []) ::
  (85, .getfield 19, 3, 7, 1, 3, .inr (.inr (0, 0, 4)), [479]) ::
  (88, .getfield 147, 3, 0, 9, 3, .inr (.inr (16, 8, 6)), [268]) ::
  (91, .iload_n 1, 1, 1, 0, 0, .inl 0, []) ::
  (92, .iaload, 1, 0, 0, 0, .inl 0, []) ::
  (93, .ireturn, 1, 0, 0, 0, .inl 0, []) :: s_X8_work_94
def s_X8_work_74 : List mE := (74, .aload_n 0, 1, 0, 0, 0, .inl 0, []) ::
  (75, .getfield 19, 3, 7, 1, 3, .inr (.inr (0, 0, 4)), [479]) ::
  (78, .getfield 144, 3, 0, 8, 3, .inr (.inr (16, 8, 5)), [265]) ::
  (81, .iload_n 1, 1, 1, 0, 0, .inl 0, []) ::
  (82, .iaload, 1, 0, 0, 0, .inl 0, []) ::
  (83, .ireturn, 1, 0, 0, 0, .inl 0, []) :: s_X8_work_84
def s_X8_work_64 : List mE := (64, .aload_n 0, 1, 0, 0, 0, .inl 0, []) ::
  (65, .getfield 19, 3, 7, 1, 3, .inr (.inr (0, 0, 4)), [479]) ::
  (68, .getfield 141, 3, 0, 7, 3, .inr (.inr (16, 8, 4)), [262]) ::
  (71, .iload_n 1, 1, 1, 0, 0, .inl 0, []) ::
  (72, .iaload, 1, 0, 0, 0, .inl 0, []) ::
  (73, .ireturn, 1, 0, 0, 0, .inl 0, []) :: s_X8_work_74
def s_X8_work_27 : List mE := (27, .iload_n 2, 1, 2, 0, 0, .inl 0, []) ::
  (28, .tableswitch 90 0 4 #[36, 46, 56, 66, 78], 36, 118, 0, 0, .inl 0, [64, 74, 84, 94, 106]) :: s_X8_work_64
def s_X8_work_17 : List mE := (17, .new 134, 3, 0, 0, 0, .inl 0, []) ::
  (20, .dup, 1, 0, 0, 0, .inl 0, []) ::
  (21, .ldc 136, 2, 0, 0, 0, .inr (.inr (99, 0, 0)), []) ::
  (23, .invokespecial 138, 3, 0, 0, 0, .inl 0, []) ::
  (26, .athrow, 1, 0, 0, 0, .inl 0, []) :: s_X8_work_27
def s_X8_work_0 : List mE := (0, .aload_n 0, 1, 0, 0, 0, .inl 0, []) ::
  (1, .iload_n 1, 1, 1, 0, 0, .inl 0, []) ::
  (2, .invokevirtual 130, 3, 106, 2, 1, .inl 0, [682, 7]) ::
  (5, .ifCond .eq 12, 3, 17, 0, 0, .inl 0, []) ::
  (8, .iload_n 2, 1, 2, 0, 0, .inl 0, []) ::
  (9, .ifCond .lt 8, 3, 17, 0, 0, .inl 0, []) ::
  (12, .iload_n 2, 1, 2, 0, 0, .inl 0, []) ::
  (13, .iconst 5, 1, 0, 0, 0, .inl (nI 5), []) ::
  (14, .if_icmp .le 13, 3, 27, 0, 0, .inl 0, []) :: s_X8_work_17
def k_X8_work : List mE := s_X8_work_0
set_option maxRecDepth 100000 in
theorem t_X8_work_0 : dropTo 0 k_X8_work = s_X8_work_0 := rfl
set_option maxRecDepth 100000 in
theorem t_X8_work_17 : dropTo 17 k_X8_work = s_X8_work_17 := rfl
set_option maxRecDepth 100000 in
theorem t_X8_work_27 : dropTo 27 k_X8_work = s_X8_work_27 := rfl
set_option maxRecDepth 100000 in
theorem t_X8_work_64 : dropTo 64 k_X8_work = s_X8_work_64 := rfl
set_option maxRecDepth 100000 in
theorem t_X8_work_74 : dropTo 74 k_X8_work = s_X8_work_74 := rfl
set_option maxRecDepth 100000 in
theorem t_X8_work_84 : dropTo 84 k_X8_work = s_X8_work_84 := rfl
set_option maxRecDepth 100000 in
theorem t_X8_work_94 : dropTo 94 k_X8_work = s_X8_work_94 := rfl
set_option maxRecDepth 100000 in
theorem t_X8_work_106 : dropTo 106 k_X8_work = s_X8_work_106 := rfl
set_option maxRecDepth 100000 in
theorem t_X8_work_118 : dropTo 118 k_X8_work = s_X8_work_118 := rfl
theorem ok_X8_work : mOkF m_X8_work k_X8_work = true := by decide +kernel
theorem cm_X8_work : mChkM m_X8_work = true := by decide +kernel
def s_X8_worth_88 : List mE := (88, .aload_n 0, 1, 0, 0, 0, .inl 0, []) ::
  (89, .getfield 73, 3, 7, 12, 3, .inr (.inr (16, 256, 161)), [490]) ::
  (92, .iload_n 2, 1, 2, 0, 0, .inl 0, []) ::
  (93, .iaload, 1, 0, 0, 0, .inl 0, []) ::
  (94, .ireturn, 1, 0, 0, 0, .inl 0, []) :: []
def s_X8_worth_69 : List mE := (69, .iload_n 3, 1, 3, 0, 0, .inl 0, []) ::
  (70, .aload_n 0, 1, 0, 0, 0, .inl 0, []) ::
  (71, .getfield 84, 3, 7, 15, 0, .inl 0, [493]) ::
  (74, .if_icmp .ge 14, 3, 88, 0, 0, .inl 0, []) ::
  (77, .aload_n 0, 1, 0, 0, 0, .inl 0, []) ::
  (78, .iload_n 3, 1, 3, 0, 0, .inl 0, []) ::
  (79, .invokevirtual 281, 3, 125, 2, 0, .inl 0, [897, 7]) ::
  (82, .iinc 3 1, 3, 3, 0, 0, .inl (nI 1), []) ::
  (85, .goto (-16), 3, 69, 0, 0, .inl 0, []) :: s_X8_worth_88
def s_X8_worth_56 : List mE := (56, .aload_n 0, 1, 0, 0, 0, .inl 0, []) ::
  (57, .aload_n 0, 1, 0, 0, 0, .inl 0, []) ::
  (58, .getfield 19, 3, 7, 1, 3, .inr (.inr (0, 0, 4)), [479]) ::
  (61, .getfield 175, 3, 0, 1, 0, .inl 0, [249]) ::
  (64, .putfield 84, 3, 7, 15, 0, .inl 0, [493]) ::
  (67, .iconst 0, 1, 0, 0, 0, .inl (nI 0), []) ::
  (68, .istore_n 3, 1, 3, 0, 0, .inl 0, []) :: s_X8_worth_69
def s_X8_worth_29 : List mE := (29, .iload_n 3, 1, 3, 0, 0, .inl 0, []) ::
  (30, .iload_n 2, 1, 2, 0, 0, .inl 0, []) ::
  (31, .if_icmp .gt 25, 3, 56, 0, 0, .inl 0, []) ::
  (34, .aload_n 0, 1, 0, 0, 0, .inl 0, []) ::
  (35, .getfield 73, 3, 7, 12, 3, .inr (.inr (16, 256, 161)), [490]) ::
  (38, .iload_n 3, 1, 3, 0, 0, .inl 0, []) ::
  (39, .aload_n 0, 1, 0, 0, 0, .inl 0, []) ::
  (40, .aload_n 0, 1, 0, 0, 0, .inl 0, []) ::
  (41, .getfield 19, 3, 7, 1, 3, .inr (.inr (0, 0, 4)), [479]) ::
  (44, .iload_n 3, 1, 3, 0, 0, .inl 0, []) ::
  (45, .iload_n 1, 1, 1, 0, 0, .inl 0, []) ::
  (46, .invokevirtual 274, 3, 114, 4, 1, .inl 0, [881, 7]) ::
  (49, .iastore, 1, 0, 0, 0, .inl 0, []) ::
  (50, .iinc 3 1, 3, 3, 0, 0, .inl (nI 1), []) ::
  (53, .goto (-24), 3, 29, 0, 0, .inl 0, []) :: s_X8_worth_56
def s_X8_worth_19 : List mE := (19, .aload_n 0, 1, 0, 0, 0, .inl 0, []) ::
  (20, .getfield 19, 3, 7, 1, 3, .inr (.inr (0, 0, 4)), [479]) ::
  (23, .invokevirtual 181, 3, 2, 1, 1, .inl 0, [728, 0]) ::
  (26, .istore_n 2, 1, 2, 0, 0, .inl 0, []) ::
  (27, .iconst 0, 1, 0, 0, 0, .inl (nI 0), []) ::
  (28, .istore_n 3, 1, 3, 0, 0, .inl 0, []) :: s_X8_worth_29
def s_X8_worth_17 : List mE := (17, .iconst (-1), 1, 0, 0, 0, .inl (-1), []) ::
  (18, .ireturn, 1, 0, 0, 0, .inl 0, []) :: s_X8_worth_19
def s_X8_worth_0 : List mE := (0, .aload_n 0, 1, 0, 0, 0, .inl 0, []) ::
  (1, .getfield 19, 3, 7, 1, 3, .inr (.inr (0, 0, 4)), [479]) ::
  (4, .getfield 175, 3, 0, 1, 0, .inl 0, [249]) ::
  (7, .ifCond .eq 10, 3, 17, 0, 0, .inl 0, []) ::
  (10, .iload_n 1, 1, 1, 0, 0, .inl 0, []) ::
  (11, .invokestatic 271, 3, 76, 1, 1, .inl 0, [878]) ::
  (14, .ifCond .ne 5, 3, 19, 0, 0, .inl 0, []) :: s_X8_worth_17
def k_X8_worth : List mE := s_X8_worth_0
set_option maxRecDepth 100000 in
theorem t_X8_worth_0 : dropTo 0 k_X8_worth = s_X8_worth_0 := rfl
set_option maxRecDepth 100000 in
theorem t_X8_worth_17 : dropTo 17 k_X8_worth = s_X8_worth_17 := rfl
set_option maxRecDepth 100000 in
theorem t_X8_worth_19 : dropTo 19 k_X8_worth = s_X8_worth_19 := rfl
set_option maxRecDepth 100000 in
theorem t_X8_worth_29 : dropTo 29 k_X8_worth = s_X8_worth_29 := rfl
set_option maxRecDepth 100000 in
theorem t_X8_worth_56 : dropTo 56 k_X8_worth = s_X8_worth_56 := rfl
set_option maxRecDepth 100000 in
theorem t_X8_worth_69 : dropTo 69 k_X8_worth = s_X8_worth_69 := rfl
set_option maxRecDepth 100000 in
theorem t_X8_worth_88 : dropTo 88 k_X8_worth = s_X8_worth_88 := rfl
theorem ok_X8_worth : mOkF m_X8_worth k_X8_worth = true := by decide +kernel
theorem cm_X8_worth : mChkM m_X8_worth = true := by decide +kernel
def s_X8_worthOf_51 : List mE := (51, .lreturn, 1, 0, 0, 0, .inl 0, []) :: []
def s_X8_worthOf_45 : List mE := (45, .aload_n 0, 1, 0, 0, 0, .inl 0, []) ::
  (46, .getfield 81, 3, 7, 14, 3, .inr (.inr (17, 8, 163)), [492]) ::
  (49, .iload_n 1, 1, 1, 0, 0, .inl 0, []) ::
  (50, .laload, 1, 0, 0, 0, .inl 0, []) :: s_X8_worthOf_51
def s_X8_worthOf_32 : List mE := (32, .iload_n 2, 1, 2, 0, 0, .inl 0, []) ::
  (33, .ifCond .ne 12, 3, 45, 0, 0, .inl 0, []) ::
  (36, .aload_n 0, 1, 0, 0, 0, .inl 0, []) ::
  (37, .getfield 77, 3, 7, 13, 3, .inr (.inr (17, 8, 162)), [491]) ::
  (40, .iload_n 1, 1, 1, 0, 0, .inl 0, []) ::
  (41, .laload, 1, 0, 0, 0, .inl 0, []) ::
  (42, .goto 9, 3, 51, 0, 0, .inl 0, []) :: s_X8_worthOf_45
def s_X8_worthOf_21 : List mE := (21, .new 134, 3, 0, 0, 0, .inl 0, []) ::
  (24, .dup, 1, 0, 0, 0, .inl 0, []) ::
  (25, .ldc_w 303, 3, 0, 0, 0, .inr (.inr (99, 0, 0)), []) ::
  (28, .invokespecial 138, 3, 0, 0, 0, .inl 0, []) ::
  (31, .athrow, 1, 0, 0, 0, .inl 0, []) :: s_X8_worthOf_32
def s_X8_worthOf_0 : List mE := (0, .iload_n 1, 1, 1, 0, 0, .inl 0, []) ::
  (1, .ifCond .lt 20, 3, 21, 0, 0, .inl 0, []) ::
  (4, .iload_n 1, 1, 1, 0, 0, .inl 0, []) ::
  (5, .aload_n 0, 1, 0, 0, 0, .inl 0, []) ::
  (6, .getfield 84, 3, 7, 15, 0, .inl 0, [493]) ::
  (9, .if_icmp .ge 12, 3, 21, 0, 0, .inl 0, []) ::
  (12, .iload_n 2, 1, 2, 0, 0, .inl 0, []) ::
  (13, .ifCond .lt 8, 3, 21, 0, 0, .inl 0, []) ::
  (16, .iload_n 2, 1, 2, 0, 0, .inl 0, []) ::
  (17, .iconst 1, 1, 0, 0, 0, .inl (nI 1), []) ::
  (18, .if_icmp .le 14, 3, 32, 0, 0, .inl 0, []) :: s_X8_worthOf_21
def k_X8_worthOf : List mE := s_X8_worthOf_0
set_option maxRecDepth 100000 in
theorem t_X8_worthOf_0 : dropTo 0 k_X8_worthOf = s_X8_worthOf_0 := rfl
set_option maxRecDepth 100000 in
theorem t_X8_worthOf_21 : dropTo 21 k_X8_worthOf = s_X8_worthOf_21 := rfl
set_option maxRecDepth 100000 in
theorem t_X8_worthOf_32 : dropTo 32 k_X8_worthOf = s_X8_worthOf_32 := rfl
set_option maxRecDepth 100000 in
theorem t_X8_worthOf_45 : dropTo 45 k_X8_worthOf = s_X8_worthOf_45 := rfl
set_option maxRecDepth 100000 in
theorem t_X8_worthOf_51 : dropTo 51 k_X8_worthOf = s_X8_worthOf_51 := rfl
theorem ok_X8_worthOf : mOkF m_X8_worthOf k_X8_worthOf = true := by decide +kernel
theorem cm_X8_worthOf : mChkM m_X8_worthOf = true := by decide +kernel
def s_X8_write_121 : List mE := (121, .aload_n 0, 1, 0, 0, 0, .inl 0, []) ::
  (122, .getfield 69, 3, 7, 11, 3, .inr (.inr (6, 0, 159)), [489]) ::
  (125, .getfield 332, 3, 6, 1, 0, .inl 0, [472]) ::
  (128, .ireturn, 1, 0, 0, 0, .inl 0, []) :: []
def s_X8_write_19 : List mE := (19, .iload_n 1, 1, 1, 0, 0, .inl 0, []) ::
  (20, .aload_n 0, 1, 0, 0, 0, .inl 0, []) ::
  (21, .getfield 19, 3, 7, 1, 3, .inr (.inr (0, 0, 4)), [479]) ::
  (24, .getfield 175, 3, 0, 1, 0, .inl 0, [249]) ::
  (27, .if_icmp .ge 94, 3, 121, 0, 0, .inl 0, []) ::
  (30, .aload_n 0, 1, 0, 0, 0, .inl 0, []) ::
  (31, .getfield 69, 3, 7, 11, 3, .inr (.inr (6, 0, 159)), [489]) ::
  (34, .aload_n 0, 1, 0, 0, 0, .inl 0, []) ::
  (35, .getfield 19, 3, 7, 1, 3, .inr (.inr (0, 0, 4)), [479]) ::
  (38, .getfield 333, 3, 0, 5, 3, .inr (.inr (16, 8, 2)), [257]) ::
  (41, .iload_n 1, 1, 1, 0, 0, .inl 0, []) ::
  (42, .iaload, 1, 0, 0, 0, .inl 0, []) ::
  (43, .invokevirtual 336, 3, 73, 2, 0, .inl 0, [1009, 6]) ::
  (46, .aload_n 0, 1, 0, 0, 0, .inl 0, []) ::
  (47, .getfield 69, 3, 7, 11, 3, .inr (.inr (6, 0, 159)), [489]) ::
  (50, .bipush 32, 2, 0, 0, 0, .inl (nI 32), []) ::
  (52, .invokevirtual 339, 3, 72, 2, 0, .inl 0, [1017, 6]) ::
  (55, .aload_n 0, 1, 0, 0, 0, .inl 0, []) ::
  (56, .getfield 69, 3, 7, 11, 3, .inr (.inr (6, 0, 159)), [489]) ::
  (59, .aload_n 0, 1, 0, 0, 0, .inl 0, []) ::
  (60, .getfield 49, 3, 7, 7, 3, .inr (.inr (3, 0, 50)), [485]) ::
  (63, .getfield 216, 3, 3, 8, 3, .inr (.inr (16, 8, 8)), [395]) ::
  (66, .iload_n 1, 1, 1, 0, 0, .inl 0, []) ::
  (67, .iaload, 1, 0, 0, 0, .inl 0, []) ::
  (68, .invokevirtual 342, 3, 74, 2, 0, .inl 0, [1018, 6]) ::
  (71, .aload_n 0, 1, 0, 0, 0, .inl 0, []) ::
  (72, .getfield 69, 3, 7, 11, 3, .inr (.inr (6, 0, 159)), [489]) ::
  (75, .bipush 32, 2, 0, 0, 0, .inl (nI 32), []) ::
  (77, .invokevirtual 339, 3, 72, 2, 0, .inl 0, [1017, 6]) ::
  (80, .aload_n 0, 1, 0, 0, 0, .inl 0, []) ::
  (81, .getfield 69, 3, 7, 11, 3, .inr (.inr (6, 0, 159)), [489]) ::
  (84, .aload_n 0, 1, 0, 0, 0, .inl 0, []) ::
  (85, .getfield 49, 3, 7, 7, 3, .inr (.inr (3, 0, 50)), [485]) ::
  (88, .getfield 216, 3, 3, 8, 3, .inr (.inr (16, 8, 8)), [395]) ::
  (91, .iload_n 1, 1, 1, 0, 0, .inl 0, []) ::
  (92, .iaload, 1, 0, 0, 0, .inl 0, []) ::
  (93, .aload_n 0, 1, 0, 0, 0, .inl 0, []) ::
  (94, .getfield 19, 3, 7, 1, 3, .inr (.inr (0, 0, 4)), [479]) ::
  (97, .getfield 147, 3, 0, 9, 3, .inr (.inr (16, 8, 6)), [268]) ::
  (100, .iload_n 1, 1, 1, 0, 0, .inl 0, []) ::
  (101, .iaload, 1, 0, 0, 0, .inl 0, []) ::
  (102, .imul, 1, 0, 0, 0, .inl 0, []) ::
  (103, .invokevirtual 342, 3, 74, 2, 0, .inl 0, [1018, 6]) ::
  (106, .aload_n 0, 1, 0, 0, 0, .inl 0, []) ::
  (107, .getfield 69, 3, 7, 11, 3, .inr (.inr (6, 0, 159)), [489]) ::
  (110, .bipush 59, 2, 0, 0, 0, .inl (nI 59), []) ::
  (112, .invokevirtual 339, 3, 72, 2, 0, .inl 0, [1017, 6]) ::
  (115, .iinc 1 1, 3, 1, 0, 0, .inl (nI 1), []) ::
  (118, .goto (-99), 3, 19, 0, 0, .inl 0, []) :: s_X8_write_121
def s_X8_write_9 : List mE := (9, .aload_n 0, 1, 0, 0, 0, .inl 0, []) ::
  (10, .getfield 69, 3, 7, 11, 3, .inr (.inr (6, 0, 159)), [489]) ::
  (13, .iconst 0, 1, 0, 0, 0, .inl (nI 0), []) ::
  (14, .putfield 332, 3, 6, 1, 0, .inl 0, [472]) ::
  (17, .iconst 0, 1, 0, 0, 0, .inl (nI 0), []) ::
  (18, .istore_n 1, 1, 1, 0, 0, .inl 0, []) :: s_X8_write_19
def s_X8_write_0 : List mE := (0, .aload_n 0, 1, 0, 0, 0, .inl 0, []) ::
  (1, .invokevirtual 188, 3, 103, 1, 1, .inl 0, [712, 7]) ::
  (4, .ifCond .ne 5, 3, 9, 0, 0, .inl 0, []) ::
  (7, .iconst (-1), 1, 0, 0, 0, .inl (-1), []) ::
  (8, .ireturn, 1, 0, 0, 0, .inl 0, []) :: s_X8_write_9
def k_X8_write : List mE := s_X8_write_0
set_option maxRecDepth 100000 in
theorem t_X8_write_0 : dropTo 0 k_X8_write = s_X8_write_0 := rfl
set_option maxRecDepth 100000 in
theorem t_X8_write_9 : dropTo 9 k_X8_write = s_X8_write_9 := rfl
set_option maxRecDepth 100000 in
theorem t_X8_write_19 : dropTo 19 k_X8_write = s_X8_write_19 := rfl
set_option maxRecDepth 100000 in
theorem t_X8_write_121 : dropTo 121 k_X8_write = s_X8_write_121 := rfl
theorem ok_X8_write : mOkF m_X8_write k_X8_write = true := by decide +kernel
theorem cm_X8_write : mChkM m_X8_write = true := by decide +kernel
def s_X9_again_193 : List mE := (193, .iconst (-1), 1, 0, 0, 0, .inl (-1), []) ::
  (194, .ireturn, 1, 0, 0, 0, .inl 0, []) :: []
def s_X9_again_187 : List mE := (187, .iinc 2 1, 3, 2, 0, 0, .inl (nI 1), []) ::
  (190, .goto (-48), 3, 142, 0, 0, .inl 0, []) :: s_X9_again_193
def s_X9_again_181 : List mE := (181, .iinc 3 1, 3, 3, 0, 0, .inl (nI 1), []) ::
  (184, .goto (-33), 3, 151, 0, 0, .inl 0, []) :: s_X9_again_187
def s_X9_again_180 : List mE := (180, .ireturn, 1, 0, 0, 0, .inl 0, []) :: s_X9_again_181
def s_X9_again_179 : List mE := (179, .iload_n 3, 1, 3, 0, 0, .inl 0, []) :: s_X9_again_180
def s_X9_again_151 : List mE := (151, .iload_n 2, 1, 2, 0, 0, .inl 0, []) ::
  (152, .iload_n 3, 1, 3, 0, 0, .inl 0, []) ::
  (153, .iadd, 1, 0, 0, 0, .inl 0, []) ::
  (154, .sipush 200, 3, 0, 0, 0, .inl (nI 200), []) ::
  (157, .if_icmp .ge 30, 3, 187, 0, 0, .inl 0, []) ::
  (160, .aload_n 0, 1, 0, 0, 0, .inl 0, []) ::
  (161, .iload_n 2, 1, 2, 0, 0, .inl 0, []) ::
  (162, .iload_n 2, 1, 2, 0, 0, .inl 0, []) ::
  (163, .iload_n 3, 1, 3, 0, 0, .inl 0, []) ::
  (164, .iadd, 1, 0, 0, 0, .inl 0, []) ::
  (165, .invokevirtual 294, 3, 138, 3, 1, .inl 0, [1602, 8]) ::
  (168, .ifCond .eq 13, 3, 181, 0, 0, .inl 0, []) ::
  (171, .iload_n 1, 1, 1, 0, 0, .inl 0, []) ::
  (172, .ifCond .ne 7, 3, 179, 0, 0, .inl 0, []) ::
  (175, .iload_n 2, 1, 2, 0, 0, .inl 0, []) ::
  (176, .goto 4, 3, 180, 0, 0, .inl 0, []) :: s_X9_again_179
def s_X9_again_142 : List mE := (142, .iload_n 2, 1, 2, 0, 0, .inl 0, []) ::
  (143, .sipush 200, 3, 0, 0, 0, .inl (nI 200), []) ::
  (146, .if_icmp .ge 47, 3, 193, 0, 0, .inl 0, []) ::
  (149, .iconst 1, 1, 0, 0, 0, .inl (nI 1), []) ::
  (150, .istore_n 3, 1, 3, 0, 0, .inl 0, []) :: s_X9_again_151
def s_X9_again_140 : List mE := (140, .iconst 0, 1, 0, 0, 0, .inl (nI 0), []) ::
  (141, .istore_n 2, 1, 2, 0, 0, .inl 0, []) :: s_X9_again_142
def s_X9_again_118 : List mE := (118, .aload_n 0, 1, 0, 0, 0, .inl 0, []) ::
  (119, .getfield 54, 3, 8, 30, 3, .inr (.inr (16, 11000, 15)), [1226]) ::
  (122, .bipush 55, 2, 0, 0, 0, .inl (nI 55), []) ::
  (124, .iload_n 2, 1, 2, 0, 0, .inl 0, []) ::
  (125, .imul, 1, 0, 0, 0, .inl 0, []) ::
  (126, .bipush 54, 2, 0, 0, 0, .inl (nI 54), []) ::
  (128, .iadd, 1, 0, 0, 0, .inl 0, []) ::
  (129, .iload_n 2, 1, 2, 0, 0, .inl 0, []) ::
  (130, .bipush 12, 2, 0, 0, 0, .inl (nI 12), []) ::
  (132, .irem, 1, 0, 0, 0, .inl 0, []) ::
  (133, .iastore, 1, 0, 0, 0, .inl 0, []) ::
  (134, .iinc 2 1, 3, 2, 0, 0, .inl (nI 1), []) ::
  (137, .goto (-106), 3, 31, 0, 0, .inl 0, []) :: s_X9_again_140
def s_X9_again_82 : List mE := (82, .iload_n 3, 1, 3, 0, 0, .inl 0, []) ::
  (83, .bipush 6, 2, 0, 0, 0, .inl (nI 6), []) ::
  (85, .if_icmp .ge 33, 3, 118, 0, 0, .inl 0, []) ::
  (88, .aload_n 0, 1, 0, 0, 0, .inl 0, []) ::
  (89, .getfield 54, 3, 8, 30, 3, .inr (.inr (16, 11000, 15)), [1226]) ::
  (92, .bipush 55, 2, 0, 0, 0, .inl (nI 55), []) ::
  (94, .iload_n 2, 1, 2, 0, 0, .inl 0, []) ::
  (95, .imul, 1, 0, 0, 0, .inl 0, []) ::
  (96, .bipush 48, 2, 0, 0, 0, .inl (nI 48), []) ::
  (98, .iadd, 1, 0, 0, 0, .inl 0, []) ::
  (99, .iload_n 3, 1, 3, 0, 0, .inl 0, []) ::
  (100, .iadd, 1, 0, 0, 0, .inl 0, []) ::
  (101, .aload_n 0, 1, 0, 0, 0, .inl 0, []) ::
  (102, .getfield 42, 3, 8, 23, 3, .inr (.inr (16, 296, 11)), [1219]) ::
  (105, .sipush 194, 3, 0, 0, 0, .inl (nI 194), []) ::
  (108, .iload_n 3, 1, 3, 0, 0, .inl 0, []) ::
  (109, .iadd, 1, 0, 0, 0, .inl 0, []) ::
  (110, .iaload, 1, 0, 0, 0, .inl 0, []) ::
  (111, .iastore, 1, 0, 0, 0, .inl 0, []) ::
  (112, .iinc 3 1, 3, 3, 0, 0, .inl (nI 1), []) ::
  (115, .goto (-33), 3, 82, 0, 0, .inl 0, []) :: s_X9_again_118
def s_X9_again_80 : List mE := (80, .iconst 0, 1, 0, 0, 0, .inl (nI 0), []) ::
  (81, .istore_n 3, 1, 3, 0, 0, .inl 0, []) :: s_X9_again_82
def s_X9_again_49 : List mE := (49, .iload_n 3, 1, 3, 0, 0, .inl 0, []) ::
  (50, .bipush 48, 2, 0, 0, 0, .inl (nI 48), []) ::
  (52, .if_icmp .ge 28, 3, 80, 0, 0, .inl 0, []) ::
  (55, .aload_n 0, 1, 0, 0, 0, .inl 0, []) ::
  (56, .getfield 54, 3, 8, 30, 3, .inr (.inr (16, 11000, 15)), [1226]) ::
  (59, .bipush 55, 2, 0, 0, 0, .inl (nI 55), []) ::
  (61, .iload_n 2, 1, 2, 0, 0, .inl 0, []) ::
  (62, .imul, 1, 0, 0, 0, .inl 0, []) ::
  (63, .iload_n 3, 1, 3, 0, 0, .inl 0, []) ::
  (64, .iadd, 1, 0, 0, 0, .inl 0, []) ::
  (65, .aload_n 0, 1, 0, 0, 0, .inl 0, []) ::
  (66, .getfield 42, 3, 8, 23, 3, .inr (.inr (16, 296, 11)), [1219]) ::
  (69, .iconst 2, 1, 0, 0, 0, .inl (nI 2), []) ::
  (70, .iload_n 3, 1, 3, 0, 0, .inl 0, []) ::
  (71, .iadd, 1, 0, 0, 0, .inl 0, []) ::
  (72, .iaload, 1, 0, 0, 0, .inl 0, []) ::
  (73, .iastore, 1, 0, 0, 0, .inl 0, []) ::
  (74, .iinc 3 1, 3, 3, 0, 0, .inl (nI 1), []) ::
  (77, .goto (-28), 3, 49, 0, 0, .inl 0, []) :: s_X9_again_80
def s_X9_again_31 : List mE := (31, .iload_n 2, 1, 2, 0, 0, .inl 0, []) ::
  (32, .sipush 200, 3, 0, 0, 0, .inl (nI 200), []) ::
  (35, .if_icmp .ge 105, 3, 140, 0, 0, .inl 0, []) ::
  (38, .aload_n 0, 1, 0, 0, 0, .inl 0, []) ::
  (39, .aload_n 0, 1, 0, 0, 0, .inl 0, []) ::
  (40, .getfield 42, 3, 8, 23, 3, .inr (.inr (16, 296, 11)), [1219]) ::
  (43, .iconst 0, 1, 0, 0, 0, .inl (nI 0), []) ::
  (44, .invokevirtual 278, 3, 171, 3, 0, .inl 0, [1520, 8]) ::
  (47, .iconst 0, 1, 0, 0, 0, .inl (nI 0), []) ::
  (48, .istore_n 3, 1, 3, 0, 0, .inl 0, []) :: s_X9_again_49
def s_X9_again_16 : List mE := (16, .aload_n 0, 1, 0, 0, 0, .inl 0, []) ::
  (17, .invokevirtual 285, 3, 196, 1, 0, .inl 0, [1504, 8]) ::
  (20, .aload_n 0, 1, 0, 0, 0, .inl 0, []) ::
  (21, .aload_n 0, 1, 0, 0, 0, .inl 0, []) ::
  (22, .getfield 42, 3, 8, 23, 3, .inr (.inr (16, 296, 11)), [1219]) ::
  (25, .iconst 0, 1, 0, 0, 0, .inl (nI 0), []) ::
  (26, .invokevirtual 274, 3, 242, 3, 0, .inl 0, [1508, 8]) ::
  (29, .iconst 0, 1, 0, 0, 0, .inl (nI 0), []) ::
  (30, .istore_n 2, 1, 2, 0, 0, .inl 0, []) :: s_X9_again_31
def s_X9_again_0 : List mE := (0, .aload_n 0, 1, 0, 0, 0, .inl 0, []) ::
  (1, .iconst 0, 1, 0, 0, 0, .inl (nI 0), []) ::
  (2, .putfield 76, 3, 8, 0, 0, .inl 0, [1196]) ::
  (5, .iload_n 1, 1, 1, 0, 0, .inl 0, []) ::
  (6, .iconst 0, 1, 0, 0, 0, .inl (nI 0), []) ::
  (7, .iconst 1, 1, 0, 0, 0, .inl (nI 1), []) ::
  (8, .invokestatic 143, 3, 177, 3, 1, .inl 0, [1414]) ::
  (11, .ifCond .ne 5, 3, 16, 0, 0, .inl 0, []) ::
  (14, .iconst (-1), 1, 0, 0, 0, .inl (-1), []) ::
  (15, .ireturn, 1, 0, 0, 0, .inl 0, []) :: s_X9_again_16
def k_X9_again : List mE := s_X9_again_0
set_option maxRecDepth 100000 in
theorem t_X9_again_0 : dropTo 0 k_X9_again = s_X9_again_0 := rfl
set_option maxRecDepth 100000 in
theorem t_X9_again_16 : dropTo 16 k_X9_again = s_X9_again_16 := rfl
set_option maxRecDepth 100000 in
theorem t_X9_again_31 : dropTo 31 k_X9_again = s_X9_again_31 := rfl
set_option maxRecDepth 100000 in
theorem t_X9_again_49 : dropTo 49 k_X9_again = s_X9_again_49 := rfl
set_option maxRecDepth 100000 in
theorem t_X9_again_80 : dropTo 80 k_X9_again = s_X9_again_80 := rfl
set_option maxRecDepth 100000 in
theorem t_X9_again_82 : dropTo 82 k_X9_again = s_X9_again_82 := rfl
set_option maxRecDepth 100000 in
theorem t_X9_again_118 : dropTo 118 k_X9_again = s_X9_again_118 := rfl
set_option maxRecDepth 100000 in
theorem t_X9_again_140 : dropTo 140 k_X9_again = s_X9_again_140 := rfl
set_option maxRecDepth 100000 in
theorem t_X9_again_142 : dropTo 142 k_X9_again = s_X9_again_142 := rfl
set_option maxRecDepth 100000 in
theorem t_X9_again_151 : dropTo 151 k_X9_again = s_X9_again_151 := rfl
set_option maxRecDepth 100000 in
theorem t_X9_again_179 : dropTo 179 k_X9_again = s_X9_again_179 := rfl
set_option maxRecDepth 100000 in
theorem t_X9_again_180 : dropTo 180 k_X9_again = s_X9_again_180 := rfl
set_option maxRecDepth 100000 in
theorem t_X9_again_181 : dropTo 181 k_X9_again = s_X9_again_181 := rfl
set_option maxRecDepth 100000 in
theorem t_X9_again_187 : dropTo 187 k_X9_again = s_X9_again_187 := rfl
set_option maxRecDepth 100000 in
theorem t_X9_again_193 : dropTo 193 k_X9_again = s_X9_again_193 := rfl
theorem ok_X9_again : mOkF m_X9_again k_X9_again = true := by decide +kernel
theorem cm_X9_again : mChkM m_X9_again = true := by decide +kernel
def s_X9_all_0 : List mE := (0, .iconst 1, 1, 0, 0, 0, .inl (nI 1), []) ::
  (1, .aload_n 0, 1, 0, 0, 0, .inl 0, []) ::
  (2, .invokevirtual 219, 3, 253, 1, 1, .inl 0, [1472, 8]) ::
  (5, .ishl, 1, 0, 0, 0, .inl 0, []) ::
  (6, .iconst 1, 1, 0, 0, 0, .inl (nI 1), []) ::
  (7, .isub, 1, 0, 0, 0, .inl 0, []) ::
  (8, .ireturn, 1, 0, 0, 0, .inl 0, []) :: []
def k_X9_all : List mE := s_X9_all_0
set_option maxRecDepth 100000 in
theorem t_X9_all_0 : dropTo 0 k_X9_all = s_X9_all_0 := rfl
theorem ok_X9_all : mOkF m_X9_all k_X9_all = true := by decide +kernel
theorem cm_X9_all : mChkM m_X9_all = true := by decide +kernel
def s_X9_areLike_41 : List mE := (41, .iconst 1, 1, 0, 0, 0, .inl (nI 1), []) ::
  (42, .ireturn, 1, 1, 0, 0, .inl 0, []) :: []
def s_X9_areLike_35 : List mE := (35, .iinc 3 1, 3, 3, 0, 0, .inl (nI 1), []) ::
  (38, .goto (-36), 3, 2, 0, 0, .inl 0, []) :: s_X9_areLike_41
def s_X9_areLike_2 : List mE := (2, .iload_n 3, 1, 3, 0, 0, .inl 0, []) ::
  (3, .bipush 55, 2, 0, 0, 0, .inl (nI 55), []) ::
  (5, .if_icmp .ge 36, 3, 41, 0, 0, .inl 0, []) ::
  (8, .aload_n 0, 1, 0, 0, 0, .inl 0, []) ::
  (9, .getfield 54, 3, 8, 30, 3, .inr (.inr (16, 11000, 15)), [1226]) ::
  (12, .bipush 55, 2, 0, 0, 0, .inl (nI 55), []) ::
  (14, .iload_n 1, 1, 1, 0, 0, .inl 0, []) ::
  (15, .imul, 1, 0, 0, 0, .inl 0, []) ::
  (16, .iload_n 3, 1, 3, 0, 0, .inl 0, []) ::
  (17, .iadd, 1, 0, 0, 0, .inl 0, []) ::
  (18, .iaload, 1, 0, 0, 0, .inl 0, []) ::
  (19, .aload_n 0, 1, 0, 0, 0, .inl 0, []) ::
  (20, .getfield 54, 3, 8, 30, 3, .inr (.inr (16, 11000, 15)), [1226]) ::
  (23, .bipush 55, 2, 0, 0, 0, .inl (nI 55), []) ::
  (25, .iload_n 2, 1, 2, 0, 0, .inl 0, []) ::
  (26, .imul, 1, 0, 0, 0, .inl 0, []) ::
  (27, .iload_n 3, 1, 3, 0, 0, .inl 0, []) ::
  (28, .iadd, 1, 0, 0, 0, .inl 0, []) ::
  (29, .iaload, 1, 0, 0, 0, .inl 0, []) ::
  (30, .if_icmp .eq 5, 3, 35, 0, 0, .inl 0, []) ::
  (33, .iconst 0, 1, 0, 0, 0, .inl (nI 0), []) ::
  (34, .ireturn, 1, 1, 0, 0, .inl 0, []) :: s_X9_areLike_35
def s_X9_areLike_0 : List mE := (0, .iconst 0, 1, 0, 0, 0, .inl (nI 0), []) ::
  (1, .istore_n 3, 1, 3, 0, 0, .inl 0, []) :: s_X9_areLike_2
def k_X9_areLike : List mE := s_X9_areLike_0
set_option maxRecDepth 100000 in
theorem t_X9_areLike_0 : dropTo 0 k_X9_areLike = s_X9_areLike_0 := rfl
set_option maxRecDepth 100000 in
theorem t_X9_areLike_2 : dropTo 2 k_X9_areLike = s_X9_areLike_2 := rfl
set_option maxRecDepth 100000 in
theorem t_X9_areLike_35 : dropTo 35 k_X9_areLike = s_X9_areLike_35 := rfl
set_option maxRecDepth 100000 in
theorem t_X9_areLike_41 : dropTo 41 k_X9_areLike = s_X9_areLike_41 := rfl
theorem ok_X9_areLike : mOkF m_X9_areLike k_X9_areLike = true := by decide +kernel
theorem cm_X9_areLike : mChkM m_X9_areLike = true := by decide +kernel
def s_X9_at_32 : List mE := (32, .aload_n 0, 1, 0, 0, 0, .inl 0, []) ::
  (33, .getfield 13, 3, 8, 14, 3, .inr (.inr (16, 925, 2)), [1210]) ::
  (36, .bipush 38, 2, 0, 0, 0, .inl (nI 38), []) ::
  (38, .bipush 48, 2, 0, 0, 0, .inl (nI 48), []) ::
  (40, .iload_n 3, 1, 3, 0, 0, .inl 0, []) ::
  (41, .imul, 1, 0, 0, 0, .inl 0, []) ::
  (42, .iadd, 1, 0, 0, 0, .inl 0, []) ::
  (43, .iload_n 1, 1, 1, 0, 0, .inl 0, []) ::
  (44, .iload_n 2, 1, 2, 0, 0, .inl 0, []) ::
  (45, .invokestatic 182, 3, 148, 2, 1, .inl 0, [1437]) ::
  (48, .iadd, 1, 0, 0, 0, .inl 0, []) ::
  (49, .iaload, 1, 0, 0, 0, .inl 0, []) ::
  (50, .ireturn, 1, 0, 0, 0, .inl 0, []) :: []
def s_X9_at_30 : List mE := (30, .iconst (-1), 1, 0, 0, 0, .inl (-1), []) ::
  (31, .ireturn, 1, 0, 0, 0, .inl 0, []) :: s_X9_at_32
def s_X9_at_0 : List mE := (0, .aload_n 0, 1, 0, 0, 0, .inl 0, []) ::
  (1, .iconst 0, 1, 0, 0, 0, .inl (nI 0), []) ::
  (2, .putfield 76, 3, 8, 0, 0, .inl 0, [1196]) ::
  (5, .aload_n 0, 1, 0, 0, 0, .inl 0, []) ::
  (6, .iload_n 1, 1, 1, 0, 0, .inl 0, []) ::
  (7, .invokevirtual 225, 3, 190, 2, 1, .inl 0, [1468, 8]) ::
  (10, .ifCond .eq 20, 3, 30, 0, 0, .inl 0, []) ::
  (13, .aload_n 0, 1, 0, 0, 0, .inl 0, []) ::
  (14, .iload_n 2, 1, 2, 0, 0, .inl 0, []) ::
  (15, .invokevirtual 234, 3, 175, 2, 1, .inl 0, [1492, 8]) ::
  (18, .ifCond .eq 12, 3, 30, 0, 0, .inl 0, []) ::
  (21, .iload_n 3, 1, 3, 0, 0, .inl 0, []) ::
  (22, .iconst 0, 1, 0, 0, 0, .inl (nI 0), []) ::
  (23, .iconst 4, 1, 0, 0, 0, .inl (nI 4), []) ::
  (24, .invokestatic 143, 3, 177, 3, 1, .inl 0, [1414]) ::
  (27, .ifCond .ne 5, 3, 32, 0, 0, .inl 0, []) :: s_X9_at_30
def k_X9_at : List mE := s_X9_at_0
set_option maxRecDepth 100000 in
theorem t_X9_at_0 : dropTo 0 k_X9_at = s_X9_at_0 := rfl
set_option maxRecDepth 100000 in
theorem t_X9_at_30 : dropTo 30 k_X9_at = s_X9_at_30 := rfl
set_option maxRecDepth 100000 in
theorem t_X9_at_32 : dropTo 32 k_X9_at = s_X9_at_32 := rfl
theorem ok_X9_at : mOkF m_X9_at k_X9_at = true := by decide +kernel
theorem cm_X9_at : mChkM m_X9_at = true := by decide +kernel
def s_X9_bad_14 : List mE := (14, .putfield 134, 3, 8, 10, 0, .inl 0, [1206]) ::
  (17, .aload_n 0, 1, 0, 0, 0, .inl 0, []) ::
  (18, .aload_n 0, 1, 0, 0, 0, .inl 0, []) ::
  (19, .getfield 92, 3, 8, 6, 0, .inl 0, [1202]) ::
  (22, .putfield 137, 3, 8, 11, 0, .inl 0, [1207]) ::
  (25, .iconst 0, 1, 0, 0, 0, .inl (nI 0), []) ::
  (26, .ireturn, 1, 1, 0, 0, .inl 0, []) :: []
def s_X9_bad_13 : List mE := (13, .iload_n 1, 1, 1, 0, 0, .inl 0, []) :: s_X9_bad_14
def s_X9_bad_0 : List mE := (0, .aload_n 0, 1, 0, 0, 0, .inl 0, []) ::
  (1, .aload_n 0, 1, 0, 0, 0, .inl 0, []) ::
  (2, .getfield 98, 3, 8, 7, 0, .inl 0, [1203]) ::
  (5, .iconst 1, 1, 0, 0, 0, .inl (nI 1), []) ::
  (6, .if_icmp .ne 7, 3, 13, 0, 0, .inl 0, []) ::
  (9, .iconst 1, 1, 0, 0, 0, .inl (nI 1), []) ::
  (10, .goto 4, 3, 14, 0, 0, .inl 0, []) :: s_X9_bad_13
def k_X9_bad : List mE := s_X9_bad_0
set_option maxRecDepth 100000 in
theorem t_X9_bad_0 : dropTo 0 k_X9_bad = s_X9_bad_0 := rfl
set_option maxRecDepth 100000 in
theorem t_X9_bad_13 : dropTo 13 k_X9_bad = s_X9_bad_13 := rfl
set_option maxRecDepth 100000 in
theorem t_X9_bad_14 : dropTo 14 k_X9_bad = s_X9_bad_14 := rfl
theorem ok_X9_bad : mOkF m_X9_bad k_X9_bad = true := by decide +kernel
theorem cm_X9_bad : mChkM m_X9_bad = true := by decide +kernel
def s_X9_begin_0 : List mE := (0, .aload_n 0, 1, 0, 0, 0, .inl 0, []) ::
  (1, .iconst 0, 1, 0, 0, 0, .inl (nI 0), []) ::
  (2, .putfield 76, 3, 8, 0, 0, .inl 0, [1196]) ::
  (5, .aload_n 0, 1, 0, 0, 0, .inl 0, []) ::
  (6, .aload_n 0, 1, 0, 0, 0, .inl 0, []) ::
  (7, .invokevirtual 156, 3, 245, 1, 1, .inl 0, [1357, 8]) ::
  (10, .putfield 86, 3, 8, 3, 0, .inl 0, [1199]) ::
  (13, .aload_n 0, 1, 0, 0, 0, .inl 0, []) ::
  (14, .iload_n 1, 1, 1, 0, 0, .inl 0, []) ::
  (15, .putfield 95, 3, 8, 4, 0, .inl 0, [1200]) ::
  (18, .aload_n 0, 1, 0, 0, 0, .inl 0, []) ::
  (19, .iconst 0, 1, 0, 0, 0, .inl (nI 0), []) ::
  (20, .putfield 134, 3, 8, 10, 0, .inl 0, [1206]) ::
  (23, .aload_n 0, 1, 0, 0, 0, .inl 0, []) ::
  (24, .iconst 0, 1, 0, 0, 0, .inl (nI 0), []) ::
  (25, .putfield 89, 3, 8, 5, 0, .inl 0, [1201]) ::
  (28, .aload_n 0, 1, 0, 0, 0, .inl 0, []) ::
  (29, .invokevirtual 150, 3, 162, 1, 0, .inl 0, [1361, 8]) ::
  (32, .return_, 1, 0, 0, 0, .inl 0, []) :: []
def k_X9_begin : List mE := s_X9_begin_0
set_option maxRecDepth 100000 in
theorem t_X9_begin_0 : dropTo 0 k_X9_begin = s_X9_begin_0 := rfl
theorem ok_X9_begin : mOkF m_X9_begin k_X9_begin = true := by decide +kernel
theorem cm_X9_begin : mChkM m_X9_begin = true := by decide +kernel
def s_X9_begin__14 : List mE := (14, .aload_n 0, 1, 0, 0, 0, .inl 0, []) ::
  (15, .invokevirtual 285, 3, 196, 1, 0, .inl 0, [1504, 8]) ::
  (18, .aload_n 0, 1, 0, 0, 0, .inl 0, []) ::
  (19, .aload_n 0, 1, 0, 0, 0, .inl 0, []) ::
  (20, .getfield 13, 3, 8, 14, 3, .inr (.inr (16, 925, 2)), [1210]) ::
  (23, .sipush 621, 3, 0, 0, 0, .inl (nI 621), []) ::
  (26, .invokevirtual 274, 3, 242, 3, 0, .inl 0, [1508, 8]) ::
  (29, .iconst 1, 1, 0, 0, 0, .inl (nI 1), []) ::
  (30, .ireturn, 1, 1, 0, 0, .inl 0, []) :: []
def s_X9_begin__0 : List mE := (0, .aload_n 0, 1, 0, 0, 0, .inl 0, []) ::
  (1, .iconst 0, 1, 0, 0, 0, .inl (nI 0), []) ::
  (2, .putfield 76, 3, 8, 0, 0, .inl 0, [1196]) ::
  (5, .aload_n 0, 1, 0, 0, 0, .inl 0, []) ::
  (6, .invokevirtual 219, 3, 253, 1, 1, .inl 0, [1472, 8]) ::
  (9, .ifCond .ne 5, 3, 14, 0, 0, .inl 0, []) ::
  (12, .iconst 0, 1, 0, 0, 0, .inl (nI 0), []) ::
  (13, .ireturn, 1, 1, 0, 0, .inl 0, []) :: s_X9_begin__14
def k_X9_begin_ : List mE := s_X9_begin__0
set_option maxRecDepth 100000 in
theorem t_X9_begin__0 : dropTo 0 k_X9_begin_ = s_X9_begin__0 := rfl
set_option maxRecDepth 100000 in
theorem t_X9_begin__14 : dropTo 14 k_X9_begin_ = s_X9_begin__14 := rfl
theorem ok_X9_begin_ : mOkF m_X9_begin_ k_X9_begin_ = true := by decide +kernel
theorem cm_X9_begin_ : mChkM m_X9_begin_ = true := by decide +kernel
def s_X9_bits_20 : List mE := (20, .iload_n 1, 1, 1, 0, 0, .inl 0, []) ::
  (21, .ireturn, 1, 0, 0, 0, .inl 0, []) :: []
def s_X9_bits_4 : List mE := (4, .iload_n 2, 1, 2, 0, 0, .inl 0, []) ::
  (5, .ifCond .eq 15, 3, 20, 0, 0, .inl 0, []) ::
  (8, .iinc 1 1, 3, 1, 0, 0, .inl (nI 1), []) ::
  (11, .iload_n 2, 1, 2, 0, 0, .inl 0, []) ::
  (12, .iload_n 2, 1, 2, 0, 0, .inl 0, []) ::
  (13, .iconst 1, 1, 0, 0, 0, .inl (nI 1), []) ::
  (14, .isub, 1, 0, 0, 0, .inl 0, []) ::
  (15, .iand, 1, 0, 0, 0, .inl 0, []) ::
  (16, .istore_n 2, 1, 2, 0, 0, .inl 0, []) ::
  (17, .goto (-13), 3, 4, 0, 0, .inl 0, []) :: s_X9_bits_20
def s_X9_bits_0 : List mE := (0, .iconst 0, 1, 0, 0, 0, .inl (nI 0), []) ::
  (1, .istore_n 1, 1, 1, 0, 0, .inl 0, []) ::
  (2, .iload_n 0, 1, 0, 0, 0, .inl 0, []) ::
  (3, .istore_n 2, 1, 2, 0, 0, .inl 0, []) :: s_X9_bits_4
def k_X9_bits : List mE := s_X9_bits_0
set_option maxRecDepth 100000 in
theorem t_X9_bits_0 : dropTo 0 k_X9_bits = s_X9_bits_0 := rfl
set_option maxRecDepth 100000 in
theorem t_X9_bits_4 : dropTo 4 k_X9_bits = s_X9_bits_4 := rfl
set_option maxRecDepth 100000 in
theorem t_X9_bits_20 : dropTo 20 k_X9_bits = s_X9_bits_20 := rfl
theorem ok_X9_bits : mOkF m_X9_bits k_X9_bits = true := by decide +kernel
theorem cm_X9_bits : mChkM m_X9_bits = true := by decide +kernel
def s_X9_bring_193 : List mE := (193, .return_, 1, 0, 0, 0, .inl 0, []) :: []
def s_X9_bring_187 : List mE := (187, .iinc 4 1, 3, 4, 0, 0, .inl (nI 1), []) ::
  (190, .goto (-187), 3, 3, 0, 0, .inl 0, []) :: s_X9_bring_193
def s_X9_bring_53 : List mE := (53, .aload_n 0, 1, 0, 0, 0, .inl 0, []) ::
  (54, .getfield 13, 3, 8, 14, 3, .inr (.inr (16, 925, 2)), [1210]) ::
  (57, .iload 5, 2, 5, 0, 0, .inl 0, []) ::
  (59, .iconst 1, 1, 0, 0, 0, .inl (nI 1), []) ::
  (60, .iadd, 1, 0, 0, 0, .inl 0, []) ::
  (61, .iaload, 1, 0, 0, 0, .inl 0, []) ::
  (62, .aload_n 0, 1, 0, 0, 0, .inl 0, []) ::
  (63, .getfield 13, 3, 8, 14, 3, .inr (.inr (16, 925, 2)), [1210]) ::
  (66, .iload 5, 2, 5, 0, 0, .inl 0, []) ::
  (68, .iconst 2, 1, 0, 0, 0, .inl (nI 2), []) ::
  (69, .iadd, 1, 0, 0, 0, .inl 0, []) ::
  (70, .iaload, 1, 0, 0, 0, .inl 0, []) ::
  (71, .invokestatic 182, 3, 148, 2, 1, .inl 0, [1437]) ::
  (74, .istore 6, 2, 6, 0, 0, .inl 0, []) ::
  (76, .aload_n 0, 1, 0, 0, 0, .inl 0, []) ::
  (77, .getfield 39, 3, 8, 22, 3, .inr (.inr (16, 278, 10)), [1218]) ::
  (80, .bipush 86, 2, 0, 0, 0, .inl (nI 86), []) ::
  (82, .iload 6, 2, 6, 0, 0, .inl 0, []) ::
  (84, .iadd, 1, 0, 0, 0, .inl 0, []) ::
  (85, .iaload, 1, 0, 0, 0, .inl 0, []) ::
  (86, .aload_n 1, 1, 1, 0, 0, .inl 0, []) ::
  (87, .iload_n 2, 1, 2, 0, 0, .inl 0, []) ::
  (88, .iconst 2, 1, 0, 0, 0, .inl (nI 2), []) ::
  (89, .iadd, 1, 0, 0, 0, .inl 0, []) ::
  (90, .iload 6, 2, 6, 0, 0, .inl 0, []) ::
  (92, .iadd, 1, 0, 0, 0, .inl 0, []) ::
  (93, .iaload, 1, 0, 0, 0, .inl 0, []) ::
  (94, .isub, 1, 0, 0, 0, .inl 0, []) ::
  (95, .istore 7, 2, 7, 0, 0, .inl 0, []) ::
  (97, .aload_n 0, 1, 0, 0, 0, .inl 0, []) ::
  (98, .getfield 13, 3, 8, 14, 3, .inr (.inr (16, 925, 2)), [1210]) ::
  (101, .iload 5, 2, 5, 0, 0, .inl 0, []) ::
  (103, .iconst 3, 1, 0, 0, 0, .inl (nI 3), []) ::
  (104, .iadd, 1, 0, 0, 0, .inl 0, []) ::
  (105, .iaload, 1, 0, 0, 0, .inl 0, []) ::
  (106, .iload 7, 2, 7, 0, 0, .inl 0, []) ::
  (108, .invokestatic 247, 3, 199, 2, 1, .inl 0, [1528]) ::
  (111, .istore 8, 2, 8, 0, 0, .inl 0, []) ::
  (113, .aload_n 1, 1, 1, 0, 0, .inl 0, []) ::
  (114, .iload_n 2, 1, 2, 0, 0, .inl 0, []) ::
  (115, .iconst 2, 1, 0, 0, 0, .inl (nI 2), []) ::
  (116, .iadd, 1, 0, 0, 0, .inl 0, []) ::
  (117, .iload 6, 2, 6, 0, 0, .inl 0, []) ::
  (119, .iadd, 1, 0, 0, 0, .inl 0, []) ::
  (120, .dup2, 1, 0, 0, 0, .inl 0, []) ::
  (121, .iaload, 1, 0, 0, 0, .inl 0, []) ::
  (122, .iload 8, 2, 8, 0, 0, .inl 0, []) ::
  (124, .iadd, 1, 0, 0, 0, .inl 0, []) ::
  (125, .iastore, 1, 0, 0, 0, .inl 0, []) ::
  (126, .aload_n 1, 1, 1, 0, 0, .inl 0, []) ::
  (127, .iload_n 2, 1, 2, 0, 0, .inl 0, []) ::
  (128, .sipush 266, 3, 0, 0, 0, .inl (nI 266), []) ::
  (131, .iadd, 1, 0, 0, 0, .inl 0, []) ::
  (132, .aload_n 0, 1, 0, 0, 0, .inl 0, []) ::
  (133, .getfield 13, 3, 8, 14, 3, .inr (.inr (16, 925, 2)), [1210]) ::
  (136, .iload 5, 2, 5, 0, 0, .inl 0, []) ::
  (138, .iconst 2, 1, 0, 0, 0, .inl (nI 2), []) ::
  (139, .iadd, 1, 0, 0, 0, .inl 0, []) ::
  (140, .iaload, 1, 0, 0, 0, .inl 0, []) ::
  (141, .iadd, 1, 0, 0, 0, .inl 0, []) ::
  (142, .dup2, 1, 0, 0, 0, .inl 0, []) ::
  (143, .iaload, 1, 0, 0, 0, .inl 0, []) ::
  (144, .aload_n 0, 1, 0, 0, 0, .inl 0, []) ::
  (145, .getfield 13, 3, 8, 14, 3, .inr (.inr (16, 925, 2)), [1210]) ::
  (148, .iload 5, 2, 5, 0, 0, .inl 0, []) ::
  (150, .iconst 3, 1, 0, 0, 0, .inl (nI 3), []) ::
  (151, .iadd, 1, 0, 0, 0, .inl 0, []) ::
  (152, .iaload, 1, 0, 0, 0, .inl 0, []) ::
  (153, .iadd, 1, 0, 0, 0, .inl 0, []) ::
  (154, .iastore, 1, 0, 0, 0, .inl 0, []) ::
  (155, .aload_n 1, 1, 1, 0, 0, .inl 0, []) ::
  (156, .iload_n 2, 1, 2, 0, 0, .inl 0, []) ::
  (157, .sipush 284, 3, 0, 0, 0, .inl (nI 284), []) ::
  (160, .iadd, 1, 0, 0, 0, .inl 0, []) ::
  (161, .aload_n 0, 1, 0, 0, 0, .inl 0, []) ::
  (162, .getfield 13, 3, 8, 14, 3, .inr (.inr (16, 925, 2)), [1210]) ::
  (165, .iload 5, 2, 5, 0, 0, .inl 0, []) ::
  (167, .iconst 2, 1, 0, 0, 0, .inl (nI 2), []) ::
  (168, .iadd, 1, 0, 0, 0, .inl 0, []) ::
  (169, .iaload, 1, 0, 0, 0, .inl 0, []) ::
  (170, .iadd, 1, 0, 0, 0, .inl 0, []) ::
  (171, .dup2, 1, 0, 0, 0, .inl 0, []) ::
  (172, .iaload, 1, 0, 0, 0, .inl 0, []) ::
  (173, .aload_n 0, 1, 0, 0, 0, .inl 0, []) ::
  (174, .getfield 13, 3, 8, 14, 3, .inr (.inr (16, 925, 2)), [1210]) ::
  (177, .iload 5, 2, 5, 0, 0, .inl 0, []) ::
  (179, .iconst 3, 1, 0, 0, 0, .inl (nI 3), []) ::
  (180, .iadd, 1, 0, 0, 0, .inl 0, []) ::
  (181, .iaload, 1, 0, 0, 0, .inl 0, []) ::
  (182, .iload 8, 2, 8, 0, 0, .inl 0, []) ::
  (184, .isub, 1, 0, 0, 0, .inl 0, []) ::
  (185, .iadd, 1, 0, 0, 0, .inl 0, []) ::
  (186, .iastore, 1, 0, 0, 0, .inl 0, []) :: s_X9_bring_187
def s_X9_bring_3 : List mE := (3, .iload 4, 2, 4, 0, 0, .inl 0, []) ::
  (5, .aload_n 0, 1, 0, 0, 0, .inl 0, []) ::
  (6, .getfield 13, 3, 8, 14, 3, .inr (.inr (16, 925, 2)), [1210]) ::
  (9, .sipush 278, 3, 0, 0, 0, .inl (nI 278), []) ::
  (12, .iaload, 1, 0, 0, 0, .inl 0, []) ::
  (13, .if_icmp .ge 180, 3, 193, 0, 0, .inl 0, []) ::
  (16, .sipush 279, 3, 0, 0, 0, .inl (nI 279), []) ::
  (19, .iconst 5, 1, 0, 0, 0, .inl (nI 5), []) ::
  (20, .iload 4, 2, 4, 0, 0, .inl 0, []) ::
  (22, .imul, 1, 0, 0, 0, .inl 0, []) ::
  (23, .iadd, 1, 0, 0, 0, .inl 0, []) ::
  (24, .istore 5, 2, 5, 0, 0, .inl 0, []) ::
  (26, .aload_n 0, 1, 0, 0, 0, .inl 0, []) ::
  (27, .getfield 13, 3, 8, 14, 3, .inr (.inr (16, 925, 2)), [1210]) ::
  (30, .iload 5, 2, 5, 0, 0, .inl 0, []) ::
  (32, .iaload, 1, 0, 0, 0, .inl 0, []) ::
  (33, .iconst 1, 1, 0, 0, 0, .inl (nI 1), []) ::
  (34, .if_icmp .ne 153, 3, 187, 0, 0, .inl 0, []) ::
  (37, .aload_n 0, 1, 0, 0, 0, .inl 0, []) ::
  (38, .getfield 13, 3, 8, 14, 3, .inr (.inr (16, 925, 2)), [1210]) ::
  (41, .iload 5, 2, 5, 0, 0, .inl 0, []) ::
  (43, .iconst 4, 1, 0, 0, 0, .inl (nI 4), []) ::
  (44, .iadd, 1, 0, 0, 0, .inl 0, []) ::
  (45, .iaload, 1, 0, 0, 0, .inl 0, []) ::
  (46, .iload_n 3, 1, 3, 0, 0, .inl 0, []) ::
  (47, .if_icmp .eq 6, 3, 53, 0, 0, .inl 0, []) ::
  (50, .goto 137, 3, 187, 0, 0, .inl 0, []) :: s_X9_bring_53
def s_X9_bring_0 : List mE := (0, .iconst 0, 1, 0, 0, 0, .inl (nI 0), []) ::
  (1, .istore 4, 2, 4, 0, 0, .inl 0, []) :: s_X9_bring_3
def k_X9_bring : List mE := s_X9_bring_0
set_option maxRecDepth 100000 in
theorem t_X9_bring_0 : dropTo 0 k_X9_bring = s_X9_bring_0 := rfl
set_option maxRecDepth 100000 in
theorem t_X9_bring_3 : dropTo 3 k_X9_bring = s_X9_bring_3 := rfl
set_option maxRecDepth 100000 in
theorem t_X9_bring_53 : dropTo 53 k_X9_bring = s_X9_bring_53 := rfl
set_option maxRecDepth 100000 in
theorem t_X9_bring_187 : dropTo 187 k_X9_bring = s_X9_bring_187 := rfl
set_option maxRecDepth 100000 in
theorem t_X9_bring_193 : dropTo 193 k_X9_bring = s_X9_bring_193 := rfl
theorem ok_X9_bring : mOkF m_X9_bring k_X9_bring = true := by decide +kernel
theorem cm_X9_bring : mChkM m_X9_bring = true := by decide +kernel
def s_X9_brook_135 : List mE := (135, .iload_n 1, 1, 1, 0, 0, .inl 0, []) ::
  (136, .ireturn, 1, 0, 0, 0, .inl 0, []) :: []
def s_X9_brook_111 : List mE := (111, .iload_n 2, 1, 2, 0, 0, .inl 0, []) ::
  (112, .bipush 14, 2, 0, 0, 0, .inl (nI 14), []) ::
  (114, .if_icmp .ge 21, 3, 135, 0, 0, .inl 0, []) ::
  (117, .aload_n 0, 1, 0, 0, 0, .inl 0, []) ::
  (118, .getfield 25, 3, 8, 18, 3, .inr (.inr (17, 14, 6)), [1214]) ::
  (121, .iload_n 2, 1, 2, 0, 0, .inl 0, []) ::
  (122, .aload_n 0, 1, 0, 0, 0, .inl 0, []) ::
  (123, .getfield 29, 3, 8, 19, 3, .inr (.inr (17, 14, 7)), [1215]) ::
  (126, .iload_n 2, 1, 2, 0, 0, .inl 0, []) ::
  (127, .laload, 1, 0, 0, 0, .inl 0, []) ::
  (128, .lastore, 1, 0, 0, 0, .inl 0, []) ::
  (129, .iinc 2 1, 3, 2, 0, 0, .inl (nI 1), []) ::
  (132, .goto (-21), 3, 111, 0, 0, .inl 0, []) :: s_X9_brook_135
def s_X9_brook_109 : List mE := (109, .iconst 0, 1, 0, 0, 0, .inl (nI 0), []) ::
  (110, .istore_n 2, 1, 2, 0, 0, .inl 0, []) :: s_X9_brook_111
def s_X9_brook_89 : List mE := (89, .iload_n 2, 1, 2, 0, 0, .inl 0, []) ::
  (90, .sipush 925, 3, 0, 0, 0, .inl (nI 925), []) ::
  (93, .if_icmp .ge 16, 3, 109, 0, 0, .inl 0, []) ::
  (96, .aload_n 0, 1, 0, 0, 0, .inl 0, []) ::
  (97, .getfield 13, 3, 8, 14, 3, .inr (.inr (16, 925, 2)), [1210]) ::
  (100, .iload_n 2, 1, 2, 0, 0, .inl 0, []) ::
  (101, .iconst 0, 1, 0, 0, 0, .inl (nI 0), []) ::
  (102, .iastore, 1, 0, 0, 0, .inl 0, []) ::
  (103, .iinc 2 1, 3, 2, 0, 0, .inl (nI 1), []) ::
  (106, .goto (-17), 3, 89, 0, 0, .inl 0, []) :: s_X9_brook_109
def s_X9_brook_85 : List mE := (85, .sipush 278, 3, 0, 0, 0, .inl (nI 278), []) ::
  (88, .istore_n 2, 1, 2, 0, 0, .inl 0, []) :: s_X9_brook_89
def s_X9_brook_60 : List mE := (60, .iload_n 2, 1, 2, 0, 0, .inl 0, []) ::
  (61, .sipush 278, 3, 0, 0, 0, .inl (nI 278), []) ::
  (64, .if_icmp .ge 21, 3, 85, 0, 0, .inl 0, []) ::
  (67, .aload_n 0, 1, 0, 0, 0, .inl 0, []) ::
  (68, .getfield 13, 3, 8, 14, 3, .inr (.inr (16, 925, 2)), [1210]) ::
  (71, .iload_n 2, 1, 2, 0, 0, .inl 0, []) ::
  (72, .aload_n 0, 1, 0, 0, 0, .inl 0, []) ::
  (73, .getfield 16, 3, 8, 15, 3, .inr (.inr (16, 278, 3)), [1211]) ::
  (76, .iload_n 2, 1, 2, 0, 0, .inl 0, []) ::
  (77, .iaload, 1, 0, 0, 0, .inl 0, []) ::
  (78, .iastore, 1, 0, 0, 0, .inl 0, []) ::
  (79, .iinc 2 1, 3, 2, 0, 0, .inl (nI 1), []) ::
  (82, .goto (-22), 3, 60, 0, 0, .inl 0, []) :: s_X9_brook_85
def s_X9_brook_58 : List mE := (58, .iconst 0, 1, 0, 0, 0, .inl (nI 0), []) ::
  (59, .istore_n 2, 1, 2, 0, 0, .inl 0, []) :: s_X9_brook_60
def s_X9_brook_52 : List mE := (52, .iinc 1 1, 3, 1, 0, 0, .inl (nI 1), []) ::
  (55, .goto (-24), 3, 31, 0, 0, .inl 0, []) :: s_X9_brook_58
def s_X9_brook_31 : List mE := (31, .aload_n 0, 1, 0, 0, 0, .inl 0, []) ::
  (32, .getfield 98, 3, 8, 7, 0, .inl 0, [1203]) ::
  (35, .ifCond .eq 23, 3, 58, 0, 0, .inl 0, []) ::
  (38, .aload_n 0, 1, 0, 0, 0, .inl 0, []) ::
  (39, .invokevirtual 216, 3, 224, 1, 1, .inl 0, [1377, 8]) ::
  (42, .ifCond .ne 10, 3, 52, 0, 0, .inl 0, []) ::
  (45, .iconst (-1), 1, 0, 0, 0, .inl (-1), []) ::
  (46, .aload_n 0, 1, 0, 0, 0, .inl 0, []) ::
  (47, .getfield 137, 3, 8, 11, 0, .inl 0, [1207]) ::
  (50, .isub, 1, 0, 0, 0, .inl 0, []) ::
  (51, .ireturn, 1, 0, 0, 0, .inl 0, []) :: s_X9_brook_52
def s_X9_brook_29 : List mE := (29, .iconst 0, 1, 0, 0, 0, .inl (nI 0), []) ::
  (30, .istore_n 1, 1, 1, 0, 0, .inl 0, []) :: s_X9_brook_31
def s_X9_brook_9 : List mE := (9, .iload_n 1, 1, 1, 0, 0, .inl 0, []) ::
  (10, .sipush 278, 3, 0, 0, 0, .inl (nI 278), []) ::
  (13, .if_icmp .ge 16, 3, 29, 0, 0, .inl 0, []) ::
  (16, .aload_n 0, 1, 0, 0, 0, .inl 0, []) ::
  (17, .getfield 16, 3, 8, 15, 3, .inr (.inr (16, 278, 3)), [1211]) ::
  (20, .iload_n 1, 1, 1, 0, 0, .inl 0, []) ::
  (21, .iconst 0, 1, 0, 0, 0, .inl (nI 0), []) ::
  (22, .iastore, 1, 0, 0, 0, .inl 0, []) ::
  (23, .iinc 1 1, 3, 1, 0, 0, .inl (nI 1), []) ::
  (26, .goto (-17), 3, 9, 0, 0, .inl 0, []) :: s_X9_brook_29
def s_X9_brook_0 : List mE := (0, .aload_n 0, 1, 0, 0, 0, .inl 0, []) ::
  (1, .sipush 900, 3, 0, 0, 0, .inl (nI 900), []) ::
  (4, .invokevirtual 213, 3, 141, 2, 0, .inl 0, [1353, 8]) ::
  (7, .iconst 0, 1, 0, 0, 0, .inl (nI 0), []) ::
  (8, .istore_n 1, 1, 1, 0, 0, .inl 0, []) :: s_X9_brook_9
def k_X9_brook : List mE := s_X9_brook_0
set_option maxRecDepth 100000 in
theorem t_X9_brook_0 : dropTo 0 k_X9_brook = s_X9_brook_0 := rfl
set_option maxRecDepth 100000 in
theorem t_X9_brook_9 : dropTo 9 k_X9_brook = s_X9_brook_9 := rfl
set_option maxRecDepth 100000 in
theorem t_X9_brook_29 : dropTo 29 k_X9_brook = s_X9_brook_29 := rfl
set_option maxRecDepth 100000 in
theorem t_X9_brook_31 : dropTo 31 k_X9_brook = s_X9_brook_31 := rfl
set_option maxRecDepth 100000 in
theorem t_X9_brook_52 : dropTo 52 k_X9_brook = s_X9_brook_52 := rfl
set_option maxRecDepth 100000 in
theorem t_X9_brook_58 : dropTo 58 k_X9_brook = s_X9_brook_58 := rfl
set_option maxRecDepth 100000 in
theorem t_X9_brook_60 : dropTo 60 k_X9_brook = s_X9_brook_60 := rfl
set_option maxRecDepth 100000 in
theorem t_X9_brook_85 : dropTo 85 k_X9_brook = s_X9_brook_85 := rfl
set_option maxRecDepth 100000 in
theorem t_X9_brook_89 : dropTo 89 k_X9_brook = s_X9_brook_89 := rfl
set_option maxRecDepth 100000 in
theorem t_X9_brook_109 : dropTo 109 k_X9_brook = s_X9_brook_109 := rfl
set_option maxRecDepth 100000 in
theorem t_X9_brook_111 : dropTo 111 k_X9_brook = s_X9_brook_111 := rfl
set_option maxRecDepth 100000 in
theorem t_X9_brook_135 : dropTo 135 k_X9_brook = s_X9_brook_135 := rfl
theorem ok_X9_brook : mOkF m_X9_brook k_X9_brook = true := by decide +kernel
theorem cm_X9_brook : mChkM m_X9_brook = true := by decide +kernel
def s_X9_by_30 : List mE := (30, .ireturn, 1, 0, 0, 0, .inl 0, []) :: []
def s_X9_by_29 : List mE := (29, .iconst (-1), 1, 0, 0, 0, .inl (-1), []) :: s_X9_by_30
def s_X9_by_0 : List mE := (0, .aload_n 0, 1, 0, 0, 0, .inl 0, []) ::
  (1, .iconst 0, 1, 0, 0, 0, .inl (nI 0), []) ::
  (2, .putfield 76, 3, 8, 0, 0, .inl 0, [1196]) ::
  (5, .aload_n 0, 1, 0, 0, 0, .inl 0, []) ::
  (6, .iload_n 1, 1, 1, 0, 0, .inl 0, []) ::
  (7, .invokevirtual 300, 3, 181, 2, 1, .inl 0, [1610, 8]) ::
  (10, .ifCond .eq 19, 3, 29, 0, 0, .inl 0, []) ::
  (13, .iload_n 2, 1, 2, 0, 0, .inl 0, []) ::
  (14, .invokestatic 303, 3, 176, 1, 1, .inl 0, [1614]) ::
  (17, .ifCond .eq 12, 3, 29, 0, 0, .inl 0, []) ::
  (20, .aload_n 0, 1, 0, 0, 0, .inl 0, []) ::
  (21, .iload_n 1, 1, 1, 0, 0, .inl 0, []) ::
  (22, .iload_n 2, 1, 2, 0, 0, .inl 0, []) ::
  (23, .invokevirtual 306, 3, 204, 3, 1, .inl 0, [1617, 8]) ::
  (26, .goto 4, 3, 30, 0, 0, .inl 0, []) :: s_X9_by_29
def k_X9_by : List mE := s_X9_by_0
set_option maxRecDepth 100000 in
theorem t_X9_by_0 : dropTo 0 k_X9_by = s_X9_by_0 := rfl
set_option maxRecDepth 100000 in
theorem t_X9_by_29 : dropTo 29 k_X9_by = s_X9_by_29 := rfl
set_option maxRecDepth 100000 in
theorem t_X9_by_30 : dropTo 30 k_X9_by = s_X9_by_30 := rfl
theorem ok_X9_by : mOkF m_X9_by k_X9_by = true := by decide +kernel
theorem cm_X9_by : mChkM m_X9_by = true := by decide +kernel
def s_X9_byteAt_27 : List mE := (27, .ireturn, 1, 0, 0, 0, .inl 0, []) :: []
def s_X9_byteAt_26 : List mE := (26, .iconst (-1), 1, 0, 0, 0, .inl (-1), []) :: s_X9_byteAt_27
def s_X9_byteAt_0 : List mE := (0, .aload_n 0, 1, 0, 0, 0, .inl 0, []) ::
  (1, .iconst 0, 1, 0, 0, 0, .inl (nI 0), []) ::
  (2, .putfield 76, 3, 8, 0, 0, .inl 0, [1196]) ::
  (5, .iload_n 1, 1, 1, 0, 0, .inl 0, []) ::
  (6, .ifCond .lt 20, 3, 26, 0, 0, .inl 0, []) ::
  (9, .iload_n 1, 1, 1, 0, 0, .inl 0, []) ::
  (10, .aload_n 0, 1, 0, 0, 0, .inl 0, []) ::
  (11, .getfield 343, 3, 8, 38, 0, .inl 0, [1234]) ::
  (14, .if_icmp .ge 12, 3, 26, 0, 0, .inl 0, []) ::
  (17, .aload_n 0, 1, 0, 0, 0, .inl 0, []) ::
  (18, .getfield 67, 3, 8, 36, 3, .inr (.inr (16, 160, 18)), [1232]) ::
  (21, .iload_n 1, 1, 1, 0, 0, .inl 0, []) ::
  (22, .iaload, 1, 0, 0, 0, .inl 0, []) ::
  (23, .goto 4, 3, 27, 0, 0, .inl 0, []) :: s_X9_byteAt_26
def k_X9_byteAt : List mE := s_X9_byteAt_0
set_option maxRecDepth 100000 in
theorem t_X9_byteAt_0 : dropTo 0 k_X9_byteAt = s_X9_byteAt_0 := rfl
set_option maxRecDepth 100000 in
theorem t_X9_byteAt_26 : dropTo 26 k_X9_byteAt = s_X9_byteAt_26 := rfl
set_option maxRecDepth 100000 in
theorem t_X9_byteAt_27 : dropTo 27 k_X9_byteAt = s_X9_byteAt_27 := rfl
theorem ok_X9_byteAt : mOkF m_X9_byteAt k_X9_byteAt = true := by decide +kernel
theorem cm_X9_byteAt : mChkM m_X9_byteAt = true := by decide +kernel
def s_X9_cell_0 : List mE := (0, .bipush 6, 2, 0, 0, 0, .inl (nI 6), []) ::
  (2, .iload_n 0, 1, 0, 0, 0, .inl 0, []) ::
  (3, .imul, 1, 0, 0, 0, .inl 0, []) ::
  (4, .iload_n 1, 1, 1, 0, 0, .inl 0, []) ::
  (5, .iadd, 1, 0, 0, 0, .inl 0, []) ::
  (6, .ireturn, 1, 0, 0, 0, .inl 0, []) :: []
def k_X9_cell : List mE := s_X9_cell_0
set_option maxRecDepth 100000 in
theorem t_X9_cell_0 : dropTo 0 k_X9_cell = s_X9_cell_0 := rfl
theorem ok_X9_cell : mOkF m_X9_cell k_X9_cell = true := by decide +kernel
theorem cm_X9_cell : mChkM m_X9_cell = true := by decide +kernel
def s_X9_change_0 : List mE := (0, .aload_n 0, 1, 0, 0, 0, .inl 0, []) ::
  (1, .getfield 39, 3, 8, 22, 3, .inr (.inr (16, 278, 10)), [1218]) ::
  (4, .iload_n 1, 1, 1, 0, 0, .inl 0, []) ::
  (5, .iaload, 1, 0, 0, 0, .inl 0, []) ::
  (6, .istore_n 3, 1, 3, 0, 0, .inl 0, []) ::
  (7, .aload_n 0, 1, 0, 0, 0, .inl 0, []) ::
  (8, .getfield 39, 3, 8, 22, 3, .inr (.inr (16, 278, 10)), [1218]) ::
  (11, .iload_n 1, 1, 1, 0, 0, .inl 0, []) ::
  (12, .aload_n 0, 1, 0, 0, 0, .inl 0, []) ::
  (13, .getfield 39, 3, 8, 22, 3, .inr (.inr (16, 278, 10)), [1218]) ::
  (16, .iload_n 2, 1, 2, 0, 0, .inl 0, []) ::
  (17, .iaload, 1, 0, 0, 0, .inl 0, []) ::
  (18, .iastore, 1, 0, 0, 0, .inl 0, []) ::
  (19, .aload_n 0, 1, 0, 0, 0, .inl 0, []) ::
  (20, .getfield 39, 3, 8, 22, 3, .inr (.inr (16, 278, 10)), [1218]) ::
  (23, .iload_n 2, 1, 2, 0, 0, .inl 0, []) ::
  (24, .iload_n 3, 1, 3, 0, 0, .inl 0, []) ::
  (25, .iastore, 1, 0, 0, 0, .inl 0, []) ::
  (26, .return_, 1, 0, 0, 0, .inl 0, []) :: []
def k_X9_change : List mE := s_X9_change_0
set_option maxRecDepth 100000 in
theorem t_X9_change_0 : dropTo 0 k_X9_change = s_X9_change_0 := rfl
theorem ok_X9_change : mOkF m_X9_change k_X9_change = true := by decide +kernel
theorem cm_X9_change : mChkM m_X9_change = true := by decide +kernel
def s_X9_come_39 : List mE := (39, .return_, 1, 0, 0, 0, .inl 0, []) :: []
def s_X9_come_3 : List mE := (3, .iload_n 2, 1, 2, 0, 0, .inl 0, []) ::
  (4, .ifCond .lt 35, 3, 39, 0, 0, .inl 0, []) ::
  (7, .aload_n 0, 1, 0, 0, 0, .inl 0, []) ::
  (8, .getfield 7, 3, 8, 1, 3, .inr (.inr (16, 940, 1)), [1197]) ::
  (11, .aload_n 0, 1, 0, 0, 0, .inl 0, []) ::
  (12, .getfield 79, 3, 8, 2, 0, .inl 0, [1198]) ::
  (15, .iload_n 1, 1, 1, 0, 0, .inl 0, []) ::
  (16, .iload_n 2, 1, 2, 0, 0, .inl 0, []) ::
  (17, .iushr, 1, 0, 0, 0, .inl 0, []) ::
  (18, .sipush 255, 3, 0, 0, 0, .inl (nI 255), []) ::
  (21, .iand, 1, 0, 0, 0, .inl 0, []) ::
  (22, .iastore, 1, 0, 0, 0, .inl 0, []) ::
  (23, .aload_n 0, 1, 0, 0, 0, .inl 0, []) ::
  (24, .dup, 1, 0, 0, 0, .inl 0, []) ::
  (25, .getfield 79, 3, 8, 2, 0, .inl 0, [1198]) ::
  (28, .iconst 1, 1, 0, 0, 0, .inl (nI 1), []) ::
  (29, .iadd, 1, 0, 0, 0, .inl 0, []) ::
  (30, .putfield 79, 3, 8, 2, 0, .inl 0, [1198]) ::
  (33, .iinc 2 (-8), 3, 2, 0, 0, .inl (-8), []) ::
  (36, .goto (-33), 3, 3, 0, 0, .inl 0, []) :: s_X9_come_39
def s_X9_come_0 : List mE := (0, .bipush 24, 2, 0, 0, 0, .inl (nI 24), []) ::
  (2, .istore_n 2, 1, 2, 0, 0, .inl 0, []) :: s_X9_come_3
def k_X9_come : List mE := s_X9_come_0
set_option maxRecDepth 100000 in
theorem t_X9_come_0 : dropTo 0 k_X9_come = s_X9_come_0 := rfl
set_option maxRecDepth 100000 in
theorem t_X9_come_3 : dropTo 3 k_X9_come = s_X9_come_3 := rfl
set_option maxRecDepth 100000 in
theorem t_X9_come_39 : dropTo 39 k_X9_come = s_X9_come_39 := rfl
theorem ok_X9_come : mOkF m_X9_come k_X9_come = true := by decide +kernel
theorem cm_X9_come : mChkM m_X9_come = true := by decide +kernel
def s_X9_comes_32 : List mE := (32, .ireturn, 1, 0, 0, 0, .inl 0, []) :: []
def s_X9_comes_31 : List mE := (31, .iconst (-1), 1, 0, 0, 0, .inl (-1), []) :: s_X9_comes_32
def s_X9_comes_0 : List mE := (0, .aload_n 0, 1, 0, 0, 0, .inl 0, []) ::
  (1, .iconst 0, 1, 0, 0, 0, .inl (nI 0), []) ::
  (2, .putfield 76, 3, 8, 0, 0, .inl 0, [1196]) ::
  (5, .aload_n 0, 1, 0, 0, 0, .inl 0, []) ::
  (6, .iload_n 1, 1, 1, 0, 0, .inl 0, []) ::
  (7, .iload_n 2, 1, 2, 0, 0, .inl 0, []) ::
  (8, .invokevirtual 291, 3, 188, 3, 1, .inl 0, [1562, 8]) ::
  (11, .ifCond .eq 20, 3, 31, 0, 0, .inl 0, []) ::
  (14, .aload_n 0, 1, 0, 0, 0, .inl 0, []) ::
  (15, .getfield 13, 3, 8, 14, 3, .inr (.inr (16, 925, 2)), [1210]) ::
  (18, .sipush 719, 3, 0, 0, 0, .inl (nI 719), []) ::
  (21, .iload_n 1, 1, 1, 0, 0, .inl 0, []) ::
  (22, .iload_n 2, 1, 2, 0, 0, .inl 0, []) ::
  (23, .invokestatic 182, 3, 148, 2, 1, .inl 0, [1437]) ::
  (26, .iadd, 1, 0, 0, 0, .inl 0, []) ::
  (27, .iaload, 1, 0, 0, 0, .inl 0, []) ::
  (28, .goto 4, 3, 32, 0, 0, .inl 0, []) :: s_X9_comes_31
def k_X9_comes : List mE := s_X9_comes_0
set_option maxRecDepth 100000 in
theorem t_X9_comes_0 : dropTo 0 k_X9_comes = s_X9_comes_0 := rfl
set_option maxRecDepth 100000 in
theorem t_X9_comes_31 : dropTo 31 k_X9_comes = s_X9_comes_31 := rfl
set_option maxRecDepth 100000 in
theorem t_X9_comes_32 : dropTo 32 k_X9_comes = s_X9_comes_32 := rfl
theorem ok_X9_comes : mOkF m_X9_comes k_X9_comes = true := by decide +kernel
theorem cm_X9_comes : mChkM m_X9_comes = true := by decide +kernel
def s_X9_count_104 : List mE := (104, .iconst (-1), 1, 0, 0, 0, .inl (-1), []) ::
  (105, .ireturn, 1, 0, 0, 0, .inl 0, []) :: []
def s_X9_count_99 : List mE := (99, .aload_n 0, 1, 0, 0, 0, .inl 0, []) ::
  (100, .getfield 79, 3, 8, 2, 0, .inl 0, [1198]) ::
  (103, .ireturn, 1, 0, 0, 0, .inl 0, []) :: s_X9_count_104
def s_X9_count_90 : List mE := (90, .aload_n 0, 1, 0, 0, 0, .inl 0, []) ::
  (91, .getfield 13, 3, 8, 14, 3, .inr (.inr (16, 925, 2)), [1210]) ::
  (94, .sipush 278, 3, 0, 0, 0, .inl (nI 278), []) ::
  (97, .iaload, 1, 0, 0, 0, .inl 0, []) ::
  (98, .ireturn, 1, 0, 0, 0, .inl 0, []) :: s_X9_count_99
def s_X9_count_83 : List mE := (83, .aload_n 0, 1, 0, 0, 0, .inl 0, []) ::
  (84, .getfield 13, 3, 8, 14, 3, .inr (.inr (16, 925, 2)), [1210]) ::
  (87, .iconst 2, 1, 0, 0, 0, .inl (nI 2), []) ::
  (88, .iaload, 1, 0, 0, 0, .inl 0, []) ::
  (89, .ireturn, 1, 0, 0, 0, .inl 0, []) :: s_X9_count_90
def s_X9_count_76 : List mE := (76, .aload_n 0, 1, 0, 0, 0, .inl 0, []) ::
  (77, .getfield 13, 3, 8, 14, 3, .inr (.inr (16, 925, 2)), [1210]) ::
  (80, .iconst 5, 1, 0, 0, 0, .inl (nI 5), []) ::
  (81, .iaload, 1, 0, 0, 0, .inl 0, []) ::
  (82, .ireturn, 1, 0, 0, 0, .inl 0, []) :: s_X9_count_83
def s_X9_count_69 : List mE := (69, .aload_n 0, 1, 0, 0, 0, .inl 0, []) ::
  (70, .getfield 13, 3, 8, 14, 3, .inr (.inr (16, 925, 2)), [1210]) ::
  (73, .iconst 4, 1, 0, 0, 0, .inl (nI 4), []) ::
  (74, .iaload, 1, 0, 0, 0, .inl 0, []) ::
  (75, .ireturn, 1, 0, 0, 0, .inl 0, []) :: s_X9_count_76
def s_X9_count_62 : List mE := (62, .aload_n 0, 1, 0, 0, 0, .inl 0, []) ::
  (63, .getfield 13, 3, 8, 14, 3, .inr (.inr (16, 925, 2)), [1210]) ::
  (66, .iconst 3, 1, 0, 0, 0, .inl (nI 3), []) ::
  (67, .iaload, 1, 0, 0, 0, .inl 0, []) ::
  (68, .ireturn, 1, 0, 0, 0, .inl 0, []) :: s_X9_count_69
def s_X9_count_57 : List mE := (57, .aload_n 0, 1, 0, 0, 0, .inl 0, []) ::
  (58, .invokevirtual 219, 3, 253, 1, 1, .inl 0, [1472, 8]) ::
  (61, .ireturn, 1, 0, 0, 0, .inl 0, []) :: s_X9_count_62
def s_X9_count_52 : List mE := (52, .aload_n 0, 1, 0, 0, 0, .inl 0, []) ::
  (53, .invokevirtual 222, 3, 165, 1, 1, .inl 0, [1484, 8]) ::
  (56, .ireturn, 1, 0, 0, 0, .inl 0, []) :: s_X9_count_57
def s_X9_count_0 : List mE := (0, .aload_n 0, 1, 0, 0, 0, .inl 0, []) ::
  (1, .iconst 0, 1, 0, 0, 0, .inl (nI 0), []) ::
  (2, .putfield 76, 3, 8, 0, 0, .inl 0, [1196]) ::
  (5, .iload_n 1, 1, 1, 0, 0, .inl 0, []) ::
  (6, .tableswitch 98 0 7 #[46, 51, 56, 63, 70, 77, 84, 93], 46, 104, 0, 0, .inl 0, [52, 57, 62, 69, 76, 83, 90, 99]) :: s_X9_count_52
def k_X9_count : List mE := s_X9_count_0
set_option maxRecDepth 100000 in
theorem t_X9_count_0 : dropTo 0 k_X9_count = s_X9_count_0 := rfl
set_option maxRecDepth 100000 in
theorem t_X9_count_52 : dropTo 52 k_X9_count = s_X9_count_52 := rfl
set_option maxRecDepth 100000 in
theorem t_X9_count_57 : dropTo 57 k_X9_count = s_X9_count_57 := rfl
set_option maxRecDepth 100000 in
theorem t_X9_count_62 : dropTo 62 k_X9_count = s_X9_count_62 := rfl
set_option maxRecDepth 100000 in
theorem t_X9_count_69 : dropTo 69 k_X9_count = s_X9_count_69 := rfl
set_option maxRecDepth 100000 in
theorem t_X9_count_76 : dropTo 76 k_X9_count = s_X9_count_76 := rfl
set_option maxRecDepth 100000 in
theorem t_X9_count_83 : dropTo 83 k_X9_count = s_X9_count_83 := rfl
set_option maxRecDepth 100000 in
theorem t_X9_count_90 : dropTo 90 k_X9_count = s_X9_count_90 := rfl
set_option maxRecDepth 100000 in
theorem t_X9_count_99 : dropTo 99 k_X9_count = s_X9_count_99 := rfl
set_option maxRecDepth 100000 in
theorem t_X9_count_104 : dropTo 104 k_X9_count = s_X9_count_104 := rfl
theorem ok_X9_count : mOkF m_X9_count k_X9_count = true := by decide +kernel
theorem cm_X9_count : mChkM m_X9_count = true := by decide +kernel
def s_X9_dry_47 : List mE := (47, .aload_n 0, 1, 0, 0, 0, .inl 0, []) ::
  (48, .aload_n 0, 1, 0, 0, 0, .inl 0, []) ::
  (49, .invokevirtual 309, 3, 137, 1, 1, .inl 0, [1629, 8]) ::
  (52, .iload_n 3, 1, 3, 0, 0, .inl 0, []) ::
  (53, .invokevirtual 306, 3, 204, 3, 1, .inl 0, [1617, 8]) ::
  (56, .istore 4, 2, 4, 0, 0, .inl 0, []) ::
  (58, .aload_n 0, 1, 0, 0, 0, .inl 0, []) ::
  (59, .invokevirtual 285, 3, 196, 1, 0, .inl 0, [1504, 8]) ::
  (62, .aload_n 0, 1, 0, 0, 0, .inl 0, []) ::
  (63, .getfield 39, 3, 8, 22, 3, .inr (.inr (16, 278, 10)), [1218]) ::
  (66, .sipush 230, 3, 0, 0, 0, .inl (nI 230), []) ::
  (69, .iload_n 1, 1, 1, 0, 0, .inl 0, []) ::
  (70, .iload_n 2, 1, 2, 0, 0, .inl 0, []) ::
  (71, .invokestatic 182, 3, 148, 2, 1, .inl 0, [1437]) ::
  (74, .iadd, 1, 0, 0, 0, .inl 0, []) ::
  (75, .iconst 0, 1, 0, 0, 0, .inl (nI 0), []) ::
  (76, .iastore, 1, 0, 0, 0, .inl 0, []) ::
  (77, .iload 4, 2, 4, 0, 0, .inl 0, []) ::
  (79, .aload_n 0, 1, 0, 0, 0, .inl 0, []) ::
  (80, .iload_n 3, 1, 3, 0, 0, .inl 0, []) ::
  (81, .invokevirtual 297, 3, 238, 2, 1, .inl 0, [1621, 8]) ::
  (84, .isub, 1, 0, 0, 0, .inl 0, []) ::
  (85, .ireturn, 1, 0, 0, 0, .inl 0, []) :: []
def s_X9_dry_45 : List mE := (45, .iconst (-1), 1, 0, 0, 0, .inl (-1), []) ::
  (46, .ireturn, 1, 0, 0, 0, .inl 0, []) :: s_X9_dry_47
def s_X9_dry_0 : List mE := (0, .aload_n 0, 1, 0, 0, 0, .inl 0, []) ::
  (1, .iconst 0, 1, 0, 0, 0, .inl (nI 0), []) ::
  (2, .putfield 76, 3, 8, 0, 0, .inl 0, [1196]) ::
  (5, .aload_n 0, 1, 0, 0, 0, .inl 0, []) ::
  (6, .iload_n 1, 1, 1, 0, 0, .inl 0, []) ::
  (7, .invokevirtual 225, 3, 190, 2, 1, .inl 0, [1468, 8]) ::
  (10, .ifCond .eq 35, 3, 45, 0, 0, .inl 0, []) ::
  (13, .aload_n 0, 1, 0, 0, 0, .inl 0, []) ::
  (14, .iload_n 2, 1, 2, 0, 0, .inl 0, []) ::
  (15, .invokevirtual 234, 3, 175, 2, 1, .inl 0, [1492, 8]) ::
  (18, .ifCond .eq 27, 3, 45, 0, 0, .inl 0, []) ::
  (21, .iload_n 3, 1, 3, 0, 0, .inl 0, []) ::
  (22, .invokestatic 303, 3, 176, 1, 1, .inl 0, [1614]) ::
  (25, .ifCond .eq 20, 3, 45, 0, 0, .inl 0, []) ::
  (28, .aload_n 0, 1, 0, 0, 0, .inl 0, []) ::
  (29, .getfield 13, 3, 8, 14, 3, .inr (.inr (16, 925, 2)), [1210]) ::
  (32, .sipush 230, 3, 0, 0, 0, .inl (nI 230), []) ::
  (35, .iload_n 1, 1, 1, 0, 0, .inl 0, []) ::
  (36, .iload_n 2, 1, 2, 0, 0, .inl 0, []) ::
  (37, .invokestatic 182, 3, 148, 2, 1, .inl 0, [1437]) ::
  (40, .iadd, 1, 0, 0, 0, .inl 0, []) ::
  (41, .iaload, 1, 0, 0, 0, .inl 0, []) ::
  (42, .ifCond .ne 5, 3, 47, 0, 0, .inl 0, []) :: s_X9_dry_45
def k_X9_dry : List mE := s_X9_dry_0
set_option maxRecDepth 100000 in
theorem t_X9_dry_0 : dropTo 0 k_X9_dry = s_X9_dry_0 := rfl
set_option maxRecDepth 100000 in
theorem t_X9_dry_45 : dropTo 45 k_X9_dry = s_X9_dry_45 := rfl
set_option maxRecDepth 100000 in
theorem t_X9_dry_47 : dropTo 47 k_X9_dry = s_X9_dry_47 := rfl
theorem ok_X9_dry : mOkF m_X9_dry k_X9_dry = true := by decide +kernel
theorem cm_X9_dry : mChkM m_X9_dry = true := by decide +kernel
def s_X9_end_19 : List mE := (19, .aload_n 0, 1, 0, 0, 0, .inl 0, []) ::
  (20, .iload_n 1, 1, 1, 0, 0, .inl 0, []) ::
  (21, .putfield 79, 3, 8, 2, 0, .inl 0, [1198]) ::
  (24, .iconst 1, 1, 0, 0, 0, .inl (nI 1), []) ::
  (25, .ireturn, 1, 1, 0, 0, .inl 0, []) :: []
def s_X9_end_17 : List mE := (17, .iconst 0, 1, 0, 0, 0, .inl (nI 0), []) ::
  (18, .ireturn, 1, 1, 0, 0, .inl 0, []) :: s_X9_end_19
def s_X9_end_0 : List mE := (0, .aload_n 0, 1, 0, 0, 0, .inl 0, []) ::
  (1, .iconst 0, 1, 0, 0, 0, .inl (nI 0), []) ::
  (2, .putfield 76, 3, 8, 0, 0, .inl 0, [1196]) ::
  (5, .iload_n 1, 1, 1, 0, 0, .inl 0, []) ::
  (6, .ifCond .lt 11, 3, 17, 0, 0, .inl 0, []) ::
  (9, .iload_n 1, 1, 1, 0, 0, .inl 0, []) ::
  (10, .aload_n 0, 1, 0, 0, 0, .inl 0, []) ::
  (11, .getfield 79, 3, 8, 2, 0, .inl 0, [1198]) ::
  (14, .if_icmp .le 5, 3, 19, 0, 0, .inl 0, []) :: s_X9_end_17
def k_X9_end : List mE := s_X9_end_0
set_option maxRecDepth 100000 in
theorem t_X9_end_0 : dropTo 0 k_X9_end = s_X9_end_0 := rfl
set_option maxRecDepth 100000 in
theorem t_X9_end_17 : dropTo 17 k_X9_end = s_X9_end_17 := rfl
set_option maxRecDepth 100000 in
theorem t_X9_end_19 : dropTo 19 k_X9_end = s_X9_end_19 := rfl
theorem ok_X9_end : mOkF m_X9_end k_X9_end = true := by decide +kernel
theorem cm_X9_end : mChkM m_X9_end = true := by decide +kernel
def s_X9_exchanged_177 : List mE := (177, .iload_n 2, 1, 2, 0, 0, .inl 0, []) ::
  (178, .ireturn, 1, 0, 0, 0, .inl 0, []) :: []
def s_X9_exchanged_171 : List mE := (171, .iinc 4 1, 3, 4, 0, 0, .inl (nI 1), []) ::
  (174, .goto (-153), 3, 21, 0, 0, .inl 0, []) :: s_X9_exchanged_177
def s_X9_exchanged_165 : List mE := (165, .iload 4, 2, 4, 0, 0, .inl 0, []) ::
  (167, .istore_n 2, 1, 2, 0, 0, .inl 0, []) ::
  (168, .iload 5, 2, 5, 0, 0, .inl 0, []) ::
  (170, .istore_n 3, 1, 3, 0, 0, .inl 0, []) :: s_X9_exchanged_171
def s_X9_exchanged_144 : List mE := (144, .aload_n 0, 1, 0, 0, 0, .inl 0, []) ::
  (145, .iload_n 1, 1, 1, 0, 0, .inl 0, []) ::
  (146, .invokevirtual 297, 3, 238, 2, 1, .inl 0, [1621, 8]) ::
  (149, .istore 5, 2, 5, 0, 0, .inl 0, []) ::
  (151, .iload_n 2, 1, 2, 0, 0, .inl 0, []) ::
  (152, .iconst (-1), 1, 0, 0, 0, .inl (-1), []) ::
  (153, .if_icmp .eq 12, 3, 165, 0, 0, .inl 0, []) ::
  (156, .iload 5, 2, 5, 0, 0, .inl 0, []) ::
  (158, .iload_n 3, 1, 3, 0, 0, .inl 0, []) ::
  (159, .if_icmp .gt 6, 3, 165, 0, 0, .inl 0, []) ::
  (162, .goto 9, 3, 171, 0, 0, .inl 0, []) :: s_X9_exchanged_165
def s_X9_exchanged_138 : List mE := (138, .iinc 5 48, 3, 5, 0, 0, .inl (nI 48), []) ::
  (141, .goto (-53), 3, 88, 0, 0, .inl 0, []) :: s_X9_exchanged_144
def s_X9_exchanged_99 : List mE := (99, .iload 6, 2, 6, 0, 0, .inl 0, []) ::
  (101, .bipush 6, 2, 0, 0, 0, .inl (nI 6), []) ::
  (103, .if_icmp .ge 35, 3, 138, 0, 0, .inl 0, []) ::
  (106, .aload_n 0, 1, 0, 0, 0, .inl 0, []) ::
  (107, .iload 5, 2, 5, 0, 0, .inl 0, []) ::
  (109, .iload 4, 2, 4, 0, 0, .inl 0, []) ::
  (111, .iload 6, 2, 6, 0, 0, .inl 0, []) ::
  (113, .invokestatic 182, 3, 148, 2, 1, .inl 0, [1437]) ::
  (116, .iadd, 1, 0, 0, 0, .inl 0, []) ::
  (117, .iload 5, 2, 5, 0, 0, .inl 0, []) ::
  (119, .iload 4, 2, 4, 0, 0, .inl 0, []) ::
  (121, .iconst 1, 1, 0, 0, 0, .inl (nI 1), []) ::
  (122, .iadd, 1, 0, 0, 0, .inl 0, []) ::
  (123, .iload 6, 2, 6, 0, 0, .inl 0, []) ::
  (125, .invokestatic 182, 3, 148, 2, 1, .inl 0, [1437]) ::
  (128, .iadd, 1, 0, 0, 0, .inl 0, []) ::
  (129, .invokevirtual 339, 3, 149, 3, 0, .inl 0, [1711, 8]) ::
  (132, .iinc 6 1, 3, 6, 0, 0, .inl (nI 1), []) ::
  (135, .goto (-36), 3, 99, 0, 0, .inl 0, []) :: s_X9_exchanged_138
def s_X9_exchanged_88 : List mE := (88, .iload 5, 2, 5, 0, 0, .inl 0, []) ::
  (90, .sipush 230, 3, 0, 0, 0, .inl (nI 230), []) ::
  (93, .if_icmp .gt 51, 3, 144, 0, 0, .inl 0, []) ::
  (96, .iconst 0, 1, 0, 0, 0, .inl (nI 0), []) ::
  (97, .istore 6, 2, 6, 0, 0, .inl 0, []) :: s_X9_exchanged_99
def s_X9_exchanged_21 : List mE := (21, .iload 4, 2, 4, 0, 0, .inl 0, []) ::
  (23, .iconst 1, 1, 0, 0, 0, .inl (nI 1), []) ::
  (24, .iadd, 1, 0, 0, 0, .inl 0, []) ::
  (25, .aload_n 0, 1, 0, 0, 0, .inl 0, []) ::
  (26, .invokevirtual 219, 3, 253, 1, 1, .inl 0, [1472, 8]) ::
  (29, .if_icmp .ge 148, 3, 177, 0, 0, .inl 0, []) ::
  (32, .aload_n 0, 1, 0, 0, 0, .inl 0, []) ::
  (33, .invokevirtual 285, 3, 196, 1, 0, .inl 0, [1504, 8]) ::
  (36, .aload_n 0, 1, 0, 0, 0, .inl 0, []) ::
  (37, .bipush 14, 2, 0, 0, 0, .inl (nI 14), []) ::
  (39, .iload 4, 2, 4, 0, 0, .inl 0, []) ::
  (41, .iadd, 1, 0, 0, 0, .inl 0, []) ::
  (42, .bipush 14, 2, 0, 0, 0, .inl (nI 14), []) ::
  (44, .iload 4, 2, 4, 0, 0, .inl 0, []) ::
  (46, .iadd, 1, 0, 0, 0, .inl 0, []) ::
  (47, .iconst 1, 1, 0, 0, 0, .inl (nI 1), []) ::
  (48, .iadd, 1, 0, 0, 0, .inl 0, []) ::
  (49, .invokevirtual 339, 3, 149, 3, 0, .inl 0, [1711, 8]) ::
  (52, .aload_n 0, 1, 0, 0, 0, .inl 0, []) ::
  (53, .bipush 22, 2, 0, 0, 0, .inl (nI 22), []) ::
  (55, .iload 4, 2, 4, 0, 0, .inl 0, []) ::
  (57, .iadd, 1, 0, 0, 0, .inl 0, []) ::
  (58, .bipush 22, 2, 0, 0, 0, .inl (nI 22), []) ::
  (60, .iload 4, 2, 4, 0, 0, .inl 0, []) ::
  (62, .iadd, 1, 0, 0, 0, .inl 0, []) ::
  (63, .iconst 1, 1, 0, 0, 0, .inl (nI 1), []) ::
  (64, .iadd, 1, 0, 0, 0, .inl 0, []) ::
  (65, .invokevirtual 339, 3, 149, 3, 0, .inl 0, [1711, 8]) ::
  (68, .aload_n 0, 1, 0, 0, 0, .inl 0, []) ::
  (69, .bipush 30, 2, 0, 0, 0, .inl (nI 30), []) ::
  (71, .iload 4, 2, 4, 0, 0, .inl 0, []) ::
  (73, .iadd, 1, 0, 0, 0, .inl 0, []) ::
  (74, .bipush 30, 2, 0, 0, 0, .inl (nI 30), []) ::
  (76, .iload 4, 2, 4, 0, 0, .inl 0, []) ::
  (78, .iadd, 1, 0, 0, 0, .inl 0, []) ::
  (79, .iconst 1, 1, 0, 0, 0, .inl (nI 1), []) ::
  (80, .iadd, 1, 0, 0, 0, .inl 0, []) ::
  (81, .invokevirtual 339, 3, 149, 3, 0, .inl 0, [1711, 8]) ::
  (84, .bipush 38, 2, 0, 0, 0, .inl (nI 38), []) ::
  (86, .istore 5, 2, 5, 0, 0, .inl 0, []) :: s_X9_exchanged_88
def s_X9_exchanged_14 : List mE := (14, .iconst (-1), 1, 0, 0, 0, .inl (-1), []) ::
  (15, .istore_n 2, 1, 2, 0, 0, .inl 0, []) ::
  (16, .iconst 0, 1, 0, 0, 0, .inl (nI 0), []) ::
  (17, .istore_n 3, 1, 3, 0, 0, .inl 0, []) ::
  (18, .iconst 0, 1, 0, 0, 0, .inl (nI 0), []) ::
  (19, .istore 4, 2, 4, 0, 0, .inl 0, []) :: s_X9_exchanged_21
def s_X9_exchanged_0 : List mE := (0, .aload_n 0, 1, 0, 0, 0, .inl 0, []) ::
  (1, .iconst 0, 1, 0, 0, 0, .inl (nI 0), []) ::
  (2, .putfield 76, 3, 8, 0, 0, .inl 0, [1196]) ::
  (5, .iload_n 1, 1, 1, 0, 0, .inl 0, []) ::
  (6, .invokestatic 303, 3, 176, 1, 1, .inl 0, [1614]) ::
  (9, .ifCond .ne 5, 3, 14, 0, 0, .inl 0, []) ::
  (12, .iconst (-1), 1, 0, 0, 0, .inl (-1), []) ::
  (13, .ireturn, 1, 0, 0, 0, .inl 0, []) :: s_X9_exchanged_14
def k_X9_exchanged : List mE := s_X9_exchanged_0
set_option maxRecDepth 100000 in
theorem t_X9_exchanged_0 : dropTo 0 k_X9_exchanged = s_X9_exchanged_0 := rfl
set_option maxRecDepth 100000 in
theorem t_X9_exchanged_14 : dropTo 14 k_X9_exchanged = s_X9_exchanged_14 := rfl
set_option maxRecDepth 100000 in
theorem t_X9_exchanged_21 : dropTo 21 k_X9_exchanged = s_X9_exchanged_21 := rfl
set_option maxRecDepth 100000 in
theorem t_X9_exchanged_88 : dropTo 88 k_X9_exchanged = s_X9_exchanged_88 := rfl
set_option maxRecDepth 100000 in
theorem t_X9_exchanged_99 : dropTo 99 k_X9_exchanged = s_X9_exchanged_99 := rfl
set_option maxRecDepth 100000 in
theorem t_X9_exchanged_138 : dropTo 138 k_X9_exchanged = s_X9_exchanged_138 := rfl
set_option maxRecDepth 100000 in
theorem t_X9_exchanged_144 : dropTo 144 k_X9_exchanged = s_X9_exchanged_144 := rfl
set_option maxRecDepth 100000 in
theorem t_X9_exchanged_165 : dropTo 165 k_X9_exchanged = s_X9_exchanged_165 := rfl
set_option maxRecDepth 100000 in
theorem t_X9_exchanged_171 : dropTo 171 k_X9_exchanged = s_X9_exchanged_171 := rfl
set_option maxRecDepth 100000 in
theorem t_X9_exchanged_177 : dropTo 177 k_X9_exchanged = s_X9_exchanged_177 := rfl
theorem ok_X9_exchanged : mOkF m_X9_exchanged k_X9_exchanged = true := by decide +kernel
theorem cm_X9_exchanged : mChkM m_X9_exchanged = true := by decide +kernel
def s_X9_falls_34 : List mE := (34, .iload_n 2, 1, 2, 0, 0, .inl 0, []) ::
  (35, .iconst 1, 1, 0, 0, 0, .inl (nI 1), []) ::
  (36, .iload_n 1, 1, 1, 0, 0, .inl 0, []) ::
  (37, .ishl, 1, 0, 0, 0, .inl 0, []) ::
  (38, .iconst (-1), 1, 0, 0, 0, .inl (-1), []) ::
  (39, .ixor, 1, 0, 0, 0, .inl 0, []) ::
  (40, .iand, 1, 0, 0, 0, .inl 0, []) ::
  (41, .aload_n 0, 1, 0, 0, 0, .inl 0, []) ::
  (42, .aload_n 0, 1, 0, 0, 0, .inl 0, []) ::
  (43, .invokevirtual 309, 3, 137, 1, 1, .inl 0, [1629, 8]) ::
  (46, .iconst 1, 1, 0, 0, 0, .inl (nI 1), []) ::
  (47, .iload_n 1, 1, 1, 0, 0, .inl 0, []) ::
  (48, .ishl, 1, 0, 0, 0, .inl 0, []) ::
  (49, .iconst (-1), 1, 0, 0, 0, .inl (-1), []) ::
  (50, .ixor, 1, 0, 0, 0, .inl 0, []) ::
  (51, .iand, 1, 0, 0, 0, .inl 0, []) ::
  (52, .invokevirtual 333, 3, 168, 2, 1, .inl 0, [1675, 8]) ::
  (55, .iconst (-1), 1, 0, 0, 0, .inl (-1), []) ::
  (56, .ixor, 1, 0, 0, 0, .inl 0, []) ::
  (57, .iand, 1, 0, 0, 0, .inl 0, []) ::
  (58, .ireturn, 1, 0, 0, 0, .inl 0, []) :: []
def s_X9_falls_15 : List mE := (15, .aload_n 0, 1, 0, 0, 0, .inl 0, []) ::
  (16, .aload_n 0, 1, 0, 0, 0, .inl 0, []) ::
  (17, .invokevirtual 309, 3, 137, 1, 1, .inl 0, [1629, 8]) ::
  (20, .invokevirtual 333, 3, 168, 2, 1, .inl 0, [1675, 8]) ::
  (23, .istore_n 2, 1, 2, 0, 0, .inl 0, []) ::
  (24, .iload_n 2, 1, 2, 0, 0, .inl 0, []) ::
  (25, .iload_n 1, 1, 1, 0, 0, .inl 0, []) ::
  (26, .invokestatic 250, 3, 169, 2, 1, .inl 0, [1543]) ::
  (29, .ifCond .ne 5, 3, 34, 0, 0, .inl 0, []) ::
  (32, .iconst (-1), 1, 0, 0, 0, .inl (-1), []) ::
  (33, .ireturn, 1, 0, 0, 0, .inl 0, []) :: s_X9_falls_34
def s_X9_falls_0 : List mE := (0, .aload_n 0, 1, 0, 0, 0, .inl 0, []) ::
  (1, .iconst 0, 1, 0, 0, 0, .inl (nI 0), []) ::
  (2, .putfield 76, 3, 8, 0, 0, .inl 0, [1196]) ::
  (5, .aload_n 0, 1, 0, 0, 0, .inl 0, []) ::
  (6, .iload_n 1, 1, 1, 0, 0, .inl 0, []) ::
  (7, .invokevirtual 225, 3, 190, 2, 1, .inl 0, [1468, 8]) ::
  (10, .ifCond .ne 5, 3, 15, 0, 0, .inl 0, []) ::
  (13, .iconst (-1), 1, 0, 0, 0, .inl (-1), []) ::
  (14, .ireturn, 1, 0, 0, 0, .inl 0, []) :: s_X9_falls_15
def k_X9_falls : List mE := s_X9_falls_0
set_option maxRecDepth 100000 in
theorem t_X9_falls_0 : dropTo 0 k_X9_falls = s_X9_falls_0 := rfl
set_option maxRecDepth 100000 in
theorem t_X9_falls_15 : dropTo 15 k_X9_falls = s_X9_falls_15 := rfl
set_option maxRecDepth 100000 in
theorem t_X9_falls_34 : dropTo 34 k_X9_falls = s_X9_falls_34 := rfl
theorem ok_X9_falls : mOkF m_X9_falls k_X9_falls = true := by decide +kernel
theorem cm_X9_falls : mChkM m_X9_falls = true := by decide +kernel
def s_X9_fault_0 : List mE := (0, .aload_n 0, 1, 0, 0, 0, .inl 0, []) ::
  (1, .iconst 0, 1, 0, 0, 0, .inl (nI 0), []) ::
  (2, .putfield 76, 3, 8, 0, 0, .inl 0, [1196]) ::
  (5, .aload_n 0, 1, 0, 0, 0, .inl 0, []) ::
  (6, .getfield 134, 3, 8, 10, 0, .inl 0, [1206]) ::
  (9, .ireturn, 1, 0, 0, 0, .inl 0, []) :: []
def k_X9_fault : List mE := s_X9_fault_0
set_option maxRecDepth 100000 in
theorem t_X9_fault_0 : dropTo 0 k_X9_fault = s_X9_fault_0 := rfl
theorem ok_X9_fault : mOkF m_X9_fault k_X9_fault = true := by decide +kernel
theorem cm_X9_fault : mChkM m_X9_fault = true := by decide +kernel
def s_X9_fed_97 : List mE := (97, .iconst (-1), 1, 0, 0, 0, .inl (-1), []) ::
  (98, .ireturn, 1, 0, 0, 0, .inl 0, []) :: []
def s_X9_fed_91 : List mE := (91, .iinc 3 1, 3, 3, 0, 0, .inl (nI 1), []) ::
  (94, .goto (-47), 3, 47, 0, 0, .inl 0, []) :: s_X9_fed_97
def s_X9_fed_85 : List mE := (85, .iinc 4 1, 3, 4, 0, 0, .inl (nI 1), []) ::
  (88, .goto (-32), 3, 56, 0, 0, .inl 0, []) :: s_X9_fed_91
def s_X9_fed_56 : List mE := (56, .iload 4, 2, 4, 0, 0, .inl 0, []) ::
  (58, .aload_n 0, 1, 0, 0, 0, .inl 0, []) ::
  (59, .invokevirtual 222, 3, 165, 1, 1, .inl 0, [1484, 8]) ::
  (62, .if_icmp .ge 29, 3, 91, 0, 0, .inl 0, []) ::
  (65, .aload_n 0, 1, 0, 0, 0, .inl 0, []) ::
  (66, .iload_n 1, 1, 1, 0, 0, .inl 0, []) ::
  (67, .iload_n 2, 1, 2, 0, 0, .inl 0, []) ::
  (68, .iload 4, 2, 4, 0, 0, .inl 0, []) ::
  (70, .iload_n 3, 1, 3, 0, 0, .inl 0, []) ::
  (71, .invokevirtual 327, 3, 183, 5, 1, .inl 0, [1663, 8]) ::
  (74, .ifCond .eq 11, 3, 85, 0, 0, .inl 0, []) ::
  (77, .bipush 10, 2, 0, 0, 0, .inl (nI 10), []) ::
  (79, .iload_n 3, 1, 3, 0, 0, .inl 0, []) ::
  (80, .imul, 1, 0, 0, 0, .inl 0, []) ::
  (81, .iload 4, 2, 4, 0, 0, .inl 0, []) ::
  (83, .iadd, 1, 0, 0, 0, .inl 0, []) ::
  (84, .ireturn, 1, 0, 0, 0, .inl 0, []) :: s_X9_fed_85
def s_X9_fed_47 : List mE := (47, .iload_n 3, 1, 3, 0, 0, .inl 0, []) ::
  (48, .bipush 100, 2, 0, 0, 0, .inl (nI 100), []) ::
  (50, .if_icmp .ge 47, 3, 97, 0, 0, .inl 0, []) ::
  (53, .iconst 0, 1, 0, 0, 0, .inl (nI 0), []) ::
  (54, .istore 4, 2, 4, 0, 0, .inl 0, []) :: s_X9_fed_56
def s_X9_fed_45 : List mE := (45, .iconst 1, 1, 0, 0, 0, .inl (nI 1), []) ::
  (46, .istore_n 3, 1, 3, 0, 0, .inl 0, []) :: s_X9_fed_47
def s_X9_fed_31 : List mE := (31, .iload_n 1, 1, 1, 0, 0, .inl 0, []) ::
  (32, .iload_n 2, 1, 2, 0, 0, .inl 0, []) ::
  (33, .invokestatic 250, 3, 169, 2, 1, .inl 0, [1543]) ::
  (36, .ifCond .ne 9, 3, 45, 0, 0, .inl 0, []) ::
  (39, .iinc 2 1, 3, 2, 0, 0, .inl (nI 1), []) ::
  (42, .goto (-11), 3, 31, 0, 0, .inl 0, []) :: s_X9_fed_45
def s_X9_fed_29 : List mE := (29, .iconst 0, 1, 0, 0, 0, .inl (nI 0), []) ::
  (30, .istore_n 2, 1, 2, 0, 0, .inl 0, []) :: s_X9_fed_31
def s_X9_fed_19 : List mE := (19, .aload_n 0, 1, 0, 0, 0, .inl 0, []) ::
  (20, .iload_n 1, 1, 1, 0, 0, .inl 0, []) ::
  (21, .invokevirtual 331, 3, 184, 2, 1, .inl 0, [1659, 8]) ::
  (24, .ifCond .eq 5, 3, 29, 0, 0, .inl 0, []) ::
  (27, .iconst 0, 1, 0, 0, 0, .inl (nI 0), []) ::
  (28, .ireturn, 1, 0, 0, 0, .inl 0, []) :: s_X9_fed_29
def s_X9_fed_17 : List mE := (17, .iconst (-1), 1, 0, 0, 0, .inl (-1), []) ::
  (18, .ireturn, 1, 0, 0, 0, .inl 0, []) :: s_X9_fed_19
def s_X9_fed_0 : List mE := (0, .aload_n 0, 1, 0, 0, 0, .inl 0, []) ::
  (1, .iconst 0, 1, 0, 0, 0, .inl (nI 0), []) ::
  (2, .putfield 76, 3, 8, 0, 0, .inl 0, [1196]) ::
  (5, .aload_n 0, 1, 0, 0, 0, .inl 0, []) ::
  (6, .iload_n 1, 1, 1, 0, 0, .inl 0, []) ::
  (7, .invokevirtual 300, 3, 181, 2, 1, .inl 0, [1610, 8]) ::
  (10, .ifCond .eq 7, 3, 17, 0, 0, .inl 0, []) ::
  (13, .iload_n 1, 1, 1, 0, 0, .inl 0, []) ::
  (14, .ifCond .ne 5, 3, 19, 0, 0, .inl 0, []) :: s_X9_fed_17
def k_X9_fed : List mE := s_X9_fed_0
set_option maxRecDepth 100000 in
theorem t_X9_fed_0 : dropTo 0 k_X9_fed = s_X9_fed_0 := rfl
set_option maxRecDepth 100000 in
theorem t_X9_fed_17 : dropTo 17 k_X9_fed = s_X9_fed_17 := rfl
set_option maxRecDepth 100000 in
theorem t_X9_fed_19 : dropTo 19 k_X9_fed = s_X9_fed_19 := rfl
set_option maxRecDepth 100000 in
theorem t_X9_fed_29 : dropTo 29 k_X9_fed = s_X9_fed_29 := rfl
set_option maxRecDepth 100000 in
theorem t_X9_fed_31 : dropTo 31 k_X9_fed = s_X9_fed_31 := rfl
set_option maxRecDepth 100000 in
theorem t_X9_fed_45 : dropTo 45 k_X9_fed = s_X9_fed_45 := rfl
set_option maxRecDepth 100000 in
theorem t_X9_fed_47 : dropTo 47 k_X9_fed = s_X9_fed_47 := rfl
set_option maxRecDepth 100000 in
theorem t_X9_fed_56 : dropTo 56 k_X9_fed = s_X9_fed_56 := rfl
set_option maxRecDepth 100000 in
theorem t_X9_fed_85 : dropTo 85 k_X9_fed = s_X9_fed_85 := rfl
set_option maxRecDepth 100000 in
theorem t_X9_fed_91 : dropTo 91 k_X9_fed = s_X9_fed_91 := rfl
set_option maxRecDepth 100000 in
theorem t_X9_fed_97 : dropTo 97 k_X9_fed = s_X9_fed_97 := rfl
theorem ok_X9_fed : mOkF m_X9_fed k_X9_fed = true := by decide +kernel
theorem cm_X9_fed : mChkM m_X9_fed = true := by decide +kernel
def s_X9_feed_20 : List mE := (20, .aload_n 0, 1, 0, 0, 0, .inl 0, []) ::
  (21, .iload_n 1, 1, 1, 0, 0, .inl 0, []) ::
  (22, .invokevirtual 82, 3, 150, 2, 0, .inl 0, [1341, 8]) ::
  (25, .aload_n 0, 1, 0, 0, 0, .inl 0, []) ::
  (26, .iload_n 2, 1, 2, 0, 0, .inl 0, []) ::
  (27, .invokevirtual 82, 3, 150, 2, 0, .inl 0, [1341, 8]) ::
  (30, .aload_n 0, 1, 0, 0, 0, .inl 0, []) ::
  (31, .iload_n 3, 1, 3, 0, 0, .inl 0, []) ::
  (32, .invokevirtual 82, 3, 150, 2, 0, .inl 0, [1341, 8]) ::
  (35, .aload_n 0, 1, 0, 0, 0, .inl 0, []) ::
  (36, .iload 4, 2, 4, 0, 0, .inl 0, []) ::
  (38, .invokevirtual 82, 3, 150, 2, 0, .inl 0, [1341, 8]) ::
  (41, .aload_n 0, 1, 0, 0, 0, .inl 0, []) ::
  (42, .iload 5, 2, 5, 0, 0, .inl 0, []) ::
  (44, .invokevirtual 82, 3, 150, 2, 0, .inl 0, [1341, 8]) ::
  (47, .aload_n 0, 1, 0, 0, 0, .inl 0, []) ::
  (48, .getfield 79, 3, 8, 2, 0, .inl 0, [1198]) ::
  (51, .ireturn, 1, 0, 0, 0, .inl 0, []) :: []
def s_X9_feed_0 : List mE := (0, .aload_n 0, 1, 0, 0, 0, .inl 0, []) ::
  (1, .iconst 0, 1, 0, 0, 0, .inl (nI 0), []) ::
  (2, .putfield 76, 3, 8, 0, 0, .inl 0, [1196]) ::
  (5, .aload_n 0, 1, 0, 0, 0, .inl 0, []) ::
  (6, .getfield 79, 3, 8, 2, 0, .inl 0, [1198]) ::
  (9, .bipush 20, 2, 0, 0, 0, .inl (nI 20), []) ::
  (11, .iadd, 1, 0, 0, 0, .inl 0, []) ::
  (12, .sipush 940, 3, 0, 0, 0, .inl (nI 940), []) ::
  (15, .if_icmp .le 5, 3, 20, 0, 0, .inl 0, []) ::
  (18, .iconst (-1), 1, 0, 0, 0, .inl (-1), []) ::
  (19, .ireturn, 1, 0, 0, 0, .inl 0, []) :: s_X9_feed_20
def k_X9_feed : List mE := s_X9_feed_0
set_option maxRecDepth 100000 in
theorem t_X9_feed_0 : dropTo 0 k_X9_feed = s_X9_feed_0 := rfl
set_option maxRecDepth 100000 in
theorem t_X9_feed_20 : dropTo 20 k_X9_feed = s_X9_feed_20 := rfl
theorem ok_X9_feed : mOkF m_X9_feed k_X9_feed = true := by decide +kernel
theorem cm_X9_feed : mChkM m_X9_feed = true := by decide +kernel
def s_X9_fill_180 : List mE := (180, .aload_n 0, 1, 0, 0, 0, .inl 0, []) ::
  (181, .getfield 48, 3, 8, 25, 3, .inr (.inr (16, 6, 13)), [1221]) ::
  (184, .iload 4, 2, 4, 0, 0, .inl 0, []) ::
  (186, .iconst 0, 1, 0, 0, 0, .inl (nI 0), []) ::
  (187, .iastore, 1, 0, 0, 0, .inl 0, []) ::
  (188, .aload_n 0, 1, 0, 0, 0, .inl 0, []) ::
  (189, .getfield 51, 3, 8, 26, 3, .inr (.inr (16, 6, 14)), [1222]) ::
  (192, .iload 4, 2, 4, 0, 0, .inl 0, []) ::
  (194, .iconst 0, 1, 0, 0, 0, .inl (nI 0), []) ::
  (195, .iastore, 1, 0, 0, 0, .inl 0, []) ::
  (196, .return_, 1, 0, 0, 0, .inl 0, []) :: []
def s_X9_fill_106 : List mE := (106, .aload_n 1, 1, 1, 0, 0, .inl 0, []) ::
  (107, .iload_n 2, 1, 2, 0, 0, .inl 0, []) ::
  (108, .iconst 2, 1, 0, 0, 0, .inl (nI 2), []) ::
  (109, .iadd, 1, 0, 0, 0, .inl 0, []) ::
  (110, .iload 5, 2, 5, 0, 0, .inl 0, []) ::
  (112, .iadd, 1, 0, 0, 0, .inl 0, []) ::
  (113, .dup2, 1, 0, 0, 0, .inl 0, []) ::
  (114, .iaload, 1, 0, 0, 0, .inl 0, []) ::
  (115, .iload 8, 2, 8, 0, 0, .inl 0, []) ::
  (117, .iadd, 1, 0, 0, 0, .inl 0, []) ::
  (118, .iastore, 1, 0, 0, 0, .inl 0, []) ::
  (119, .aload_n 1, 1, 1, 0, 0, .inl 0, []) ::
  (120, .iload_n 2, 1, 2, 0, 0, .inl 0, []) ::
  (121, .bipush 50, 2, 0, 0, 0, .inl (nI 50), []) ::
  (123, .iadd, 1, 0, 0, 0, .inl 0, []) ::
  (124, .iload 5, 2, 5, 0, 0, .inl 0, []) ::
  (126, .iadd, 1, 0, 0, 0, .inl 0, []) ::
  (127, .dup2, 1, 0, 0, 0, .inl 0, []) ::
  (128, .iaload, 1, 0, 0, 0, .inl 0, []) ::
  (129, .aload_n 0, 1, 0, 0, 0, .inl 0, []) ::
  (130, .getfield 48, 3, 8, 25, 3, .inr (.inr (16, 6, 13)), [1221]) ::
  (133, .iload 4, 2, 4, 0, 0, .inl 0, []) ::
  (135, .iaload, 1, 0, 0, 0, .inl 0, []) ::
  (136, .ior, 1, 0, 0, 0, .inl 0, []) ::
  (137, .iastore, 1, 0, 0, 0, .inl 0, []) ::
  (138, .aload_n 1, 1, 1, 0, 0, .inl 0, []) ::
  (139, .iload_n 2, 1, 2, 0, 0, .inl 0, []) ::
  (140, .bipush 98, 2, 0, 0, 0, .inl (nI 98), []) ::
  (142, .iadd, 1, 0, 0, 0, .inl 0, []) ::
  (143, .iload 5, 2, 5, 0, 0, .inl 0, []) ::
  (145, .iadd, 1, 0, 0, 0, .inl 0, []) ::
  (146, .dup2, 1, 0, 0, 0, .inl 0, []) ::
  (147, .iaload, 1, 0, 0, 0, .inl 0, []) ::
  (148, .aload_n 0, 1, 0, 0, 0, .inl 0, []) ::
  (149, .getfield 51, 3, 8, 26, 3, .inr (.inr (16, 6, 14)), [1222]) ::
  (152, .iload 4, 2, 4, 0, 0, .inl 0, []) ::
  (154, .iaload, 1, 0, 0, 0, .inl 0, []) ::
  (155, .ior, 1, 0, 0, 0, .inl 0, []) ::
  (156, .iastore, 1, 0, 0, 0, .inl 0, []) ::
  (157, .aload_n 0, 1, 0, 0, 0, .inl 0, []) ::
  (158, .getfield 45, 3, 8, 24, 3, .inr (.inr (16, 6, 12)), [1220]) ::
  (161, .iload 4, 2, 4, 0, 0, .inl 0, []) ::
  (163, .dup2, 1, 0, 0, 0, .inl 0, []) ::
  (164, .iaload, 1, 0, 0, 0, .inl 0, []) ::
  (165, .iload 8, 2, 8, 0, 0, .inl 0, []) ::
  (167, .isub, 1, 0, 0, 0, .inl 0, []) ::
  (168, .iastore, 1, 0, 0, 0, .inl 0, []) ::
  (169, .aload_n 0, 1, 0, 0, 0, .inl 0, []) ::
  (170, .getfield 45, 3, 8, 24, 3, .inr (.inr (16, 6, 12)), [1220]) ::
  (173, .iload 4, 2, 4, 0, 0, .inl 0, []) ::
  (175, .iaload, 1, 0, 0, 0, .inl 0, []) ::
  (176, .ifCond .le 4, 3, 180, 0, 0, .inl 0, []) ::
  (179, .return_, 1, 0, 0, 0, .inl 0, []) :: s_X9_fill_180
def s_X9_fill_98 : List mE := (98, .istore 8, 2, 8, 0, 0, .inl 0, []) ::
  (100, .iload 8, 2, 8, 0, 0, .inl 0, []) ::
  (102, .ifCond .gt 4, 3, 106, 0, 0, .inl 0, []) ::
  (105, .return_, 1, 0, 0, 0, .inl 0, []) :: s_X9_fill_106
def s_X9_fill_86 : List mE := (86, .aload_n 0, 1, 0, 0, 0, .inl 0, []) ::
  (87, .getfield 45, 3, 8, 24, 3, .inr (.inr (16, 6, 12)), [1220]) ::
  (90, .iload 4, 2, 4, 0, 0, .inl 0, []) ::
  (92, .iaload, 1, 0, 0, 0, .inl 0, []) ::
  (93, .iload 7, 2, 7, 0, 0, .inl 0, []) ::
  (95, .invokestatic 247, 3, 199, 2, 1, .inl 0, [1528]) :: s_X9_fill_98
def s_X9_fill_0 : List mE := (0, .iload_n 3, 1, 3, 0, 0, .inl 0, []) ::
  (1, .iload 4, 2, 4, 0, 0, .inl 0, []) ::
  (3, .invokestatic 182, 3, 148, 2, 1, .inl 0, [1437]) ::
  (6, .istore 5, 2, 5, 0, 0, .inl 0, []) ::
  (8, .aload_n 0, 1, 0, 0, 0, .inl 0, []) ::
  (9, .getfield 39, 3, 8, 22, 3, .inr (.inr (16, 278, 10)), [1218]) ::
  (12, .sipush 230, 3, 0, 0, 0, .inl (nI 230), []) ::
  (15, .iload 5, 2, 5, 0, 0, .inl 0, []) ::
  (17, .iadd, 1, 0, 0, 0, .inl 0, []) ::
  (18, .iaload, 1, 0, 0, 0, .inl 0, []) ::
  (19, .istore 6, 2, 6, 0, 0, .inl 0, []) ::
  (21, .aload_n 0, 1, 0, 0, 0, .inl 0, []) ::
  (22, .getfield 45, 3, 8, 24, 3, .inr (.inr (16, 6, 12)), [1220]) ::
  (25, .iload 4, 2, 4, 0, 0, .inl 0, []) ::
  (27, .dup2, 1, 0, 0, 0, .inl 0, []) ::
  (28, .iaload, 1, 0, 0, 0, .inl 0, []) ::
  (29, .iload 6, 2, 6, 0, 0, .inl 0, []) ::
  (31, .iadd, 1, 0, 0, 0, .inl 0, []) ::
  (32, .iastore, 1, 0, 0, 0, .inl 0, []) ::
  (33, .aload_n 1, 1, 1, 0, 0, .inl 0, []) ::
  (34, .iload_n 2, 1, 2, 0, 0, .inl 0, []) ::
  (35, .sipush 260, 3, 0, 0, 0, .inl (nI 260), []) ::
  (38, .iadd, 1, 0, 0, 0, .inl 0, []) ::
  (39, .iload 4, 2, 4, 0, 0, .inl 0, []) ::
  (41, .iadd, 1, 0, 0, 0, .inl 0, []) ::
  (42, .dup2, 1, 0, 0, 0, .inl 0, []) ::
  (43, .iaload, 1, 0, 0, 0, .inl 0, []) ::
  (44, .iload 6, 2, 6, 0, 0, .inl 0, []) ::
  (46, .iadd, 1, 0, 0, 0, .inl 0, []) ::
  (47, .iastore, 1, 0, 0, 0, .inl 0, []) ::
  (48, .aload_n 0, 1, 0, 0, 0, .inl 0, []) ::
  (49, .getfield 39, 3, 8, 22, 3, .inr (.inr (16, 278, 10)), [1218]) ::
  (52, .bipush 86, 2, 0, 0, 0, .inl (nI 86), []) ::
  (54, .iload 5, 2, 5, 0, 0, .inl 0, []) ::
  (56, .iadd, 1, 0, 0, 0, .inl 0, []) ::
  (57, .iaload, 1, 0, 0, 0, .inl 0, []) ::
  (58, .aload_n 1, 1, 1, 0, 0, .inl 0, []) ::
  (59, .iload_n 2, 1, 2, 0, 0, .inl 0, []) ::
  (60, .iconst 2, 1, 0, 0, 0, .inl (nI 2), []) ::
  (61, .iadd, 1, 0, 0, 0, .inl 0, []) ::
  (62, .iload 5, 2, 5, 0, 0, .inl 0, []) ::
  (64, .iadd, 1, 0, 0, 0, .inl 0, []) ::
  (65, .iaload, 1, 0, 0, 0, .inl 0, []) ::
  (66, .isub, 1, 0, 0, 0, .inl 0, []) ::
  (67, .istore 7, 2, 7, 0, 0, .inl 0, []) ::
  (69, .aload_n 0, 1, 0, 0, 0, .inl 0, []) ::
  (70, .getfield 39, 3, 8, 22, 3, .inr (.inr (16, 278, 10)), [1218]) ::
  (73, .bipush 38, 2, 0, 0, 0, .inl (nI 38), []) ::
  (75, .iload 5, 2, 5, 0, 0, .inl 0, []) ::
  (77, .iadd, 1, 0, 0, 0, .inl 0, []) ::
  (78, .iaload, 1, 0, 0, 0, .inl 0, []) ::
  (79, .ifCond .ne 7, 3, 86, 0, 0, .inl 0, []) ::
  (82, .iconst 0, 1, 0, 0, 0, .inl (nI 0), []) ::
  (83, .goto 15, 3, 98, 0, 0, .inl 0, []) :: s_X9_fill_86
def k_X9_fill : List mE := s_X9_fill_0
set_option maxRecDepth 100000 in
theorem t_X9_fill_0 : dropTo 0 k_X9_fill = s_X9_fill_0 := rfl
set_option maxRecDepth 100000 in
theorem t_X9_fill_86 : dropTo 86 k_X9_fill = s_X9_fill_86 := rfl
set_option maxRecDepth 100000 in
theorem t_X9_fill_98 : dropTo 98 k_X9_fill = s_X9_fill_98 := rfl
set_option maxRecDepth 100000 in
theorem t_X9_fill_106 : dropTo 106 k_X9_fill = s_X9_fill_106 := rfl
set_option maxRecDepth 100000 in
theorem t_X9_fill_180 : dropTo 180 k_X9_fill = s_X9_fill_180 := rfl
theorem ok_X9_fill : mOkF m_X9_fill k_X9_fill = true := by decide +kernel
theorem cm_X9_fill : mChkM m_X9_fill = true := by decide +kernel
