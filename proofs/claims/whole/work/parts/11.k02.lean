def s_X8_begin_12 : List mE := (12, .aload_n 0, 1, 0, 0, 0, .inl 0, []) ::
  (13, .getfield 49, 3, 7, 7, 3, .inr (.inr (3, 0, 50)), [485]) ::
  (16, .aload_n 0, 1, 0, 0, 0, .inl 0, []) ::
  (17, .getfield 19, 3, 7, 1, 3, .inr (.inr (0, 0, 4)), [479]) ::
  (20, .invokevirtual 185, 3, 44, 2, 0, .inl 0, [698, 3]) ::
  (23, .iconst 1, 1, 0, 0, 0, .inl (nI 1), []) ::
  (24, .ireturn, 1, 1, 0, 0, .inl 0, []) :: []
def s_X8_begin_0 : List mE := (0, .aload_n 0, 1, 0, 0, 0, .inl 0, []) ::
  (1, .getfield 19, 3, 7, 1, 3, .inr (.inr (0, 0, 4)), [479]) ::
  (4, .getfield 175, 3, 0, 1, 0, .inl 0, [249]) ::
  (7, .ifCond .ne 5, 3, 12, 0, 0, .inl 0, []) ::
  (10, .iconst 0, 1, 0, 0, 0, .inl (nI 0), []) ::
  (11, .ireturn, 1, 1, 0, 0, .inl 0, []) :: s_X8_begin_12
def k_X8_begin : List mE := s_X8_begin_0
set_option maxRecDepth 100000 in
theorem t_X8_begin_0 : dropTo 0 k_X8_begin = s_X8_begin_0 := rfl
set_option maxRecDepth 100000 in
theorem t_X8_begin_12 : dropTo 12 k_X8_begin = s_X8_begin_12 := rfl
theorem ok_X8_begin : mOkF m_X8_begin k_X8_begin = true := by decide +kernel
theorem cm_X8_begin : mChkM m_X8_begin = true := by decide +kernel
def s_X8_brook_30 : List mE := (30, .aload_n 0, 1, 0, 0, 0, .inl 0, []) ::
  (31, .getfield 19, 3, 7, 1, 3, .inr (.inr (0, 0, 4)), [479]) ::
  (34, .aload_n 0, 1, 0, 0, 0, .inl 0, []) ::
  (35, .getfield 23, 3, 7, 2, 3, .inr (.inr (0, 0, 16)), [480]) ::
  (38, .invokevirtual 115, 3, 4, 2, 0, .inl 0, [659, 0]) ::
  (41, .aload_n 0, 1, 0, 0, 0, .inl 0, []) ::
  (42, .getfield 29, 3, 7, 3, 3, .inr (.inr (2, 0, 28)), [481]) ::
  (45, .invokevirtual 119, 3, 23, 1, 0, .inl 0, [666, 2]) ::
  (48, .aload_n 0, 1, 0, 0, 0, .inl 0, []) ::
  (49, .getfield 39, 3, 7, 5, 3, .inr (.inr (4, 0, 42)), [483]) ::
  (52, .invokevirtual 122, 3, 50, 1, 0, .inl 0, [670, 4]) ::
  (55, .aload_n 0, 1, 0, 0, 0, .inl 0, []) ::
  (56, .getfield 49, 3, 7, 7, 3, .inr (.inr (3, 0, 50)), [485]) ::
  (59, .iconst (-1), 1, 0, 0, 0, .inl (-1), []) ::
  (60, .putfield 123, 3, 3, 0, 0, .inl 0, [379]) ::
  (63, .aload_n 0, 1, 0, 0, 0, .inl 0, []) ::
  (64, .getfield 19, 3, 7, 1, 3, .inr (.inr (0, 0, 4)), [479]) ::
  (67, .getfield 126, 3, 0, 2, 0, .inl 0, [251]) ::
  (70, .ireturn, 1, 0, 0, 0, .inl 0, []) :: []
def s_X8_brook_0 : List mE := (0, .aload_n 0, 1, 0, 0, 0, .inl 0, []) ::
  (1, .getfield 23, 3, 7, 2, 3, .inr (.inr (0, 0, 16)), [480]) ::
  (4, .aload_n 0, 1, 0, 0, 0, .inl 0, []) ::
  (5, .getfield 12, 3, 7, 0, 3, .inr (.inr (5, 0, 1)), [478]) ::
  (8, .invokevirtual 105, 3, 12, 2, 1, .inl 0, [554, 0]) ::
  (11, .istore_n 1, 1, 1, 0, 0, .inl 0, []) ::
  (12, .aload_n 0, 1, 0, 0, 0, .inl 0, []) ::
  (13, .invokevirtual 109, 3, 82, 1, 0, .inl 0, [655, 7]) ::
  (16, .iload_n 1, 1, 1, 0, 0, .inl 0, []) ::
  (17, .ifCond .ne 13, 3, 30, 0, 0, .inl 0, []) ::
  (20, .iconst (-1), 1, 0, 0, 0, .inl (-1), []) ::
  (21, .aload_n 0, 1, 0, 0, 0, .inl 0, []) ::
  (22, .getfield 12, 3, 7, 0, 3, .inr (.inr (5, 0, 1)), [478]) ::
  (25, .getfield 112, 3, 5, 11, 0, .inl 0, [210]) ::
  (28, .isub, 1, 0, 0, 0, .inl 0, []) ::
  (29, .ireturn, 1, 0, 0, 0, .inl 0, []) :: s_X8_brook_30
def k_X8_brook : List mE := s_X8_brook_0
set_option maxRecDepth 100000 in
theorem t_X8_brook_0 : dropTo 0 k_X8_brook = s_X8_brook_0 := rfl
set_option maxRecDepth 100000 in
theorem t_X8_brook_30 : dropTo 30 k_X8_brook = s_X8_brook_30 := rfl
theorem ok_X8_brook : mOkF m_X8_brook k_X8_brook = true := by decide +kernel
theorem cm_X8_brook : mChkM m_X8_brook = true := by decide +kernel
def s_X8_by_17 : List mE := (17, .aload_n 0, 1, 0, 0, 0, .inl 0, []) ::
  (18, .aload_n 0, 1, 0, 0, 0, .inl 0, []) ::
  (19, .getfield 19, 3, 7, 1, 3, .inr (.inr (0, 0, 4)), [479]) ::
  (22, .iload_n 1, 1, 1, 0, 0, .inl 0, []) ::
  (23, .iload_n 2, 1, 2, 0, 0, .inl 0, []) ::
  (24, .invokevirtual 274, 3, 114, 4, 1, .inl 0, [881, 7]) ::
  (27, .ireturn, 1, 0, 0, 0, .inl 0, []) :: []
def s_X8_by_15 : List mE := (15, .iconst (-1), 1, 0, 0, 0, .inl (-1), []) ::
  (16, .ireturn, 1, 0, 0, 0, .inl 0, []) :: s_X8_by_17
def s_X8_by_0 : List mE := (0, .aload_n 0, 1, 0, 0, 0, .inl 0, []) ::
  (1, .iload_n 1, 1, 1, 0, 0, .inl 0, []) ::
  (2, .invokevirtual 268, 3, 104, 2, 1, .inl 0, [874, 7]) ::
  (5, .ifCond .eq 10, 3, 15, 0, 0, .inl 0, []) ::
  (8, .iload_n 2, 1, 2, 0, 0, .inl 0, []) ::
  (9, .invokestatic 271, 3, 76, 1, 1, .inl 0, [878]) ::
  (12, .ifCond .ne 5, 3, 17, 0, 0, .inl 0, []) :: s_X8_by_15
def k_X8_by : List mE := s_X8_by_0
set_option maxRecDepth 100000 in
theorem t_X8_by_0 : dropTo 0 k_X8_by = s_X8_by_0 := rfl
set_option maxRecDepth 100000 in
theorem t_X8_by_15 : dropTo 15 k_X8_by = s_X8_by_15 := rfl
set_option maxRecDepth 100000 in
theorem t_X8_by_17 : dropTo 17 k_X8_by = s_X8_by_17 := rfl
theorem ok_X8_by : mOkF m_X8_by k_X8_by = true := by decide +kernel
theorem cm_X8_by : mChkM m_X8_by = true := by decide +kernel
def s_X8_byteAt_28 : List mE := (28, .ireturn, 1, 0, 0, 0, .inl 0, []) :: []
def s_X8_byteAt_27 : List mE := (27, .iconst (-1), 1, 0, 0, 0, .inl (-1), []) :: s_X8_byteAt_28
def s_X8_byteAt_0 : List mE := (0, .iload_n 1, 1, 1, 0, 0, .inl 0, []) ::
  (1, .ifCond .lt 26, 3, 27, 0, 0, .inl 0, []) ::
  (4, .iload_n 1, 1, 1, 0, 0, .inl 0, []) ::
  (5, .aload_n 0, 1, 0, 0, 0, .inl 0, []) ::
  (6, .getfield 69, 3, 7, 11, 3, .inr (.inr (6, 0, 159)), [489]) ::
  (9, .getfield 332, 3, 6, 1, 0, .inl 0, [472]) ::
  (12, .if_icmp .ge 15, 3, 27, 0, 0, .inl 0, []) ::
  (15, .aload_n 0, 1, 0, 0, 0, .inl 0, []) ::
  (16, .getfield 69, 3, 7, 11, 3, .inr (.inr (6, 0, 159)), [489]) ::
  (19, .getfield 343, 3, 6, 0, 3, .inr (.inr (16, 136, 1)), [470]) ::
  (22, .iload_n 1, 1, 1, 0, 0, .inl 0, []) ::
  (23, .iaload, 1, 0, 0, 0, .inl 0, []) ::
  (24, .goto 4, 3, 28, 0, 0, .inl 0, []) :: s_X8_byteAt_27
def k_X8_byteAt : List mE := s_X8_byteAt_0
set_option maxRecDepth 100000 in
theorem t_X8_byteAt_0 : dropTo 0 k_X8_byteAt = s_X8_byteAt_0 := rfl
set_option maxRecDepth 100000 in
theorem t_X8_byteAt_27 : dropTo 27 k_X8_byteAt = s_X8_byteAt_27 := rfl
set_option maxRecDepth 100000 in
theorem t_X8_byteAt_28 : dropTo 28 k_X8_byteAt = s_X8_byteAt_28 := rfl
theorem ok_X8_byteAt : mOkF m_X8_byteAt k_X8_byteAt = true := by decide +kernel
theorem cm_X8_byteAt : mChkM m_X8_byteAt = true := by decide +kernel
def s_X8_closeTape_0 : List mE := (0, .aload_n 0, 1, 0, 0, 0, .inl 0, []) ::
  (1, .aload_n 0, 1, 0, 0, 0, .inl 0, []) ::
  (2, .getfield 12, 3, 7, 0, 3, .inr (.inr (5, 0, 1)), [478]) ::
  (5, .getfield 129, 3, 5, 10, 0, .inl 0, [208]) ::
  (8, .putfield 91, 3, 7, 17, 0, .inl 0, [495]) ::
  (11, .aload_n 0, 1, 0, 0, 0, .inl 0, []) ::
  (12, .getfield 12, 3, 7, 0, 3, .inr (.inr (5, 0, 1)), [478]) ::
  (15, .iconst 0, 1, 0, 0, 0, .inl (nI 0), []) ::
  (16, .putfield 102, 3, 5, 2, 0, .inl 0, [189]) ::
  (19, .return_, 1, 0, 0, 0, .inl 0, []) :: []
def k_X8_closeTape : List mE := s_X8_closeTape_0
set_option maxRecDepth 100000 in
theorem t_X8_closeTape_0 : dropTo 0 k_X8_closeTape = s_X8_closeTape_0 := rfl
theorem ok_X8_closeTape : mOkF m_X8_closeTape k_X8_closeTape = true := by decide +kernel
theorem cm_X8_closeTape : mChkM m_X8_closeTape = true := by decide +kernel
def s_X8_comes_27 : List mE := (27, .ireturn, 1, 0, 0, 0, .inl 0, []) :: []
def s_X8_comes_26 : List mE := (26, .iconst (-1), 1, 0, 0, 0, .inl (-1), []) :: s_X8_comes_27
def s_X8_comes_0 : List mE := (0, .aload_n 0, 1, 0, 0, 0, .inl 0, []) ::
  (1, .iload_n 1, 1, 1, 0, 0, .inl 0, []) ::
  (2, .iload_n 2, 1, 2, 0, 0, .inl 0, []) ::
  (3, .invokevirtual 209, 3, 105, 3, 1, .inl 0, [772, 7]) ::
  (6, .ifCond .eq 20, 3, 26, 0, 0, .inl 0, []) ::
  (9, .aload_n 0, 1, 0, 0, 0, .inl 0, []) ::
  (10, .getfield 49, 3, 7, 7, 3, .inr (.inr (3, 0, 50)), [485]) ::
  (13, .getfield 237, 3, 3, 3, 3, .inr (.inr (16, 48, 3)), [386]) ::
  (16, .iload_n 1, 1, 1, 0, 0, .inl 0, []) ::
  (17, .bipush 6, 2, 0, 0, 0, .inl (nI 6), []) ::
  (19, .imul, 1, 0, 0, 0, .inl 0, []) ::
  (20, .iload_n 2, 1, 2, 0, 0, .inl 0, []) ::
  (21, .iadd, 1, 0, 0, 0, .inl 0, []) ::
  (22, .iaload, 1, 0, 0, 0, .inl 0, []) ::
  (23, .goto 4, 3, 27, 0, 0, .inl 0, []) :: s_X8_comes_26
def k_X8_comes : List mE := s_X8_comes_0
set_option maxRecDepth 100000 in
theorem t_X8_comes_0 : dropTo 0 k_X8_comes = s_X8_comes_0 := rfl
set_option maxRecDepth 100000 in
theorem t_X8_comes_26 : dropTo 26 k_X8_comes = s_X8_comes_26 := rfl
set_option maxRecDepth 100000 in
theorem t_X8_comes_27 : dropTo 27 k_X8_comes = s_X8_comes_27 := rfl
theorem ok_X8_comes : mOkF m_X8_comes k_X8_comes = true := by decide +kernel
theorem cm_X8_comes : mChkM m_X8_comes = true := by decide +kernel
def s_X8_commonDivisor_55 : List mE := (55, .lload 6, 2, 6, 0, 0, .inl 0, []) ::
  (57, .lconst 1, 1, 0, 0, 0, .inr (.inl 1), []) ::
  (58, .invokestatic 300, 3, 0, 2, 12, .inl 0, [915]) ::
  (61, .lreturn, 1, 0, 0, 0, .inl 0, []) :: []
def s_X8_commonDivisor_9 : List mE := (9, .iload 8, 2, 8, 0, 0, .inl 0, []) ::
  (11, .sipush 200, 3, 0, 0, 0, .inl (nI 200), []) ::
  (14, .if_icmp .ge 41, 3, 55, 0, 0, .inl 0, []) ::
  (17, .lload 6, 2, 6, 0, 0, .inl 0, []) ::
  (19, .lconst 0, 1, 0, 0, 0, .inr (.inl 0), []) ::
  (20, .lcmp, 1, 0, 0, 0, .inl 0, []) ::
  (21, .ifCond .le 34, 3, 55, 0, 0, .inl 0, []) ::
  (24, .lload 4, 2, 4, 0, 0, .inl 0, []) ::
  (26, .lload 6, 2, 6, 0, 0, .inl 0, []) ::
  (28, .lrem, 1, 0, 0, 0, .inl 0, []) ::
  (29, .lconst 0, 1, 0, 0, 0, .inr (.inl 0), []) ::
  (30, .lcmp, 1, 0, 0, 0, .inl 0, []) ::
  (31, .ifCond .eq 24, 3, 55, 0, 0, .inl 0, []) ::
  (34, .lload 4, 2, 4, 0, 0, .inl 0, []) ::
  (36, .lload 6, 2, 6, 0, 0, .inl 0, []) ::
  (38, .lrem, 1, 0, 0, 0, .inl 0, []) ::
  (39, .lstore 9, 2, 9, 0, 0, .inl 0, []) ::
  (41, .lload 6, 2, 6, 0, 0, .inl 0, []) ::
  (43, .lstore 4, 2, 4, 0, 0, .inl 0, []) ::
  (45, .lload 9, 2, 9, 0, 0, .inl 0, []) ::
  (47, .lstore 6, 2, 6, 0, 0, .inl 0, []) ::
  (49, .iinc 8 1, 3, 8, 0, 0, .inl (nI 1), []) ::
  (52, .goto (-43), 3, 9, 0, 0, .inl 0, []) :: s_X8_commonDivisor_55
def s_X8_commonDivisor_0 : List mE := (0, .lload_n 0, 1, 0, 0, 0, .inl 0, []) ::
  (1, .lstore 4, 2, 4, 0, 0, .inl 0, []) ::
  (3, .lload_n 2, 1, 2, 0, 0, .inl 0, []) ::
  (4, .lstore 6, 2, 6, 0, 0, .inl 0, []) ::
  (6, .iconst 0, 1, 0, 0, 0, .inl (nI 0), []) ::
  (7, .istore 8, 2, 8, 0, 0, .inl 0, []) :: s_X8_commonDivisor_9
def k_X8_commonDivisor : List mE := s_X8_commonDivisor_0
set_option maxRecDepth 100000 in
theorem t_X8_commonDivisor_0 : dropTo 0 k_X8_commonDivisor = s_X8_commonDivisor_0 := rfl
set_option maxRecDepth 100000 in
theorem t_X8_commonDivisor_9 : dropTo 9 k_X8_commonDivisor = s_X8_commonDivisor_9 := rfl
set_option maxRecDepth 100000 in
theorem t_X8_commonDivisor_55 : dropTo 55 k_X8_commonDivisor = s_X8_commonDivisor_55 := rfl
theorem ok_X8_commonDivisor : mOkF m_X8_commonDivisor k_X8_commonDivisor = true := by decide +kernel
theorem cm_X8_commonDivisor : mChkM m_X8_commonDivisor = true := by decide +kernel
def s_X8_count_129 : List mE := (129, .iconst (-1), 1, 0, 0, 0, .inl (-1), []) ::
  (130, .ireturn, 1, 0, 0, 0, .inl 0, []) :: []
def s_X8_count_121 : List mE := (121, .aload_n 0, 1, 0, 0, 0, .inl 0, []) ::
  (122, .getfield 12, 3, 7, 0, 3, .inr (.inr (5, 0, 1)), [478]) ::
  (125, .getfield 102, 3, 5, 2, 0, .inl 0, [189]) ::
  (128, .ireturn, 1, 0, 0, 0, .inl 0, []) :: s_X8_count_129
def s_X8_count_113 : List mE := (113, .aload_n 0, 1, 0, 0, 0, .inl 0, []) ::
  (114, .getfield 29, 3, 7, 3, 3, .inr (.inr (2, 0, 28)), [481]) ::
  (117, .getfield 253, 3, 2, 0, 0, .inl 0, [327]) ::
  (120, .ireturn, 1, 0, 0, 0, .inl 0, []) :: s_X8_count_121
def s_X8_count_112 : List mE := (112, .ireturn, 1, 0, 0, 0, .inl 0, []) :: s_X8_count_113
def s_X8_count_111 : List mE := (111, .iconst 0, 1, 0, 0, 0, .inl (nI 0), []) :: s_X8_count_112
def s_X8_count_97 : List mE := (97, .aload_n 0, 1, 0, 0, 0, .inl 0, []) ::
  (98, .getfield 19, 3, 7, 1, 3, .inr (.inr (0, 0, 4)), [479]) ::
  (101, .getfield 367, 3, 0, 3, 2, .inl 0, [254]) ::
  (104, .ifCond .eq 7, 3, 111, 0, 0, .inl 0, []) ::
  (107, .iconst 1, 1, 0, 0, 0, .inl (nI 1), []) ::
  (108, .goto 4, 3, 112, 0, 0, .inl 0, []) :: s_X8_count_111
def s_X8_count_86 : List mE := (86, .aload_n 0, 1, 0, 0, 0, .inl 0, []) ::
  (87, .getfield 19, 3, 7, 1, 3, .inr (.inr (0, 0, 4)), [479]) ::
  (90, .getfield 160, 3, 0, 14, 3, .inr (.inr (16, 48, 11)), [287]) ::
  (93, .invokestatic 363, 3, 86, 1, 1, .inl 0, [1103]) ::
  (96, .ireturn, 1, 0, 0, 0, .inl 0, []) :: s_X8_count_97
def s_X8_count_75 : List mE := (75, .aload_n 0, 1, 0, 0, 0, .inl 0, []) ::
  (76, .getfield 19, 3, 7, 1, 3, .inr (.inr (0, 0, 4)), [479]) ::
  (79, .getfield 157, 3, 0, 13, 3, .inr (.inr (16, 48, 10)), [283]) ::
  (82, .invokestatic 363, 3, 86, 1, 1, .inl 0, [1103]) ::
  (85, .ireturn, 1, 0, 0, 0, .inl 0, []) :: s_X8_count_86
def s_X8_count_64 : List mE := (64, .aload_n 0, 1, 0, 0, 0, .inl 0, []) ::
  (65, .getfield 19, 3, 7, 1, 3, .inr (.inr (0, 0, 4)), [479]) ::
  (68, .getfield 150, 3, 0, 10, 3, .inr (.inr (16, 48, 7)), [274]) ::
  (71, .invokestatic 363, 3, 86, 1, 1, .inl 0, [1103]) ::
  (74, .ireturn, 1, 0, 0, 0, .inl 0, []) :: s_X8_count_75
def s_X8_count_56 : List mE := (56, .aload_n 0, 1, 0, 0, 0, .inl 0, []) ::
  (57, .getfield 19, 3, 7, 1, 3, .inr (.inr (0, 0, 4)), [479]) ::
  (60, .getfield 175, 3, 0, 1, 0, .inl 0, [249]) ::
  (63, .ireturn, 1, 0, 0, 0, .inl 0, []) :: s_X8_count_64
def s_X8_count_48 : List mE := (48, .aload_n 0, 1, 0, 0, 0, .inl 0, []) ::
  (49, .getfield 19, 3, 7, 1, 3, .inr (.inr (0, 0, 4)), [479]) ::
  (52, .getfield 178, 3, 0, 0, 0, .inl 0, [246]) ::
  (55, .ireturn, 1, 0, 0, 0, .inl 0, []) :: s_X8_count_56
def s_X8_count_0 : List mE := (0, .iload_n 1, 1, 1, 0, 0, .inl 0, []) ::
  (1, .tableswitch 128 0 7 #[47, 55, 63, 74, 85, 96, 112, 120], 47, 129, 0, 0, .inl 0, [48, 56, 64, 75, 86, 97, 113, 121]) :: s_X8_count_48
def k_X8_count : List mE := s_X8_count_0
set_option maxRecDepth 100000 in
theorem t_X8_count_0 : dropTo 0 k_X8_count = s_X8_count_0 := rfl
set_option maxRecDepth 100000 in
theorem t_X8_count_48 : dropTo 48 k_X8_count = s_X8_count_48 := rfl
set_option maxRecDepth 100000 in
theorem t_X8_count_56 : dropTo 56 k_X8_count = s_X8_count_56 := rfl
set_option maxRecDepth 100000 in
theorem t_X8_count_64 : dropTo 64 k_X8_count = s_X8_count_64 := rfl
set_option maxRecDepth 100000 in
theorem t_X8_count_75 : dropTo 75 k_X8_count = s_X8_count_75 := rfl
set_option maxRecDepth 100000 in
theorem t_X8_count_86 : dropTo 86 k_X8_count = s_X8_count_86 := rfl
set_option maxRecDepth 100000 in
theorem t_X8_count_97 : dropTo 97 k_X8_count = s_X8_count_97 := rfl
set_option maxRecDepth 100000 in
theorem t_X8_count_111 : dropTo 111 k_X8_count = s_X8_count_111 := rfl
set_option maxRecDepth 100000 in
theorem t_X8_count_112 : dropTo 112 k_X8_count = s_X8_count_112 := rfl
set_option maxRecDepth 100000 in
theorem t_X8_count_113 : dropTo 113 k_X8_count = s_X8_count_113 := rfl
set_option maxRecDepth 100000 in
theorem t_X8_count_121 : dropTo 121 k_X8_count = s_X8_count_121 := rfl
set_option maxRecDepth 100000 in
theorem t_X8_count_129 : dropTo 129 k_X8_count = s_X8_count_129 := rfl
theorem ok_X8_count : mOkF m_X8_count k_X8_count = true := by decide +kernel
theorem cm_X8_count : mChkM m_X8_count = true := by decide +kernel
def s_X8_countTold_25 : List mE := (25, .iload_n 1, 1, 1, 0, 0, .inl 0, []) ::
  (26, .ireturn, 1, 0, 0, 0, .inl 0, []) :: []
def s_X8_countTold_19 : List mE := (19, .iinc 2 1, 3, 2, 0, 0, .inl (nI 1), []) ::
  (22, .goto (-18), 3, 4, 0, 0, .inl 0, []) :: s_X8_countTold_25
def s_X8_countTold_4 : List mE := (4, .iload_n 2, 1, 2, 0, 0, .inl 0, []) ::
  (5, .bipush 48, 2, 0, 0, 0, .inl (nI 48), []) ::
  (7, .if_icmp .ge 18, 3, 25, 0, 0, .inl 0, []) ::
  (10, .aload_n 0, 1, 0, 0, 0, .inl 0, []) ::
  (11, .iload_n 2, 1, 2, 0, 0, .inl 0, []) ::
  (12, .iaload, 1, 0, 0, 0, .inl 0, []) ::
  (13, .ifCond .le 6, 3, 19, 0, 0, .inl 0, []) ::
  (16, .iinc 1 1, 3, 1, 0, 0, .inl (nI 1), []) :: s_X8_countTold_19
def s_X8_countTold_0 : List mE := (0, .iconst 0, 1, 0, 0, 0, .inl (nI 0), []) ::
  (1, .istore_n 1, 1, 1, 0, 0, .inl 0, []) ::
  (2, .iconst 0, 1, 0, 0, 0, .inl (nI 0), []) ::
  (3, .istore_n 2, 1, 2, 0, 0, .inl 0, []) :: s_X8_countTold_4
def k_X8_countTold : List mE := s_X8_countTold_0
set_option maxRecDepth 100000 in
theorem t_X8_countTold_0 : dropTo 0 k_X8_countTold = s_X8_countTold_0 := rfl
set_option maxRecDepth 100000 in
theorem t_X8_countTold_4 : dropTo 4 k_X8_countTold = s_X8_countTold_4 := rfl
set_option maxRecDepth 100000 in
theorem t_X8_countTold_19 : dropTo 19 k_X8_countTold = s_X8_countTold_19 := rfl
set_option maxRecDepth 100000 in
theorem t_X8_countTold_25 : dropTo 25 k_X8_countTold = s_X8_countTold_25 := rfl
theorem ok_X8_countTold : mOkF m_X8_countTold k_X8_countTold = true := by decide +kernel
theorem cm_X8_countTold : mChkM m_X8_countTold = true := by decide +kernel
def s_X8_dry_42 : List mE := (42, .aload_n 0, 1, 0, 0, 0, .inl 0, []) ::
  (43, .getfield 23, 3, 7, 2, 3, .inr (.inr (0, 0, 16)), [480]) ::
  (46, .aload_n 0, 1, 0, 0, 0, .inl 0, []) ::
  (47, .getfield 19, 3, 7, 1, 3, .inr (.inr (0, 0, 4)), [479]) ::
  (50, .invokevirtual 115, 3, 4, 2, 0, .inl 0, [659, 0]) ::
  (53, .aload_n 0, 1, 0, 0, 0, .inl 0, []) ::
  (54, .getfield 23, 3, 7, 2, 3, .inr (.inr (0, 0, 16)), [480]) ::
  (57, .getfield 160, 3, 0, 14, 3, .inr (.inr (16, 48, 11)), [287]) ::
  (60, .iload_n 1, 1, 1, 0, 0, .inl 0, []) ::
  (61, .bipush 6, 2, 0, 0, 0, .inl (nI 6), []) ::
  (63, .imul, 1, 0, 0, 0, .inl 0, []) ::
  (64, .iload_n 2, 1, 2, 0, 0, .inl 0, []) ::
  (65, .iadd, 1, 0, 0, 0, .inl 0, []) ::
  (66, .iconst 0, 1, 0, 0, 0, .inl (nI 0), []) ::
  (67, .iastore, 1, 0, 0, 0, .inl 0, []) ::
  (68, .aload_n 0, 1, 0, 0, 0, .inl 0, []) ::
  (69, .getfield 19, 3, 7, 1, 3, .inr (.inr (0, 0, 4)), [479]) ::
  (72, .invokevirtual 181, 3, 2, 1, 1, .inl 0, [728, 0]) ::
  (75, .istore 4, 2, 4, 0, 0, .inl 0, []) ::
  (77, .aload_n 0, 1, 0, 0, 0, .inl 0, []) ::
  (78, .aload_n 0, 1, 0, 0, 0, .inl 0, []) ::
  (79, .getfield 19, 3, 7, 1, 3, .inr (.inr (0, 0, 4)), [479]) ::
  (82, .iload 4, 2, 4, 0, 0, .inl 0, []) ::
  (84, .iload_n 3, 1, 3, 0, 0, .inl 0, []) ::
  (85, .invokevirtual 274, 3, 114, 4, 1, .inl 0, [881, 7]) ::
  (88, .aload_n 0, 1, 0, 0, 0, .inl 0, []) ::
  (89, .aload_n 0, 1, 0, 0, 0, .inl 0, []) ::
  (90, .getfield 23, 3, 7, 2, 3, .inr (.inr (0, 0, 16)), [480]) ::
  (93, .iload 4, 2, 4, 0, 0, .inl 0, []) ::
  (95, .iload_n 3, 1, 3, 0, 0, .inl 0, []) ::
  (96, .invokevirtual 274, 3, 114, 4, 1, .inl 0, [881, 7]) ::
  (99, .isub, 1, 0, 0, 0, .inl 0, []) ::
  (100, .ireturn, 1, 0, 0, 0, .inl 0, []) :: []
def s_X8_dry_40 : List mE := (40, .iconst (-1), 1, 0, 0, 0, .inl (-1), []) ::
  (41, .ireturn, 1, 0, 0, 0, .inl 0, []) :: s_X8_dry_42
def s_X8_dry_0 : List mE := (0, .aload_n 0, 1, 0, 0, 0, .inl 0, []) ::
  (1, .iload_n 1, 1, 1, 0, 0, .inl 0, []) ::
  (2, .invokevirtual 130, 3, 106, 2, 1, .inl 0, [682, 7]) ::
  (5, .ifCond .eq 35, 3, 40, 0, 0, .inl 0, []) ::
  (8, .aload_n 0, 1, 0, 0, 0, .inl 0, []) ::
  (9, .iload_n 2, 1, 2, 0, 0, .inl 0, []) ::
  (10, .invokevirtual 163, 3, 102, 2, 1, .inl 0, [686, 7]) ::
  (13, .ifCond .eq 27, 3, 40, 0, 0, .inl 0, []) ::
  (16, .iload_n 3, 1, 3, 0, 0, .inl 0, []) ::
  (17, .invokestatic 271, 3, 76, 1, 1, .inl 0, [878]) ::
  (20, .ifCond .eq 20, 3, 40, 0, 0, .inl 0, []) ::
  (23, .aload_n 0, 1, 0, 0, 0, .inl 0, []) ::
  (24, .getfield 19, 3, 7, 1, 3, .inr (.inr (0, 0, 4)), [479]) ::
  (27, .getfield 160, 3, 0, 14, 3, .inr (.inr (16, 48, 11)), [287]) ::
  (30, .iload_n 1, 1, 1, 0, 0, .inl 0, []) ::
  (31, .bipush 6, 2, 0, 0, 0, .inl (nI 6), []) ::
  (33, .imul, 1, 0, 0, 0, .inl 0, []) ::
  (34, .iload_n 2, 1, 2, 0, 0, .inl 0, []) ::
  (35, .iadd, 1, 0, 0, 0, .inl 0, []) ::
  (36, .iaload, 1, 0, 0, 0, .inl 0, []) ::
  (37, .ifCond .ne 5, 3, 42, 0, 0, .inl 0, []) :: s_X8_dry_40
def k_X8_dry : List mE := s_X8_dry_0
set_option maxRecDepth 100000 in
theorem t_X8_dry_0 : dropTo 0 k_X8_dry = s_X8_dry_0 := rfl
set_option maxRecDepth 100000 in
theorem t_X8_dry_40 : dropTo 40 k_X8_dry = s_X8_dry_40 := rfl
set_option maxRecDepth 100000 in
theorem t_X8_dry_42 : dropTo 42 k_X8_dry = s_X8_dry_42 := rfl
theorem ok_X8_dry : mOkF m_X8_dry k_X8_dry = true := by decide +kernel
theorem cm_X8_dry : mChkM m_X8_dry = true := by decide +kernel
def s_X8_end_17 : List mE := (17, .aload_n 0, 1, 0, 0, 0, .inl 0, []) ::
  (18, .getfield 12, 3, 7, 0, 3, .inr (.inr (5, 0, 1)), [478]) ::
  (21, .iload_n 1, 1, 1, 0, 0, .inl 0, []) ::
  (22, .putfield 102, 3, 5, 2, 0, .inl 0, [189]) ::
  (25, .iconst 1, 1, 0, 0, 0, .inl (nI 1), []) ::
  (26, .ireturn, 1, 1, 0, 0, .inl 0, []) :: []
def s_X8_end_15 : List mE := (15, .iconst 0, 1, 0, 0, 0, .inl (nI 0), []) ::
  (16, .ireturn, 1, 1, 0, 0, .inl 0, []) :: s_X8_end_17
def s_X8_end_0 : List mE := (0, .iload_n 1, 1, 1, 0, 0, .inl 0, []) ::
  (1, .ifCond .lt 14, 3, 15, 0, 0, .inl 0, []) ::
  (4, .iload_n 1, 1, 1, 0, 0, .inl 0, []) ::
  (5, .aload_n 0, 1, 0, 0, 0, .inl 0, []) ::
  (6, .getfield 12, 3, 7, 0, 3, .inr (.inr (5, 0, 1)), [478]) ::
  (9, .getfield 102, 3, 5, 2, 0, .inl 0, [189]) ::
  (12, .if_icmp .le 5, 3, 17, 0, 0, .inl 0, []) :: s_X8_end_15
def k_X8_end : List mE := s_X8_end_0
set_option maxRecDepth 100000 in
theorem t_X8_end_0 : dropTo 0 k_X8_end = s_X8_end_0 := rfl
set_option maxRecDepth 100000 in
theorem t_X8_end_15 : dropTo 15 k_X8_end = s_X8_end_15 := rfl
set_option maxRecDepth 100000 in
theorem t_X8_end_17 : dropTo 17 k_X8_end = s_X8_end_17 := rfl
theorem ok_X8_end : mOkF m_X8_end k_X8_end = true := by decide +kernel
theorem cm_X8_end : mChkM m_X8_end = true := by decide +kernel
def s_X8_exchanged_95 : List mE := (95, .iload_n 2, 1, 2, 0, 0, .inl 0, []) ::
  (96, .ireturn, 1, 0, 0, 0, .inl 0, []) :: []
def s_X8_exchanged_89 : List mE := (89, .iinc 4 1, 3, 4, 0, 0, .inl (nI 1), []) ::
  (92, .goto (-65), 3, 27, 0, 0, .inl 0, []) :: s_X8_exchanged_95
def s_X8_exchanged_27 : List mE := (27, .iload 4, 2, 4, 0, 0, .inl 0, []) ::
  (29, .iconst 1, 1, 0, 0, 0, .inl (nI 1), []) ::
  (30, .iadd, 1, 0, 0, 0, .inl 0, []) ::
  (31, .aload_n 0, 1, 0, 0, 0, .inl 0, []) ::
  (32, .getfield 19, 3, 7, 1, 3, .inr (.inr (0, 0, 4)), [479]) ::
  (35, .getfield 175, 3, 0, 1, 0, .inl 0, [249]) ::
  (38, .if_icmp .ge 57, 3, 95, 0, 0, .inl 0, []) ::
  (41, .aload_n 0, 1, 0, 0, 0, .inl 0, []) ::
  (42, .getfield 23, 3, 7, 2, 3, .inr (.inr (0, 0, 16)), [480]) ::
  (45, .iload 4, 2, 4, 0, 0, .inl 0, []) ::
  (47, .invokevirtual 329, 3, 6, 2, 0, .inl 0, [990, 0]) ::
  (50, .aload_n 0, 1, 0, 0, 0, .inl 0, []) ::
  (51, .aload_n 0, 1, 0, 0, 0, .inl 0, []) ::
  (52, .getfield 23, 3, 7, 2, 3, .inr (.inr (0, 0, 16)), [480]) ::
  (55, .aload_n 0, 1, 0, 0, 0, .inl 0, []) ::
  (56, .getfield 19, 3, 7, 1, 3, .inr (.inr (0, 0, 4)), [479]) ::
  (59, .invokevirtual 181, 3, 2, 1, 1, .inl 0, [728, 0]) ::
  (62, .iload_n 1, 1, 1, 0, 0, .inl 0, []) ::
  (63, .invokevirtual 274, 3, 114, 4, 1, .inl 0, [881, 7]) ::
  (66, .istore 5, 2, 5, 0, 0, .inl 0, []) ::
  (68, .aload_n 0, 1, 0, 0, 0, .inl 0, []) ::
  (69, .getfield 23, 3, 7, 2, 3, .inr (.inr (0, 0, 16)), [480]) ::
  (72, .iload 4, 2, 4, 0, 0, .inl 0, []) ::
  (74, .invokevirtual 329, 3, 6, 2, 0, .inl 0, [990, 0]) ::
  (77, .iload 5, 2, 5, 0, 0, .inl 0, []) ::
  (79, .iload_n 3, 1, 3, 0, 0, .inl 0, []) ::
  (80, .if_icmp .le 9, 3, 89, 0, 0, .inl 0, []) ::
  (83, .iload 5, 2, 5, 0, 0, .inl 0, []) ::
  (85, .istore_n 3, 1, 3, 0, 0, .inl 0, []) ::
  (86, .iload 4, 2, 4, 0, 0, .inl 0, []) ::
  (88, .istore_n 2, 1, 2, 0, 0, .inl 0, []) :: s_X8_exchanged_89
def s_X8_exchanged_9 : List mE := (9, .aload_n 0, 1, 0, 0, 0, .inl 0, []) ::
  (10, .getfield 23, 3, 7, 2, 3, .inr (.inr (0, 0, 16)), [480]) ::
  (13, .aload_n 0, 1, 0, 0, 0, .inl 0, []) ::
  (14, .getfield 19, 3, 7, 1, 3, .inr (.inr (0, 0, 4)), [479]) ::
  (17, .invokevirtual 115, 3, 4, 2, 0, .inl 0, [659, 0]) ::
  (20, .iconst (-1), 1, 0, 0, 0, .inl (-1), []) ::
  (21, .istore_n 2, 1, 2, 0, 0, .inl 0, []) ::
  (22, .iconst (-1), 1, 0, 0, 0, .inl (-1), []) ::
  (23, .istore_n 3, 1, 3, 0, 0, .inl 0, []) ::
  (24, .iconst 0, 1, 0, 0, 0, .inl (nI 0), []) ::
  (25, .istore 4, 2, 4, 0, 0, .inl 0, []) :: s_X8_exchanged_27
def s_X8_exchanged_0 : List mE := (0, .iload_n 1, 1, 1, 0, 0, .inl 0, []) ::
  (1, .invokestatic 271, 3, 76, 1, 1, .inl 0, [878]) ::
  (4, .ifCond .ne 5, 3, 9, 0, 0, .inl 0, []) ::
  (7, .iconst (-1), 1, 0, 0, 0, .inl (-1), []) ::
  (8, .ireturn, 1, 0, 0, 0, .inl 0, []) :: s_X8_exchanged_9
def k_X8_exchanged : List mE := s_X8_exchanged_0
set_option maxRecDepth 100000 in
theorem t_X8_exchanged_0 : dropTo 0 k_X8_exchanged = s_X8_exchanged_0 := rfl
set_option maxRecDepth 100000 in
theorem t_X8_exchanged_9 : dropTo 9 k_X8_exchanged = s_X8_exchanged_9 := rfl
set_option maxRecDepth 100000 in
theorem t_X8_exchanged_27 : dropTo 27 k_X8_exchanged = s_X8_exchanged_27 := rfl
set_option maxRecDepth 100000 in
theorem t_X8_exchanged_89 : dropTo 89 k_X8_exchanged = s_X8_exchanged_89 := rfl
set_option maxRecDepth 100000 in
theorem t_X8_exchanged_95 : dropTo 95 k_X8_exchanged = s_X8_exchanged_95 := rfl
theorem ok_X8_exchanged : mOkF m_X8_exchanged k_X8_exchanged = true := by decide +kernel
theorem cm_X8_exchanged : mChkM m_X8_exchanged = true := by decide +kernel
def s_X8_falls_34 : List mE := (34, .aload_n 0, 1, 0, 0, 0, .inl 0, []) ::
  (35, .iload_n 2, 1, 2, 0, 0, .inl 0, []) ::
  (36, .iconst 1, 1, 0, 0, 0, .inl (nI 1), []) ::
  (37, .iload_n 1, 1, 1, 0, 0, .inl 0, []) ::
  (38, .ishl, 1, 0, 0, 0, .inl 0, []) ::
  (39, .iconst (-1), 1, 0, 0, 0, .inl (-1), []) ::
  (40, .ixor, 1, 0, 0, 0, .inl 0, []) ::
  (41, .iand, 1, 0, 0, 0, .inl 0, []) ::
  (42, .invokevirtual 315, 3, 99, 2, 1, .inl 0, [945, 7]) ::
  (45, .istore 4, 2, 4, 0, 0, .inl 0, []) ::
  (47, .iload_n 3, 1, 3, 0, 0, .inl 0, []) ::
  (48, .iconst 1, 1, 0, 0, 0, .inl (nI 1), []) ::
  (49, .iload_n 1, 1, 1, 0, 0, .inl 0, []) ::
  (50, .ishl, 1, 0, 0, 0, .inl 0, []) ::
  (51, .iconst (-1), 1, 0, 0, 0, .inl (-1), []) ::
  (52, .ixor, 1, 0, 0, 0, .inl 0, []) ::
  (53, .iand, 1, 0, 0, 0, .inl 0, []) ::
  (54, .iload 4, 2, 4, 0, 0, .inl 0, []) ::
  (56, .iconst (-1), 1, 0, 0, 0, .inl (-1), []) ::
  (57, .ixor, 1, 0, 0, 0, .inl 0, []) ::
  (58, .iand, 1, 0, 0, 0, .inl 0, []) ::
  (59, .ireturn, 1, 0, 0, 0, .inl 0, []) :: []
def s_X8_falls_10 : List mE := (10, .aload_n 0, 1, 0, 0, 0, .inl 0, []) ::
  (11, .getfield 19, 3, 7, 1, 3, .inr (.inr (0, 0, 4)), [479]) ::
  (14, .invokevirtual 181, 3, 2, 1, 1, .inl 0, [728, 0]) ::
  (17, .istore_n 2, 1, 2, 0, 0, .inl 0, []) ::
  (18, .aload_n 0, 1, 0, 0, 0, .inl 0, []) ::
  (19, .iload_n 2, 1, 2, 0, 0, .inl 0, []) ::
  (20, .invokevirtual 315, 3, 99, 2, 1, .inl 0, [945, 7]) ::
  (23, .istore_n 3, 1, 3, 0, 0, .inl 0, []) ::
  (24, .iload_n 3, 1, 3, 0, 0, .inl 0, []) ::
  (25, .iload_n 1, 1, 1, 0, 0, .inl 0, []) ::
  (26, .ishr, 1, 0, 0, 0, .inl 0, []) ::
  (27, .iconst 1, 1, 0, 0, 0, .inl (nI 1), []) ::
  (28, .iand, 1, 0, 0, 0, .inl 0, []) ::
  (29, .ifCond .ne 5, 3, 34, 0, 0, .inl 0, []) ::
  (32, .iconst (-1), 1, 0, 0, 0, .inl (-1), []) ::
  (33, .ireturn, 1, 0, 0, 0, .inl 0, []) :: s_X8_falls_34
def s_X8_falls_0 : List mE := (0, .aload_n 0, 1, 0, 0, 0, .inl 0, []) ::
  (1, .iload_n 1, 1, 1, 0, 0, .inl 0, []) ::
  (2, .invokevirtual 130, 3, 106, 2, 1, .inl 0, [682, 7]) ::
  (5, .ifCond .ne 5, 3, 10, 0, 0, .inl 0, []) ::
  (8, .iconst (-1), 1, 0, 0, 0, .inl (-1), []) ::
  (9, .ireturn, 1, 0, 0, 0, .inl 0, []) :: s_X8_falls_10
def k_X8_falls : List mE := s_X8_falls_0
set_option maxRecDepth 100000 in
theorem t_X8_falls_0 : dropTo 0 k_X8_falls = s_X8_falls_0 := rfl
set_option maxRecDepth 100000 in
theorem t_X8_falls_10 : dropTo 10 k_X8_falls = s_X8_falls_10 := rfl
set_option maxRecDepth 100000 in
theorem t_X8_falls_34 : dropTo 34 k_X8_falls = s_X8_falls_34 := rfl
theorem ok_X8_falls : mOkF m_X8_falls k_X8_falls = true := by decide +kernel
theorem cm_X8_falls : mChkM m_X8_falls = true := by decide +kernel
def s_X8_fault_0 : List mE := (0, .aload_n 0, 1, 0, 0, 0, .inl 0, []) ::
  (1, .getfield 91, 3, 7, 17, 0, .inl 0, [495]) ::
  (4, .ireturn, 1, 0, 0, 0, .inl 0, []) :: []
def k_X8_fault : List mE := s_X8_fault_0
set_option maxRecDepth 100000 in
theorem t_X8_fault_0 : dropTo 0 k_X8_fault = s_X8_fault_0 := rfl
theorem ok_X8_fault : mOkF m_X8_fault k_X8_fault = true := by decide +kernel
theorem cm_X8_fault : mChkM m_X8_fault = true := by decide +kernel
def s_X8_fed_162 : List mE := (162, .iconst (-1), 1, 0, 0, 0, .inl (-1), []) ::
  (163, .ireturn, 1, 0, 0, 0, .inl 0, []) :: []
def s_X8_fed_156 : List mE := (156, .iinc 3 1, 3, 3, 0, 0, .inl (nI 1), []) ::
  (159, .goto (-107), 3, 52, 0, 0, .inl 0, []) :: s_X8_fed_162
def s_X8_fed_150 : List mE := (150, .iinc 4 1, 3, 4, 0, 0, .inl (nI 1), []) ::
  (153, .goto (-92), 3, 61, 0, 0, .inl 0, []) :: s_X8_fed_156
def s_X8_fed_61 : List mE := (61, .iload 4, 2, 4, 0, 0, .inl 0, []) ::
  (63, .aload_n 0, 1, 0, 0, 0, .inl 0, []) ::
  (64, .getfield 19, 3, 7, 1, 3, .inr (.inr (0, 0, 4)), [479]) ::
  (67, .getfield 178, 3, 0, 0, 0, .inl 0, [246]) ::
  (70, .if_icmp .ge 86, 3, 156, 0, 0, .inl 0, []) ::
  (73, .aload_n 0, 1, 0, 0, 0, .inl 0, []) ::
  (74, .getfield 23, 3, 7, 2, 3, .inr (.inr (0, 0, 16)), [480]) ::
  (77, .getfield 160, 3, 0, 14, 3, .inr (.inr (16, 48, 11)), [287]) ::
  (80, .iload_n 2, 1, 2, 0, 0, .inl 0, []) ::
  (81, .iload 4, 2, 4, 0, 0, .inl 0, []) ::
  (83, .iadd, 1, 0, 0, 0, .inl 0, []) ::
  (84, .aload_n 0, 1, 0, 0, 0, .inl 0, []) ::
  (85, .getfield 19, 3, 7, 1, 3, .inr (.inr (0, 0, 4)), [479]) ::
  (88, .getfield 160, 3, 0, 14, 3, .inr (.inr (16, 48, 11)), [287]) ::
  (91, .iload_n 2, 1, 2, 0, 0, .inl 0, []) ::
  (92, .iload 4, 2, 4, 0, 0, .inl 0, []) ::
  (94, .iadd, 1, 0, 0, 0, .inl 0, []) ::
  (95, .iaload, 1, 0, 0, 0, .inl 0, []) ::
  (96, .iload_n 3, 1, 3, 0, 0, .inl 0, []) ::
  (97, .iadd, 1, 0, 0, 0, .inl 0, []) ::
  (98, .iastore, 1, 0, 0, 0, .inl 0, []) ::
  (99, .aload_n 0, 1, 0, 0, 0, .inl 0, []) ::
  (100, .getfield 53, 3, 7, 8, 3, .inr (.inr (3, 0, 62)), [486]) ::
  (103, .aload_n 0, 1, 0, 0, 0, .inl 0, []) ::
  (104, .getfield 23, 3, 7, 2, 3, .inr (.inr (0, 0, 16)), [480]) ::
  (107, .iload_n 1, 1, 1, 0, 0, .inl 0, []) ::
  (108, .invokevirtual 311, 3, 38, 3, 1, .inl 0, [930, 3]) ::
  (111, .istore 5, 2, 5, 0, 0, .inl 0, []) ::
  (113, .aload_n 0, 1, 0, 0, 0, .inl 0, []) ::
  (114, .getfield 23, 3, 7, 2, 3, .inr (.inr (0, 0, 16)), [480]) ::
  (117, .getfield 160, 3, 0, 14, 3, .inr (.inr (16, 48, 11)), [287]) ::
  (120, .iload_n 2, 1, 2, 0, 0, .inl 0, []) ::
  (121, .iload 4, 2, 4, 0, 0, .inl 0, []) ::
  (123, .iadd, 1, 0, 0, 0, .inl 0, []) ::
  (124, .aload_n 0, 1, 0, 0, 0, .inl 0, []) ::
  (125, .getfield 19, 3, 7, 1, 3, .inr (.inr (0, 0, 4)), [479]) ::
  (128, .getfield 160, 3, 0, 14, 3, .inr (.inr (16, 48, 11)), [287]) ::
  (131, .iload_n 2, 1, 2, 0, 0, .inl 0, []) ::
  (132, .iload 4, 2, 4, 0, 0, .inl 0, []) ::
  (134, .iadd, 1, 0, 0, 0, .inl 0, []) ::
  (135, .iaload, 1, 0, 0, 0, .inl 0, []) ::
  (136, .iastore, 1, 0, 0, 0, .inl 0, []) ::
  (137, .iload 5, 2, 5, 0, 0, .inl 0, []) ::
  (139, .ifCond .eq 11, 3, 150, 0, 0, .inl 0, []) ::
  (142, .bipush 10, 2, 0, 0, 0, .inl (nI 10), []) ::
  (144, .iload_n 3, 1, 3, 0, 0, .inl 0, []) ::
  (145, .imul, 1, 0, 0, 0, .inl 0, []) ::
  (146, .iload 4, 2, 4, 0, 0, .inl 0, []) ::
  (148, .iadd, 1, 0, 0, 0, .inl 0, []) ::
  (149, .ireturn, 1, 0, 0, 0, .inl 0, []) :: s_X8_fed_150
def s_X8_fed_52 : List mE := (52, .iload_n 3, 1, 3, 0, 0, .inl 0, []) ::
  (53, .bipush 99, 2, 0, 0, 0, .inl (nI 99), []) ::
  (55, .if_icmp .gt 107, 3, 162, 0, 0, .inl 0, []) ::
  (58, .iconst 0, 1, 0, 0, 0, .inl (nI 0), []) ::
  (59, .istore 4, 2, 4, 0, 0, .inl 0, []) :: s_X8_fed_61
def s_X8_fed_31 : List mE := (31, .aload_n 0, 1, 0, 0, 0, .inl 0, []) ::
  (32, .getfield 23, 3, 7, 2, 3, .inr (.inr (0, 0, 16)), [480]) ::
  (35, .aload_n 0, 1, 0, 0, 0, .inl 0, []) ::
  (36, .getfield 19, 3, 7, 1, 3, .inr (.inr (0, 0, 4)), [479]) ::
  (39, .invokevirtual 115, 3, 4, 2, 0, .inl 0, [659, 0]) ::
  (42, .iload_n 1, 1, 1, 0, 0, .inl 0, []) ::
  (43, .invokestatic 318, 3, 95, 1, 1, .inl 0, [957]) ::
  (46, .bipush 6, 2, 0, 0, 0, .inl (nI 6), []) ::
  (48, .imul, 1, 0, 0, 0, .inl 0, []) ::
  (49, .istore_n 2, 1, 2, 0, 0, .inl 0, []) ::
  (50, .iconst 1, 1, 0, 0, 0, .inl (nI 1), []) ::
  (51, .istore_n 3, 1, 3, 0, 0, .inl 0, []) :: s_X8_fed_52
def s_X8_fed_14 : List mE := (14, .aload_n 0, 1, 0, 0, 0, .inl 0, []) ::
  (15, .getfield 53, 3, 7, 8, 3, .inr (.inr (3, 0, 62)), [486]) ::
  (18, .aload_n 0, 1, 0, 0, 0, .inl 0, []) ::
  (19, .getfield 19, 3, 7, 1, 3, .inr (.inr (0, 0, 4)), [479]) ::
  (22, .iload_n 1, 1, 1, 0, 0, .inl 0, []) ::
  (23, .invokevirtual 311, 3, 38, 3, 1, .inl 0, [930, 3]) ::
  (26, .ifCond .eq 5, 3, 31, 0, 0, .inl 0, []) ::
  (29, .iconst 0, 1, 0, 0, 0, .inl (nI 0), []) ::
  (30, .ireturn, 1, 0, 0, 0, .inl 0, []) :: s_X8_fed_31
def s_X8_fed_12 : List mE := (12, .iconst (-1), 1, 0, 0, 0, .inl (-1), []) ::
  (13, .ireturn, 1, 0, 0, 0, .inl 0, []) :: s_X8_fed_14
def s_X8_fed_0 : List mE := (0, .iload_n 1, 1, 1, 0, 0, .inl 0, []) ::
  (1, .ifCond .eq 11, 3, 12, 0, 0, .inl 0, []) ::
  (4, .aload_n 0, 1, 0, 0, 0, .inl 0, []) ::
  (5, .iload_n 1, 1, 1, 0, 0, .inl 0, []) ::
  (6, .invokevirtual 268, 3, 104, 2, 1, .inl 0, [874, 7]) ::
  (9, .ifCond .ne 5, 3, 14, 0, 0, .inl 0, []) :: s_X8_fed_12
def k_X8_fed : List mE := s_X8_fed_0
set_option maxRecDepth 100000 in
theorem t_X8_fed_0 : dropTo 0 k_X8_fed = s_X8_fed_0 := rfl
set_option maxRecDepth 100000 in
theorem t_X8_fed_12 : dropTo 12 k_X8_fed = s_X8_fed_12 := rfl
set_option maxRecDepth 100000 in
theorem t_X8_fed_14 : dropTo 14 k_X8_fed = s_X8_fed_14 := rfl
set_option maxRecDepth 100000 in
theorem t_X8_fed_31 : dropTo 31 k_X8_fed = s_X8_fed_31 := rfl
set_option maxRecDepth 100000 in
theorem t_X8_fed_52 : dropTo 52 k_X8_fed = s_X8_fed_52 := rfl
set_option maxRecDepth 100000 in
theorem t_X8_fed_61 : dropTo 61 k_X8_fed = s_X8_fed_61 := rfl
set_option maxRecDepth 100000 in
theorem t_X8_fed_150 : dropTo 150 k_X8_fed = s_X8_fed_150 := rfl
set_option maxRecDepth 100000 in
theorem t_X8_fed_156 : dropTo 156 k_X8_fed = s_X8_fed_156 := rfl
set_option maxRecDepth 100000 in
theorem t_X8_fed_162 : dropTo 162 k_X8_fed = s_X8_fed_162 := rfl
theorem ok_X8_fed : mOkF m_X8_fed k_X8_fed = true := by decide +kernel
theorem cm_X8_fed : mChkM m_X8_fed = true := by decide +kernel
def s_X8_feed_12 : List mE := (12, .aload_n 0, 1, 0, 0, 0, .inl 0, []) ::
  (13, .getfield 12, 3, 7, 0, 3, .inr (.inr (5, 0, 1)), [478]) ::
  (16, .iload_n 1, 1, 1, 0, 0, .inl 0, []) ::
  (17, .invokevirtual 98, 3, 68, 2, 0, .inl 0, [542, 5]) ::
  (20, .aload_n 0, 1, 0, 0, 0, .inl 0, []) ::
  (21, .getfield 12, 3, 7, 0, 3, .inr (.inr (5, 0, 1)), [478]) ::
  (24, .iload_n 2, 1, 2, 0, 0, .inl 0, []) ::
  (25, .invokevirtual 98, 3, 68, 2, 0, .inl 0, [542, 5]) ::
  (28, .aload_n 0, 1, 0, 0, 0, .inl 0, []) ::
  (29, .getfield 12, 3, 7, 0, 3, .inr (.inr (5, 0, 1)), [478]) ::
  (32, .iload_n 3, 1, 3, 0, 0, .inl 0, []) ::
  (33, .invokevirtual 98, 3, 68, 2, 0, .inl 0, [542, 5]) ::
  (36, .aload_n 0, 1, 0, 0, 0, .inl 0, []) ::
  (37, .getfield 12, 3, 7, 0, 3, .inr (.inr (5, 0, 1)), [478]) ::
  (40, .iload 4, 2, 4, 0, 0, .inl 0, []) ::
  (42, .invokevirtual 98, 3, 68, 2, 0, .inl 0, [542, 5]) ::
  (45, .aload_n 0, 1, 0, 0, 0, .inl 0, []) ::
  (46, .getfield 12, 3, 7, 0, 3, .inr (.inr (5, 0, 1)), [478]) ::
  (49, .iload 5, 2, 5, 0, 0, .inl 0, []) ::
  (51, .invokevirtual 98, 3, 68, 2, 0, .inl 0, [542, 5]) ::
  (54, .aload_n 0, 1, 0, 0, 0, .inl 0, []) ::
  (55, .getfield 12, 3, 7, 0, 3, .inr (.inr (5, 0, 1)), [478]) ::
  (58, .getfield 102, 3, 5, 2, 0, .inl 0, [189]) ::
  (61, .ireturn, 1, 0, 0, 0, .inl 0, []) :: []
def s_X8_feed_0 : List mE := (0, .aload_n 0, 1, 0, 0, 0, .inl 0, []) ::
  (1, .getfield 12, 3, 7, 0, 3, .inr (.inr (5, 0, 1)), [478]) ::
  (4, .invokevirtual 94, 3, 63, 1, 1, .inl 0, [538, 5]) ::
  (7, .ifCond .ne 5, 3, 12, 0, 0, .inl 0, []) ::
  (10, .iconst (-1), 1, 0, 0, 0, .inl (-1), []) ::
  (11, .ireturn, 1, 0, 0, 0, .inl 0, []) :: s_X8_feed_12
def k_X8_feed : List mE := s_X8_feed_0
set_option maxRecDepth 100000 in
theorem t_X8_feed_0 : dropTo 0 k_X8_feed = s_X8_feed_0 := rfl
set_option maxRecDepth 100000 in
theorem t_X8_feed_12 : dropTo 12 k_X8_feed = s_X8_feed_12 := rfl
theorem ok_X8_feed : mOkF m_X8_feed k_X8_feed = true := by decide +kernel
theorem cm_X8_feed : mChkM m_X8_feed = true := by decide +kernel
def s_X8_firstHourOfPeriod_110 : List mE := (110, .iconst (-1), 1, 0, 0, 0, .inl (-1), []) ::
  (111, .ireturn, 1, 0, 0, 0, .inl 0, []) :: []
def s_X8_firstHourOfPeriod_104 : List mE := (104, .iinc 2 1, 3, 2, 0, 0, .inl (nI 1), []) ::
  (107, .goto (-64), 3, 43, 0, 0, .inl 0, []) :: s_X8_firstHourOfPeriod_110
def s_X8_firstHourOfPeriod_43 : List mE := (43, .iload_n 2, 1, 2, 0, 0, .inl 0, []) ::
  (44, .iload_n 1, 1, 1, 0, 0, .inl 0, []) ::
  (45, .iadd, 1, 0, 0, 0, .inl 0, []) ::
  (46, .sipush 200, 3, 0, 0, 0, .inl (nI 200), []) ::
  (49, .if_icmp .ge 61, 3, 110, 0, 0, .inl 0, []) ::
  (52, .aload_n 0, 1, 0, 0, 0, .inl 0, []) ::
  (53, .getfield 53, 3, 7, 8, 3, .inr (.inr (3, 0, 62)), [486]) ::
  (56, .aload_n 0, 1, 0, 0, 0, .inl 0, []) ::
  (57, .getfield 19, 3, 7, 1, 3, .inr (.inr (0, 0, 4)), [479]) ::
  (60, .aload_n 0, 1, 0, 0, 0, .inl 0, []) ::
  (61, .getfield 19, 3, 7, 1, 3, .inr (.inr (0, 0, 4)), [479]) ::
  (64, .invokevirtual 181, 3, 2, 1, 1, .inl 0, [728, 0]) ::
  (67, .invokevirtual 205, 3, 42, 3, 0, .inl 0, [736, 3]) ::
  (70, .aload_n 0, 1, 0, 0, 0, .inl 0, []) ::
  (71, .getfield 56, 3, 7, 9, 3, .inr (.inr (3, 0, 74)), [487]) ::
  (74, .aload_n 0, 1, 0, 0, 0, .inl 0, []) ::
  (75, .getfield 19, 3, 7, 1, 3, .inr (.inr (0, 0, 4)), [479]) ::
  (78, .aload_n 0, 1, 0, 0, 0, .inl 0, []) ::
  (79, .getfield 19, 3, 7, 1, 3, .inr (.inr (0, 0, 4)), [479]) ::
  (82, .invokevirtual 181, 3, 2, 1, 1, .inl 0, [728, 0]) ::
  (85, .invokevirtual 205, 3, 42, 3, 0, .inl 0, [736, 3]) ::
  (88, .aload_n 0, 1, 0, 0, 0, .inl 0, []) ::
  (89, .getfield 53, 3, 7, 8, 3, .inr (.inr (3, 0, 62)), [486]) ::
  (92, .aload_n 0, 1, 0, 0, 0, .inl 0, []) ::
  (93, .getfield 56, 3, 7, 9, 3, .inr (.inr (3, 0, 74)), [487]) ::
  (96, .invokevirtual 264, 3, 37, 2, 1, .inl 0, [862, 3]) ::
  (99, .ifCond .eq 5, 3, 104, 0, 0, .inl 0, []) ::
  (102, .iload_n 2, 1, 2, 0, 0, .inl 0, []) ::
  (103, .ireturn, 1, 0, 0, 0, .inl 0, []) :: s_X8_firstHourOfPeriod_104
def s_X8_firstHourOfPeriod_0 : List mE := (0, .aload_n 0, 1, 0, 0, 0, .inl 0, []) ::
  (1, .getfield 53, 3, 7, 8, 3, .inr (.inr (3, 0, 62)), [486]) ::
  (4, .aload_n 0, 1, 0, 0, 0, .inl 0, []) ::
  (5, .getfield 19, 3, 7, 1, 3, .inr (.inr (0, 0, 4)), [479]) ::
  (8, .invokevirtual 185, 3, 44, 2, 0, .inl 0, [698, 3]) ::
  (11, .aload_n 0, 1, 0, 0, 0, .inl 0, []) ::
  (12, .getfield 53, 3, 7, 8, 3, .inr (.inr (3, 0, 62)), [486]) ::
  (15, .aload_n 0, 1, 0, 0, 0, .inl 0, []) ::
  (16, .getfield 19, 3, 7, 1, 3, .inr (.inr (0, 0, 4)), [479]) ::
  (19, .aload_n 0, 1, 0, 0, 0, .inl 0, []) ::
  (20, .getfield 19, 3, 7, 1, 3, .inr (.inr (0, 0, 4)), [479]) ::
  (23, .invokevirtual 181, 3, 2, 1, 1, .inl 0, [728, 0]) ::
  (26, .iload_n 1, 1, 1, 0, 0, .inl 0, []) ::
  (27, .invokevirtual 254, 3, 43, 4, 0, .inl 0, [845, 3]) ::
  (30, .aload_n 0, 1, 0, 0, 0, .inl 0, []) ::
  (31, .getfield 56, 3, 7, 9, 3, .inr (.inr (3, 0, 74)), [487]) ::
  (34, .aload_n 0, 1, 0, 0, 0, .inl 0, []) ::
  (35, .getfield 19, 3, 7, 1, 3, .inr (.inr (0, 0, 4)), [479]) ::
  (38, .invokevirtual 185, 3, 44, 2, 0, .inl 0, [698, 3]) ::
  (41, .iconst 0, 1, 0, 0, 0, .inl (nI 0), []) ::
  (42, .istore_n 2, 1, 2, 0, 0, .inl 0, []) :: s_X8_firstHourOfPeriod_43
def k_X8_firstHourOfPeriod : List mE := s_X8_firstHourOfPeriod_0
set_option maxRecDepth 100000 in
theorem t_X8_firstHourOfPeriod_0 : dropTo 0 k_X8_firstHourOfPeriod = s_X8_firstHourOfPeriod_0 := rfl
set_option maxRecDepth 100000 in
theorem t_X8_firstHourOfPeriod_43 : dropTo 43 k_X8_firstHourOfPeriod = s_X8_firstHourOfPeriod_43 := rfl
set_option maxRecDepth 100000 in
theorem t_X8_firstHourOfPeriod_104 : dropTo 104 k_X8_firstHourOfPeriod = s_X8_firstHourOfPeriod_104 := rfl
set_option maxRecDepth 100000 in
theorem t_X8_firstHourOfPeriod_110 : dropTo 110 k_X8_firstHourOfPeriod = s_X8_firstHourOfPeriod_110 := rfl
theorem ok_X8_firstHourOfPeriod : mOkF m_X8_firstHourOfPeriod k_X8_firstHourOfPeriod = true := by decide +kernel
theorem cm_X8_firstHourOfPeriod : mChkM m_X8_firstHourOfPeriod = true := by decide +kernel
def s_X8_firstOf_25 : List mE := (25, .iconst 0, 1, 0, 0, 0, .inl (nI 0), []) ::
  (26, .ireturn, 1, 0, 0, 0, .inl 0, []) :: []
def s_X8_firstOf_19 : List mE := (19, .iinc 1 1, 3, 1, 0, 0, .inl (nI 1), []) ::
  (22, .goto (-20), 3, 2, 0, 0, .inl 0, []) :: s_X8_firstOf_25
def s_X8_firstOf_2 : List mE := (2, .iload_n 1, 1, 1, 0, 0, .inl 0, []) ::
  (3, .bipush 8, 2, 0, 0, 0, .inl (nI 8), []) ::
  (5, .if_icmp .ge 20, 3, 25, 0, 0, .inl 0, []) ::
  (8, .iload_n 0, 1, 0, 0, 0, .inl 0, []) ::
  (9, .iload_n 1, 1, 1, 0, 0, .inl 0, []) ::
  (10, .ishr, 1, 0, 0, 0, .inl 0, []) ::
  (11, .iconst 1, 1, 0, 0, 0, .inl (nI 1), []) ::
  (12, .iand, 1, 0, 0, 0, .inl 0, []) ::
  (13, .iconst 1, 1, 0, 0, 0, .inl (nI 1), []) ::
  (14, .if_icmp .ne 5, 3, 19, 0, 0, .inl 0, []) ::
  (17, .iload_n 1, 1, 1, 0, 0, .inl 0, []) ::
  (18, .ireturn, 1, 0, 0, 0, .inl 0, []) :: s_X8_firstOf_19
def s_X8_firstOf_0 : List mE := (0, .iconst 0, 1, 0, 0, 0, .inl (nI 0), []) ::
  (1, .istore_n 1, 1, 1, 0, 0, .inl 0, []) :: s_X8_firstOf_2
def k_X8_firstOf : List mE := s_X8_firstOf_0
set_option maxRecDepth 100000 in
theorem t_X8_firstOf_0 : dropTo 0 k_X8_firstOf = s_X8_firstOf_0 := rfl
set_option maxRecDepth 100000 in
theorem t_X8_firstOf_2 : dropTo 2 k_X8_firstOf = s_X8_firstOf_2 := rfl
set_option maxRecDepth 100000 in
theorem t_X8_firstOf_19 : dropTo 19 k_X8_firstOf = s_X8_firstOf_19 := rfl
set_option maxRecDepth 100000 in
theorem t_X8_firstOf_25 : dropTo 25 k_X8_firstOf = s_X8_firstOf_25 := rfl
theorem ok_X8_firstOf : mOkF m_X8_firstOf k_X8_firstOf = true := by decide +kernel
theorem cm_X8_firstOf : mChkM m_X8_firstOf = true := by decide +kernel
def s_X8_goes_107 : List mE := (107, .iload_n 3, 1, 3, 0, 0, .inl 0, []) ::
  (108, .ireturn, 1, 0, 0, 0, .inl 0, []) :: []
def s_X8_goes_101 : List mE := (101, .iinc 4 1, 3, 4, 0, 0, .inl (nI 1), []) ::
  (104, .goto (-46), 3, 58, 0, 0, .inl 0, []) :: s_X8_goes_107
def s_X8_goes_58 : List mE := (58, .iload 4, 2, 4, 0, 0, .inl 0, []) ::
  (60, .bipush 12, 2, 0, 0, 0, .inl (nI 12), []) ::
  (62, .if_icmp .ge 45, 3, 107, 0, 0, .inl 0, []) ::
  (65, .aload_n 0, 1, 0, 0, 0, .inl 0, []) ::
  (66, .getfield 53, 3, 7, 8, 3, .inr (.inr (3, 0, 62)), [486]) ::
  (69, .aload_n 0, 1, 0, 0, 0, .inl 0, []) ::
  (70, .getfield 19, 3, 7, 1, 3, .inr (.inr (0, 0, 4)), [479]) ::
  (73, .aload_n 0, 1, 0, 0, 0, .inl 0, []) ::
  (74, .getfield 19, 3, 7, 1, 3, .inr (.inr (0, 0, 4)), [479]) ::
  (77, .invokevirtual 181, 3, 2, 1, 1, .inl 0, [728, 0]) ::
  (80, .invokevirtual 205, 3, 42, 3, 0, .inl 0, [736, 3]) ::
  (83, .aload_n 0, 1, 0, 0, 0, .inl 0, []) ::
  (84, .getfield 53, 3, 7, 8, 3, .inr (.inr (3, 0, 62)), [486]) ::
  (87, .iload_n 1, 1, 1, 0, 0, .inl 0, []) ::
  (88, .invokevirtual 225, 3, 48, 2, 1, .inl 0, [780, 3]) ::
  (91, .ifCond .eq 10, 3, 101, 0, 0, .inl 0, []) ::
  (94, .iload_n 3, 1, 3, 0, 0, .inl 0, []) ::
  (95, .iconst 1, 1, 0, 0, 0, .inl (nI 1), []) ::
  (96, .iload 4, 2, 4, 0, 0, .inl 0, []) ::
  (98, .ishl, 1, 0, 0, 0, .inl 0, []) ::
  (99, .ior, 1, 0, 0, 0, .inl 0, []) ::
  (100, .istore_n 3, 1, 3, 0, 0, .inl 0, []) :: s_X8_goes_101
def s_X8_goes_20 : List mE := (20, .aload_n 0, 1, 0, 0, 0, .inl 0, []) ::
  (21, .getfield 53, 3, 7, 8, 3, .inr (.inr (3, 0, 62)), [486]) ::
  (24, .aload_n 0, 1, 0, 0, 0, .inl 0, []) ::
  (25, .getfield 19, 3, 7, 1, 3, .inr (.inr (0, 0, 4)), [479]) ::
  (28, .invokevirtual 185, 3, 44, 2, 0, .inl 0, [698, 3]) ::
  (31, .aload_n 0, 1, 0, 0, 0, .inl 0, []) ::
  (32, .getfield 53, 3, 7, 8, 3, .inr (.inr (3, 0, 62)), [486]) ::
  (35, .aload_n 0, 1, 0, 0, 0, .inl 0, []) ::
  (36, .getfield 19, 3, 7, 1, 3, .inr (.inr (0, 0, 4)), [479]) ::
  (39, .aload_n 0, 1, 0, 0, 0, .inl 0, []) ::
  (40, .getfield 19, 3, 7, 1, 3, .inr (.inr (0, 0, 4)), [479]) ::
  (43, .invokevirtual 181, 3, 2, 1, 1, .inl 0, [728, 0]) ::
  (46, .iload_n 2, 1, 2, 0, 0, .inl 0, []) ::
  (47, .bipush 12, 2, 0, 0, 0, .inl (nI 12), []) ::
  (49, .imul, 1, 0, 0, 0, .inl 0, []) ::
  (50, .invokevirtual 254, 3, 43, 4, 0, .inl 0, [845, 3]) ::
  (53, .iconst 0, 1, 0, 0, 0, .inl (nI 0), []) ::
  (54, .istore_n 3, 1, 3, 0, 0, .inl 0, []) ::
  (55, .iconst 0, 1, 0, 0, 0, .inl (nI 0), []) ::
  (56, .istore 4, 2, 4, 0, 0, .inl 0, []) :: s_X8_goes_58
def s_X8_goes_18 : List mE := (18, .iconst (-1), 1, 0, 0, 0, .inl (-1), []) ::
  (19, .ireturn, 1, 0, 0, 0, .inl 0, []) :: s_X8_goes_20
def s_X8_goes_0 : List mE := (0, .aload_n 0, 1, 0, 0, 0, .inl 0, []) ::
  (1, .iload_n 1, 1, 1, 0, 0, .inl 0, []) ::
  (2, .invokevirtual 130, 3, 106, 2, 1, .inl 0, [682, 7]) ::
  (5, .ifCond .eq 13, 3, 18, 0, 0, .inl 0, []) ::
  (8, .iload_n 2, 1, 2, 0, 0, .inl 0, []) ::
  (9, .ifCond .lt 9, 3, 18, 0, 0, .inl 0, []) ::
  (12, .iload_n 2, 1, 2, 0, 0, .inl 0, []) ::
  (13, .bipush 16, 2, 0, 0, 0, .inl (nI 16), []) ::
  (15, .if_icmp .lt 5, 3, 20, 0, 0, .inl 0, []) :: s_X8_goes_18
def k_X8_goes : List mE := s_X8_goes_0
set_option maxRecDepth 100000 in
theorem t_X8_goes_0 : dropTo 0 k_X8_goes = s_X8_goes_0 := rfl
set_option maxRecDepth 100000 in
theorem t_X8_goes_18 : dropTo 18 k_X8_goes = s_X8_goes_18 := rfl
set_option maxRecDepth 100000 in
theorem t_X8_goes_20 : dropTo 20 k_X8_goes = s_X8_goes_20 := rfl
set_option maxRecDepth 100000 in
theorem t_X8_goes_58 : dropTo 58 k_X8_goes = s_X8_goes_58 := rfl
set_option maxRecDepth 100000 in
theorem t_X8_goes_101 : dropTo 101 k_X8_goes = s_X8_goes_101 := rfl
set_option maxRecDepth 100000 in
theorem t_X8_goes_107 : dropTo 107 k_X8_goes = s_X8_goes_107 := rfl
theorem ok_X8_goes : mOkF m_X8_goes k_X8_goes = true := by decide +kernel
theorem cm_X8_goes : mChkM m_X8_goes = true := by decide +kernel
def s_X8_goodsOf_33 : List mE := (33, .iload_n 2, 1, 2, 0, 0, .inl 0, []) ::
  (34, .ireturn, 1, 0, 0, 0, .inl 0, []) :: []
def s_X8_goodsOf_27 : List mE := (27, .iinc 3 1, 3, 3, 0, 0, .inl (nI 1), []) ::
  (30, .goto (-26), 3, 4, 0, 0, .inl 0, []) :: s_X8_goodsOf_33
def s_X8_goodsOf_4 : List mE := (4, .iload_n 3, 1, 3, 0, 0, .inl 0, []) ::
  (5, .bipush 6, 2, 0, 0, 0, .inl (nI 6), []) ::
  (7, .if_icmp .ge 26, 3, 33, 0, 0, .inl 0, []) ::
  (10, .aload_n 0, 1, 0, 0, 0, .inl 0, []) ::
  (11, .iload_n 1, 1, 1, 0, 0, .inl 0, []) ::
  (12, .bipush 6, 2, 0, 0, 0, .inl (nI 6), []) ::
  (14, .imul, 1, 0, 0, 0, .inl 0, []) ::
  (15, .iload_n 3, 1, 3, 0, 0, .inl 0, []) ::
  (16, .iadd, 1, 0, 0, 0, .inl 0, []) ::
  (17, .iaload, 1, 0, 0, 0, .inl 0, []) ::
  (18, .ifCond .le 9, 3, 27, 0, 0, .inl 0, []) ::
  (21, .iload_n 2, 1, 2, 0, 0, .inl 0, []) ::
  (22, .iconst 1, 1, 0, 0, 0, .inl (nI 1), []) ::
  (23, .iload_n 3, 1, 3, 0, 0, .inl 0, []) ::
  (24, .ishl, 1, 0, 0, 0, .inl 0, []) ::
  (25, .ior, 1, 0, 0, 0, .inl 0, []) ::
  (26, .istore_n 2, 1, 2, 0, 0, .inl 0, []) :: s_X8_goodsOf_27
def s_X8_goodsOf_0 : List mE := (0, .iconst 0, 1, 0, 0, 0, .inl (nI 0), []) ::
  (1, .istore_n 2, 1, 2, 0, 0, .inl 0, []) ::
  (2, .iconst 0, 1, 0, 0, 0, .inl (nI 0), []) ::
  (3, .istore_n 3, 1, 3, 0, 0, .inl 0, []) :: s_X8_goodsOf_4
def k_X8_goodsOf : List mE := s_X8_goodsOf_0
set_option maxRecDepth 100000 in
theorem t_X8_goodsOf_0 : dropTo 0 k_X8_goodsOf = s_X8_goodsOf_0 := rfl
set_option maxRecDepth 100000 in
theorem t_X8_goodsOf_4 : dropTo 4 k_X8_goodsOf = s_X8_goodsOf_4 := rfl
set_option maxRecDepth 100000 in
theorem t_X8_goodsOf_27 : dropTo 27 k_X8_goodsOf = s_X8_goodsOf_27 := rfl
set_option maxRecDepth 100000 in
theorem t_X8_goodsOf_33 : dropTo 33 k_X8_goodsOf = s_X8_goodsOf_33 := rfl
theorem ok_X8_goodsOf : mOkF m_X8_goodsOf k_X8_goodsOf = true := by decide +kernel
theorem cm_X8_goodsOf : mChkM m_X8_goodsOf = true := by decide +kernel
def s_X8_greatest_17 : List mE := (17, .ireturn, 1, 0, 0, 0, .inl 0, []) :: []
def s_X8_greatest_16 : List mE := (16, .iconst (-1), 1, 0, 0, 0, .inl (-1), []) :: s_X8_greatest_17
def s_X8_greatest_0 : List mE := (0, .aload_n 0, 1, 0, 0, 0, .inl 0, []) ::
  (1, .iload_n 1, 1, 1, 0, 0, .inl 0, []) ::
  (2, .invokevirtual 268, 3, 104, 2, 1, .inl 0, [874, 7]) ::
  (5, .ifCond .eq 11, 3, 16, 0, 0, .inl 0, []) ::
  (8, .aload_n 0, 1, 0, 0, 0, .inl 0, []) ::
  (9, .iload_n 1, 1, 1, 0, 0, .inl 0, []) ::
  (10, .invokevirtual 315, 3, 99, 2, 1, .inl 0, [945, 7]) ::
  (13, .goto 4, 3, 17, 0, 0, .inl 0, []) :: s_X8_greatest_16
def k_X8_greatest : List mE := s_X8_greatest_0
set_option maxRecDepth 100000 in
theorem t_X8_greatest_0 : dropTo 0 k_X8_greatest = s_X8_greatest_0 := rfl
set_option maxRecDepth 100000 in
theorem t_X8_greatest_16 : dropTo 16 k_X8_greatest = s_X8_greatest_16 := rfl
set_option maxRecDepth 100000 in
theorem t_X8_greatest_17 : dropTo 17 k_X8_greatest = s_X8_greatest_17 := rfl
theorem ok_X8_greatest : mOkF m_X8_greatest k_X8_greatest = true := by decide +kernel
theorem cm_X8_greatest : mChkM m_X8_greatest = true := by decide +kernel
def s_X8_greatestOf_63 : List mE := (63, .iload_n 2, 1, 2, 0, 0, .inl 0, []) ::
  (64, .ireturn, 1, 0, 0, 0, .inl 0, []) :: []
def s_X8_greatestOf_57 : List mE := (57, .iinc 3 1, 3, 3, 0, 0, .inl (nI 1), []) ::
  (60, .goto (-56), 3, 4, 0, 0, .inl 0, []) :: s_X8_greatestOf_63
def s_X8_greatestOf_22 : List mE := (22, .istore 4, 2, 4, 0, 0, .inl 0, []) ::
  (24, .iload 4, 2, 4, 0, 0, .inl 0, []) ::
  (26, .ifCond .eq 31, 3, 57, 0, 0, .inl 0, []) ::
  (29, .iload_n 3, 1, 3, 0, 0, .inl 0, []) ::
  (30, .invokestatic 284, 3, 0, 1, 1, .inl 0, [901]) ::
  (33, .iload_n 2, 1, 2, 0, 0, .inl 0, []) ::
  (34, .invokestatic 284, 3, 0, 1, 1, .inl 0, [901]) ::
  (37, .if_icmp .le 20, 3, 57, 0, 0, .inl 0, []) ::
  (40, .aload_n 0, 1, 0, 0, 0, .inl 0, []) ::
  (41, .getfield 53, 3, 7, 8, 3, .inr (.inr (3, 0, 62)), [486]) ::
  (44, .aload_n 0, 1, 0, 0, 0, .inl 0, []) ::
  (45, .getfield 19, 3, 7, 1, 3, .inr (.inr (0, 0, 4)), [479]) ::
  (48, .iload_n 3, 1, 3, 0, 0, .inl 0, []) ::
  (49, .invokevirtual 311, 3, 38, 3, 1, .inl 0, [930, 3]) ::
  (52, .ifCond .eq 5, 3, 57, 0, 0, .inl 0, []) ::
  (55, .iload_n 3, 1, 3, 0, 0, .inl 0, []) ::
  (56, .istore_n 2, 1, 2, 0, 0, .inl 0, []) :: s_X8_greatestOf_57
def s_X8_greatestOf_21 : List mE := (21, .iconst 0, 1, 0, 0, 0, .inl (nI 0), []) :: s_X8_greatestOf_22
def s_X8_greatestOf_4 : List mE := (4, .iload_n 3, 1, 3, 0, 0, .inl 0, []) ::
  (5, .iload_n 1, 1, 1, 0, 0, .inl 0, []) ::
  (6, .if_icmp .gt 57, 3, 63, 0, 0, .inl 0, []) ::
  (9, .iload_n 3, 1, 3, 0, 0, .inl 0, []) ::
  (10, .iload_n 1, 1, 1, 0, 0, .inl 0, []) ::
  (11, .iconst (-1), 1, 0, 0, 0, .inl (-1), []) ::
  (12, .ixor, 1, 0, 0, 0, .inl 0, []) ::
  (13, .iand, 1, 0, 0, 0, .inl 0, []) ::
  (14, .ifCond .ne 7, 3, 21, 0, 0, .inl 0, []) ::
  (17, .iconst 1, 1, 0, 0, 0, .inl (nI 1), []) ::
  (18, .goto 4, 3, 22, 0, 0, .inl 0, []) :: s_X8_greatestOf_21
def s_X8_greatestOf_0 : List mE := (0, .iconst 0, 1, 0, 0, 0, .inl (nI 0), []) ::
  (1, .istore_n 2, 1, 2, 0, 0, .inl 0, []) ::
  (2, .iconst 1, 1, 0, 0, 0, .inl (nI 1), []) ::
  (3, .istore_n 3, 1, 3, 0, 0, .inl 0, []) :: s_X8_greatestOf_4
def k_X8_greatestOf : List mE := s_X8_greatestOf_0
set_option maxRecDepth 100000 in
theorem t_X8_greatestOf_0 : dropTo 0 k_X8_greatestOf = s_X8_greatestOf_0 := rfl
set_option maxRecDepth 100000 in
theorem t_X8_greatestOf_4 : dropTo 4 k_X8_greatestOf = s_X8_greatestOf_4 := rfl
set_option maxRecDepth 100000 in
theorem t_X8_greatestOf_21 : dropTo 21 k_X8_greatestOf = s_X8_greatestOf_21 := rfl
set_option maxRecDepth 100000 in
theorem t_X8_greatestOf_22 : dropTo 22 k_X8_greatestOf = s_X8_greatestOf_22 := rfl
set_option maxRecDepth 100000 in
theorem t_X8_greatestOf_57 : dropTo 57 k_X8_greatestOf = s_X8_greatestOf_57 := rfl
set_option maxRecDepth 100000 in
theorem t_X8_greatestOf_63 : dropTo 63 k_X8_greatestOf = s_X8_greatestOf_63 := rfl
theorem ok_X8_greatestOf : mOkF m_X8_greatestOf k_X8_greatestOf = true := by decide +kernel
theorem cm_X8_greatestOf : mChkM m_X8_greatestOf = true := by decide +kernel
def s_X8_hour_0 : List mE := (0, .aload_n 0, 1, 0, 0, 0, .inl 0, []) ::
  (1, .getfield 49, 3, 7, 7, 3, .inr (.inr (3, 0, 50)), [485]) ::
  (4, .getfield 123, 3, 3, 0, 0, .inl 0, [379]) ::
  (7, .ireturn, 1, 0, 0, 0, .inl 0, []) :: []
def k_X8_hour : List mE := s_X8_hour_0
set_option maxRecDepth 100000 in
theorem t_X8_hour_0 : dropTo 0 k_X8_hour = s_X8_hour_0 := rfl
theorem ok_X8_hour : mOkF m_X8_hour k_X8_hour = true := by decide +kernel
theorem cm_X8_hour : mChkM m_X8_hour = true := by decide +kernel
def s_X8_image_11 : List mE := (11, .aload_n 0, 1, 0, 0, 0, .inl 0, []) ::
  (12, .getfield 61, 3, 7, 10, 3, .inr (.inr (19, 2, 86)), [488]) ::
  (15, .iload_n 1, 1, 1, 0, 0, .inl 0, []) ::
  (16, .aaload, 1, 0, 0, 0, .inl 0, []) ::
  (17, .astore_n 2, 1, 2, 0, 0, .inl 0, []) ::
  (18, .aload_n 2, 1, 2, 0, 0, .inl 0, []) ::
  (19, .getfield 355, 3, 1, 1, 3, .inr (.inr (0, 0, 1)), [445]) ::
  (22, .aload_n 0, 1, 0, 0, 0, .inl 0, []) ::
  (23, .getfield 19, 3, 7, 1, 3, .inr (.inr (0, 0, 4)), [479]) ::
  (26, .invokevirtual 115, 3, 4, 2, 0, .inl 0, [659, 0]) ::
  (29, .aload_n 2, 1, 2, 0, 0, .inl 0, []) ::
  (30, .getfield 356, 3, 1, 2, 3, .inr (.inr (2, 0, 13)), [447]) ::
  (33, .aload_n 0, 1, 0, 0, 0, .inl 0, []) ::
  (34, .getfield 29, 3, 7, 3, 3, .inr (.inr (2, 0, 28)), [481]) ::
  (37, .invokevirtual 250, 3, 24, 2, 0, .inl 0, [836, 2]) ::
  (40, .aload_n 2, 1, 2, 0, 0, .inl 0, []) ::
  (41, .getfield 357, 3, 1, 3, 3, .inr (.inr (4, 0, 20)), [449]) ::
  (44, .aload_n 0, 1, 0, 0, 0, .inl 0, []) ::
  (45, .getfield 39, 3, 7, 5, 3, .inr (.inr (4, 0, 42)), [483]) ::
  (48, .invokevirtual 345, 3, 52, 2, 0, .inl 0, [1070, 4]) ::
  (51, .aload_n 2, 1, 2, 0, 0, .inl 0, []) ::
  (52, .getfield 358, 3, 1, 4, 3, .inr (.inr (3, 0, 24)), [451]) ::
  (55, .aload_n 0, 1, 0, 0, 0, .inl 0, []) ::
  (56, .getfield 49, 3, 7, 7, 3, .inr (.inr (3, 0, 50)), [485]) ::
  (59, .invokevirtual 278, 3, 33, 2, 0, .inl 0, [885, 3]) ::
  (62, .aload_n 2, 1, 2, 0, 0, .inl 0, []) ::
  (63, .iconst 1, 1, 0, 0, 0, .inl (nI 1), []) ::
  (64, .putfield 359, 3, 1, 0, 2, .inl 0, [443]) ::
  (67, .iconst 1, 1, 0, 0, 0, .inl (nI 1), []) ::
  (68, .ireturn, 1, 1, 0, 0, .inl 0, []) :: []
def s_X8_image_9 : List mE := (9, .iconst 0, 1, 0, 0, 0, .inl (nI 0), []) ::
  (10, .ireturn, 1, 1, 0, 0, .inl 0, []) :: s_X8_image_11
def s_X8_image_0 : List mE := (0, .iload_n 1, 1, 1, 0, 0, .inl 0, []) ::
  (1, .ifCond .lt 8, 3, 9, 0, 0, .inl 0, []) ::
  (4, .iload_n 1, 1, 1, 0, 0, .inl 0, []) ::
  (5, .iconst 2, 1, 0, 0, 0, .inl (nI 2), []) ::
  (6, .if_icmp .lt 5, 3, 11, 0, 0, .inl 0, []) :: s_X8_image_9
def k_X8_image : List mE := s_X8_image_0
set_option maxRecDepth 100000 in
theorem t_X8_image_0 : dropTo 0 k_X8_image = s_X8_image_0 := rfl
set_option maxRecDepth 100000 in
theorem t_X8_image_9 : dropTo 9 k_X8_image = s_X8_image_9 := rfl
set_option maxRecDepth 100000 in
theorem t_X8_image_11 : dropTo 11 k_X8_image = s_X8_image_11 := rfl
theorem ok_X8_image : mOkF m_X8_image k_X8_image = true := by decide +kernel
theorem cm_X8_image : mChkM m_X8_image = true := by decide +kernel
def s_X8_isGood_20 : List mE := (20, .ireturn, 1, 1, 0, 0, .inl 0, []) :: []
def s_X8_isGood_19 : List mE := (19, .iconst 0, 1, 0, 0, 0, .inl (nI 0), []) :: s_X8_isGood_20
def s_X8_isGood_0 : List mE := (0, .iload_n 1, 1, 1, 0, 0, .inl 0, []) ::
  (1, .ifCond .lt 18, 3, 19, 0, 0, .inl 0, []) ::
  (4, .iload_n 1, 1, 1, 0, 0, .inl 0, []) ::
  (5, .aload_n 0, 1, 0, 0, 0, .inl 0, []) ::
  (6, .getfield 19, 3, 7, 1, 3, .inr (.inr (0, 0, 4)), [479]) ::
  (9, .getfield 178, 3, 0, 0, 0, .inl 0, [246]) ::
  (12, .if_icmp .ge 7, 3, 19, 0, 0, .inl 0, []) ::
  (15, .iconst 1, 1, 0, 0, 0, .inl (nI 1), []) ::
  (16, .goto 4, 3, 20, 0, 0, .inl 0, []) :: s_X8_isGood_19
def k_X8_isGood : List mE := s_X8_isGood_0
set_option maxRecDepth 100000 in
theorem t_X8_isGood_0 : dropTo 0 k_X8_isGood = s_X8_isGood_0 := rfl
set_option maxRecDepth 100000 in
theorem t_X8_isGood_19 : dropTo 19 k_X8_isGood = s_X8_isGood_19 := rfl
set_option maxRecDepth 100000 in
theorem t_X8_isGood_20 : dropTo 20 k_X8_isGood = s_X8_isGood_20 := rfl
theorem ok_X8_isGood : mOkF m_X8_isGood k_X8_isGood = true := by decide +kernel
theorem cm_X8_isGood : mChkM m_X8_isGood = true := by decide +kernel
def s_X8_isRunning_16 : List mE := (16, .ireturn, 1, 1, 0, 0, .inl 0, []) :: []
def s_X8_isRunning_15 : List mE := (15, .iconst 0, 1, 0, 0, 0, .inl (nI 0), []) :: s_X8_isRunning_16
def s_X8_isRunning_0 : List mE := (0, .aload_n 0, 1, 0, 0, 0, .inl 0, []) ::
  (1, .getfield 49, 3, 7, 7, 3, .inr (.inr (3, 0, 50)), [485]) ::
  (4, .getfield 123, 3, 3, 0, 0, .inl 0, [379]) ::
  (7, .iconst (-1), 1, 0, 0, 0, .inl (-1), []) ::
  (8, .if_icmp .eq 7, 3, 15, 0, 0, .inl 0, []) ::
  (11, .iconst 1, 1, 0, 0, 0, .inl (nI 1), []) ::
  (12, .goto 4, 3, 16, 0, 0, .inl 0, []) :: s_X8_isRunning_15
def k_X8_isRunning : List mE := s_X8_isRunning_0
set_option maxRecDepth 100000 in
theorem t_X8_isRunning_0 : dropTo 0 k_X8_isRunning = s_X8_isRunning_0 := rfl
set_option maxRecDepth 100000 in
theorem t_X8_isRunning_15 : dropTo 15 k_X8_isRunning = s_X8_isRunning_15 := rfl
set_option maxRecDepth 100000 in
theorem t_X8_isRunning_16 : dropTo 16 k_X8_isRunning = s_X8_isRunning_16 := rfl
theorem ok_X8_isRunning : mOkF m_X8_isRunning k_X8_isRunning = true := by decide +kernel
theorem cm_X8_isRunning : mChkM m_X8_isRunning = true := by decide +kernel
def s_X8_isSet_20 : List mE := (20, .ireturn, 1, 1, 0, 0, .inl 0, []) :: []
def s_X8_isSet_19 : List mE := (19, .iconst 0, 1, 0, 0, 0, .inl (nI 0), []) :: s_X8_isSet_20
def s_X8_isSet_0 : List mE := (0, .iload_n 1, 1, 1, 0, 0, .inl 0, []) ::
  (1, .ifCond .lt 18, 3, 19, 0, 0, .inl 0, []) ::
  (4, .iload_n 1, 1, 1, 0, 0, .inl 0, []) ::
  (5, .aload_n 0, 1, 0, 0, 0, .inl 0, []) ::
  (6, .getfield 19, 3, 7, 1, 3, .inr (.inr (0, 0, 4)), [479]) ::
  (9, .invokevirtual 181, 3, 2, 1, 1, .inl 0, [728, 0]) ::
  (12, .if_icmp .gt 7, 3, 19, 0, 0, .inl 0, []) ::
  (15, .iconst 1, 1, 0, 0, 0, .inl (nI 1), []) ::
  (16, .goto 4, 3, 20, 0, 0, .inl 0, []) :: s_X8_isSet_19
def k_X8_isSet : List mE := s_X8_isSet_0
set_option maxRecDepth 100000 in
theorem t_X8_isSet_0 : dropTo 0 k_X8_isSet = s_X8_isSet_0 := rfl
set_option maxRecDepth 100000 in
theorem t_X8_isSet_19 : dropTo 19 k_X8_isSet = s_X8_isSet_19 := rfl
set_option maxRecDepth 100000 in
theorem t_X8_isSet_20 : dropTo 20 k_X8_isSet = s_X8_isSet_20 := rfl
theorem ok_X8_isSet : mOkF m_X8_isSet k_X8_isSet = true := by decide +kernel
theorem cm_X8_isSet : mChkM m_X8_isSet = true := by decide +kernel
def s_X8_isVatOfRun_45 : List mE := (45, .ireturn, 1, 1, 0, 0, .inl 0, []) :: []
def s_X8_isVatOfRun_44 : List mE := (44, .iconst 0, 1, 0, 0, 0, .inl (nI 0), []) :: s_X8_isVatOfRun_45
def s_X8_isVatOfRun_0 : List mE := (0, .aload_n 0, 1, 0, 0, 0, .inl 0, []) ::
  (1, .invokevirtual 188, 3, 103, 1, 1, .inl 0, [712, 7]) ::
  (4, .ifCond .eq 40, 3, 44, 0, 0, .inl 0, []) ::
  (7, .aload_n 0, 1, 0, 0, 0, .inl 0, []) ::
  (8, .iload_n 1, 1, 1, 0, 0, .inl 0, []) ::
  (9, .invokevirtual 130, 3, 106, 2, 1, .inl 0, [682, 7]) ::
  (12, .ifCond .eq 32, 3, 44, 0, 0, .inl 0, []) ::
  (15, .aload_n 0, 1, 0, 0, 0, .inl 0, []) ::
  (16, .iload_n 2, 1, 2, 0, 0, .inl 0, []) ::
  (17, .invokevirtual 163, 3, 102, 2, 1, .inl 0, [686, 7]) ::
  (20, .ifCond .eq 24, 3, 44, 0, 0, .inl 0, []) ::
  (23, .aload_n 0, 1, 0, 0, 0, .inl 0, []) ::
  (24, .getfield 19, 3, 7, 1, 3, .inr (.inr (0, 0, 4)), [479]) ::
  (27, .getfield 150, 3, 0, 10, 3, .inr (.inr (16, 48, 7)), [274]) ::
  (30, .iload_n 1, 1, 1, 0, 0, .inl 0, []) ::
  (31, .bipush 6, 2, 0, 0, 0, .inl (nI 6), []) ::
  (33, .imul, 1, 0, 0, 0, .inl 0, []) ::
  (34, .iload_n 2, 1, 2, 0, 0, .inl 0, []) ::
  (35, .iadd, 1, 0, 0, 0, .inl 0, []) ::
  (36, .iaload, 1, 0, 0, 0, .inl 0, []) ::
  (37, .ifCond .le 7, 3, 44, 0, 0, .inl 0, []) ::
  (40, .iconst 1, 1, 0, 0, 0, .inl (nI 1), []) ::
  (41, .goto 4, 3, 45, 0, 0, .inl 0, []) :: s_X8_isVatOfRun_44
def k_X8_isVatOfRun : List mE := s_X8_isVatOfRun_0
set_option maxRecDepth 100000 in
theorem t_X8_isVatOfRun_0 : dropTo 0 k_X8_isVatOfRun = s_X8_isVatOfRun_0 := rfl
set_option maxRecDepth 100000 in
theorem t_X8_isVatOfRun_44 : dropTo 44 k_X8_isVatOfRun = s_X8_isVatOfRun_44 := rfl
set_option maxRecDepth 100000 in
theorem t_X8_isVatOfRun_45 : dropTo 45 k_X8_isVatOfRun = s_X8_isVatOfRun_45 := rfl
theorem ok_X8_isVatOfRun : mOkF m_X8_isVatOfRun k_X8_isVatOfRun = true := by decide +kernel
theorem cm_X8_isVatOfRun : mChkM m_X8_isVatOfRun = true := by decide +kernel
def s_X8_isWork_20 : List mE := (20, .ireturn, 1, 1, 0, 0, .inl 0, []) :: []
def s_X8_isWork_19 : List mE := (19, .iconst 0, 1, 0, 0, 0, .inl (nI 0), []) :: s_X8_isWork_20
def s_X8_isWork_0 : List mE := (0, .iload_n 1, 1, 1, 0, 0, .inl 0, []) ::
  (1, .ifCond .lt 18, 3, 19, 0, 0, .inl 0, []) ::
  (4, .iload_n 1, 1, 1, 0, 0, .inl 0, []) ::
  (5, .aload_n 0, 1, 0, 0, 0, .inl 0, []) ::
  (6, .getfield 19, 3, 7, 1, 3, .inr (.inr (0, 0, 4)), [479]) ::
  (9, .getfield 175, 3, 0, 1, 0, .inl 0, [249]) ::
  (12, .if_icmp .ge 7, 3, 19, 0, 0, .inl 0, []) ::
  (15, .iconst 1, 1, 0, 0, 0, .inl (nI 1), []) ::
  (16, .goto 4, 3, 20, 0, 0, .inl 0, []) :: s_X8_isWork_19
def k_X8_isWork : List mE := s_X8_isWork_0
set_option maxRecDepth 100000 in
theorem t_X8_isWork_0 : dropTo 0 k_X8_isWork = s_X8_isWork_0 := rfl
set_option maxRecDepth 100000 in
theorem t_X8_isWork_19 : dropTo 19 k_X8_isWork = s_X8_isWork_19 := rfl
set_option maxRecDepth 100000 in
theorem t_X8_isWork_20 : dropTo 20 k_X8_isWork = s_X8_isWork_20 := rfl
theorem ok_X8_isWork : mOkF m_X8_isWork k_X8_isWork = true := by decide +kernel
theorem cm_X8_isWork : mChkM m_X8_isWork = true := by decide +kernel
def s_X8_kept_85 : List mE := (85, .iconst (-1), 1, 0, 0, 0, .inl (-1), []) ::
  (86, .ireturn, 1, 0, 0, 0, .inl 0, []) :: []
def s_X8_kept_79 : List mE := (79, .iinc 4 1, 3, 4, 0, 0, .inl (nI 1), []) ::
  (82, .goto (-32), 3, 50, 0, 0, .inl 0, []) :: s_X8_kept_85
def s_X8_kept_50 : List mE := (50, .iload 4, 2, 4, 0, 0, .inl 0, []) ::
  (52, .iload_n 3, 1, 3, 0, 0, .inl 0, []) ::
  (53, .if_icmp .gt 32, 3, 85, 0, 0, .inl 0, []) ::
  (56, .aload_n 0, 1, 0, 0, 0, .inl 0, []) ::
  (57, .aload_n 0, 1, 0, 0, 0, .inl 0, []) ::
  (58, .getfield 19, 3, 7, 1, 3, .inr (.inr (0, 0, 4)), [479]) ::
  (61, .iload 4, 2, 4, 0, 0, .inl 0, []) ::
  (63, .iload_n 1, 1, 1, 0, 0, .inl 0, []) ::
  (64, .invokevirtual 274, 3, 114, 4, 1, .inl 0, [881, 7]) ::
  (67, .aload_n 0, 1, 0, 0, 0, .inl 0, []) ::
  (68, .iload 4, 2, 4, 0, 0, .inl 0, []) ::
  (70, .invokevirtual 305, 3, 126, 2, 1, .inl 0, [922, 7]) ::
  (73, .if_icmp .le 6, 3, 79, 0, 0, .inl 0, []) ::
  (76, .iload 4, 2, 4, 0, 0, .inl 0, []) ::
  (78, .ireturn, 1, 0, 0, 0, .inl 0, []) :: s_X8_kept_79
def s_X8_kept_39 : List mE := (39, .aload_n 0, 1, 0, 0, 0, .inl 0, []) ::
  (40, .getfield 19, 3, 7, 1, 3, .inr (.inr (0, 0, 4)), [479]) ::
  (43, .invokevirtual 181, 3, 2, 1, 1, .inl 0, [728, 0]) ::
  (46, .istore_n 3, 1, 3, 0, 0, .inl 0, []) ::
  (47, .iconst 1, 1, 0, 0, 0, .inl (nI 1), []) ::
  (48, .istore 4, 2, 4, 0, 0, .inl 0, []) :: s_X8_kept_50
def s_X8_kept_36 : List mE := (36, .bipush (-2), 2, 0, 0, 0, .inl (-2), []) ::
  (38, .ireturn, 1, 0, 0, 0, .inl 0, []) :: s_X8_kept_39
def s_X8_kept_0 : List mE := (0, .aload_n 0, 1, 0, 0, 0, .inl 0, []) ::
  (1, .getfield 12, 3, 7, 0, 3, .inr (.inr (5, 0, 1)), [478]) ::
  (4, .getfield 102, 3, 5, 2, 0, .inl 0, [189]) ::
  (7, .istore_n 2, 1, 2, 0, 0, .inl 0, []) ::
  (8, .aload_n 0, 1, 0, 0, 0, .inl 0, []) ::
  (9, .getfield 12, 3, 7, 0, 3, .inr (.inr (5, 0, 1)), [478]) ::
  (12, .iconst 0, 1, 0, 0, 0, .inl (nI 0), []) ::
  (13, .putfield 102, 3, 5, 2, 0, .inl 0, [189]) ::
  (16, .iload_n 1, 1, 1, 0, 0, .inl 0, []) ::
  (17, .invokestatic 271, 3, 76, 1, 1, .inl 0, [878]) ::
  (20, .ifCond .eq 16, 3, 36, 0, 0, .inl 0, []) ::
  (23, .iload_n 2, 1, 2, 0, 0, .inl 0, []) ::
  (24, .iconst 2, 1, 0, 0, 0, .inl (nI 2), []) ::
  (25, .aload_n 0, 1, 0, 0, 0, .inl 0, []) ::
  (26, .getfield 19, 3, 7, 1, 3, .inr (.inr (0, 0, 4)), [479]) ::
  (29, .getfield 175, 3, 0, 1, 0, .inl 0, [249]) ::
  (32, .imul, 1, 0, 0, 0, .inl 0, []) ::
  (33, .if_icmp .eq 6, 3, 39, 0, 0, .inl 0, []) :: s_X8_kept_36
def k_X8_kept : List mE := s_X8_kept_0
set_option maxRecDepth 100000 in
theorem t_X8_kept_0 : dropTo 0 k_X8_kept = s_X8_kept_0 := rfl
set_option maxRecDepth 100000 in
theorem t_X8_kept_36 : dropTo 36 k_X8_kept = s_X8_kept_36 := rfl
set_option maxRecDepth 100000 in
theorem t_X8_kept_39 : dropTo 39 k_X8_kept = s_X8_kept_39 := rfl
set_option maxRecDepth 100000 in
theorem t_X8_kept_50 : dropTo 50 k_X8_kept = s_X8_kept_50 := rfl
set_option maxRecDepth 100000 in
theorem t_X8_kept_79 : dropTo 79 k_X8_kept = s_X8_kept_79 := rfl
set_option maxRecDepth 100000 in
theorem t_X8_kept_85 : dropTo 85 k_X8_kept = s_X8_kept_85 := rfl
theorem ok_X8_kept : mOkF m_X8_kept k_X8_kept = true := by decide +kernel
theorem cm_X8_kept : mChkM m_X8_kept = true := by decide +kernel
def s_X8_kindle_102 : List mE := (102, .iload 4, 2, 4, 0, 0, .inl 0, []) ::
  (104, .ireturn, 1, 0, 0, 0, .inl 0, []) :: []
def s_X8_kindle_96 : List mE := (96, .iinc 5 1, 3, 5, 0, 0, .inl (nI 1), []) ::
  (99, .goto (-63), 3, 36, 0, 0, .inl 0, []) :: s_X8_kindle_102
def s_X8_kindle_70 : List mE := (70, .aload_n 0, 1, 0, 0, 0, .inl 0, []) ::
  (71, .getfield 53, 3, 7, 8, 3, .inr (.inr (3, 0, 62)), [486]) ::
  (74, .aload_n 0, 1, 0, 0, 0, .inl 0, []) ::
  (75, .getfield 19, 3, 7, 1, 3, .inr (.inr (0, 0, 4)), [479]) ::
  (78, .iload_n 1, 1, 1, 0, 0, .inl 0, []) ::
  (79, .iload_n 2, 1, 2, 0, 0, .inl 0, []) ::
  (80, .invokevirtual 325, 3, 30, 4, 1, .inl 0, [968, 3]) ::
  (83, .ifCond .eq 13, 3, 96, 0, 0, .inl 0, []) ::
  (86, .iload 6, 2, 6, 0, 0, .inl 0, []) ::
  (88, .istore 4, 2, 4, 0, 0, .inl 0, []) ::
  (90, .aload_n 0, 1, 0, 0, 0, .inl 0, []) ::
  (91, .iload 5, 2, 5, 0, 0, .inl 0, []) ::
  (93, .putfield 88, 3, 7, 16, 0, .inl 0, [494]) :: s_X8_kindle_96
def s_X8_kindle_36 : List mE := (36, .iload 5, 2, 5, 0, 0, .inl 0, []) ::
  (38, .iload_n 3, 1, 3, 0, 0, .inl 0, []) ::
  (39, .if_icmp .gt 63, 3, 102, 0, 0, .inl 0, []) ::
  (42, .aload_n 0, 1, 0, 0, 0, .inl 0, []) ::
  (43, .getfield 53, 3, 7, 8, 3, .inr (.inr (3, 0, 62)), [486]) ::
  (46, .aload_n 0, 1, 0, 0, 0, .inl 0, []) ::
  (47, .getfield 19, 3, 7, 1, 3, .inr (.inr (0, 0, 4)), [479]) ::
  (50, .iload 5, 2, 5, 0, 0, .inl 0, []) ::
  (52, .invokevirtual 321, 3, 46, 3, 1, .inl 0, [964, 3]) ::
  (55, .istore 6, 2, 6, 0, 0, .inl 0, []) ::
  (57, .iload 4, 2, 4, 0, 0, .inl 0, []) ::
  (59, .iconst (-1), 1, 0, 0, 0, .inl (-1), []) ::
  (60, .if_icmp .eq 10, 3, 70, 0, 0, .inl 0, []) ::
  (63, .iload 6, 2, 6, 0, 0, .inl 0, []) ::
  (65, .iload 4, 2, 4, 0, 0, .inl 0, []) ::
  (67, .if_icmp .ge 29, 3, 96, 0, 0, .inl 0, []) :: s_X8_kindle_70
def s_X8_kindle_22 : List mE := (22, .aload_n 0, 1, 0, 0, 0, .inl 0, []) ::
  (23, .getfield 19, 3, 7, 1, 3, .inr (.inr (0, 0, 4)), [479]) ::
  (26, .invokevirtual 181, 3, 2, 1, 1, .inl 0, [728, 0]) ::
  (29, .istore_n 3, 1, 3, 0, 0, .inl 0, []) ::
  (30, .iconst (-1), 1, 0, 0, 0, .inl (-1), []) ::
  (31, .istore 4, 2, 4, 0, 0, .inl 0, []) ::
  (33, .iconst 0, 1, 0, 0, 0, .inl (nI 0), []) ::
  (34, .istore 5, 2, 5, 0, 0, .inl 0, []) :: s_X8_kindle_36
def s_X8_kindle_19 : List mE := (19, .bipush (-2), 2, 0, 0, 0, .inl (-2), []) ::
  (21, .ireturn, 1, 0, 0, 0, .inl 0, []) :: s_X8_kindle_22
def s_X8_kindle_0 : List mE := (0, .aload_n 0, 1, 0, 0, 0, .inl 0, []) ::
  (1, .iload_n 1, 1, 1, 0, 0, .inl 0, []) ::
  (2, .invokevirtual 268, 3, 104, 2, 1, .inl 0, [874, 7]) ::
  (5, .ifCond .eq 14, 3, 19, 0, 0, .inl 0, []) ::
  (8, .iload_n 2, 1, 2, 0, 0, .inl 0, []) ::
  (9, .iconst 1, 1, 0, 0, 0, .inl (nI 1), []) ::
  (10, .if_icmp .lt 9, 3, 19, 0, 0, .inl 0, []) ::
  (13, .iload_n 2, 1, 2, 0, 0, .inl 0, []) ::
  (14, .bipush 48, 2, 0, 0, 0, .inl (nI 48), []) ::
  (16, .if_icmp .le 6, 3, 22, 0, 0, .inl 0, []) :: s_X8_kindle_19
def k_X8_kindle : List mE := s_X8_kindle_0
set_option maxRecDepth 100000 in
theorem t_X8_kindle_0 : dropTo 0 k_X8_kindle = s_X8_kindle_0 := rfl
set_option maxRecDepth 100000 in
theorem t_X8_kindle_19 : dropTo 19 k_X8_kindle = s_X8_kindle_19 := rfl
set_option maxRecDepth 100000 in
theorem t_X8_kindle_22 : dropTo 22 k_X8_kindle = s_X8_kindle_22 := rfl
set_option maxRecDepth 100000 in
theorem t_X8_kindle_36 : dropTo 36 k_X8_kindle = s_X8_kindle_36 := rfl
set_option maxRecDepth 100000 in
theorem t_X8_kindle_70 : dropTo 70 k_X8_kindle = s_X8_kindle_70 := rfl
set_option maxRecDepth 100000 in
theorem t_X8_kindle_96 : dropTo 96 k_X8_kindle = s_X8_kindle_96 := rfl
set_option maxRecDepth 100000 in
theorem t_X8_kindle_102 : dropTo 102 k_X8_kindle = s_X8_kindle_102 := rfl
theorem ok_X8_kindle : mOkF m_X8_kindle k_X8_kindle = true := by decide +kernel
theorem cm_X8_kindle : mChkM m_X8_kindle = true := by decide +kernel
def s_X8_kindled_0 : List mE := (0, .aload_n 0, 1, 0, 0, 0, .inl 0, []) ::
  (1, .getfield 88, 3, 7, 16, 0, .inl 0, [494]) ::
  (4, .ireturn, 1, 0, 0, 0, .inl 0, []) :: []
def k_X8_kindled : List mE := s_X8_kindled_0
set_option maxRecDepth 100000 in
theorem t_X8_kindled_0 : dropTo 0 k_X8_kindled = s_X8_kindled_0 := rfl
theorem ok_X8_kindled : mOkF m_X8_kindled k_X8_kindled = true := by decide +kernel
theorem cm_X8_kindled : mChkM m_X8_kindled = true := by decide +kernel
def s_X8_lacks_27 : List mE := (27, .ireturn, 1, 0, 0, 0, .inl 0, []) :: []
def s_X8_lacks_26 : List mE := (26, .iconst (-1), 1, 0, 0, 0, .inl (-1), []) :: s_X8_lacks_27
def s_X8_lacks_0 : List mE := (0, .aload_n 0, 1, 0, 0, 0, .inl 0, []) ::
  (1, .iload_n 1, 1, 1, 0, 0, .inl 0, []) ::
  (2, .iload_n 2, 1, 2, 0, 0, .inl 0, []) ::
  (3, .invokevirtual 209, 3, 105, 3, 1, .inl 0, [772, 7]) ::
  (6, .ifCond .eq 20, 3, 26, 0, 0, .inl 0, []) ::
  (9, .aload_n 0, 1, 0, 0, 0, .inl 0, []) ::
  (10, .getfield 49, 3, 7, 7, 3, .inr (.inr (3, 0, 50)), [485]) ::
  (13, .getfield 240, 3, 3, 4, 3, .inr (.inr (16, 48, 4)), [388]) ::
  (16, .iload_n 1, 1, 1, 0, 0, .inl 0, []) ::
  (17, .bipush 6, 2, 0, 0, 0, .inl (nI 6), []) ::
  (19, .imul, 1, 0, 0, 0, .inl 0, []) ::
  (20, .iload_n 2, 1, 2, 0, 0, .inl 0, []) ::
  (21, .iadd, 1, 0, 0, 0, .inl 0, []) ::
  (22, .iaload, 1, 0, 0, 0, .inl 0, []) ::
  (23, .goto 4, 3, 27, 0, 0, .inl 0, []) :: s_X8_lacks_26
def k_X8_lacks : List mE := s_X8_lacks_0
set_option maxRecDepth 100000 in
theorem t_X8_lacks_0 : dropTo 0 k_X8_lacks = s_X8_lacks_0 := rfl
set_option maxRecDepth 100000 in
theorem t_X8_lacks_26 : dropTo 26 k_X8_lacks = s_X8_lacks_26 := rfl
set_option maxRecDepth 100000 in
theorem t_X8_lacks_27 : dropTo 27 k_X8_lacks = s_X8_lacks_27 := rfl
theorem ok_X8_lacks : mOkF m_X8_lacks k_X8_lacks = true := by decide +kernel
theorem cm_X8_lacks : mChkM m_X8_lacks = true := by decide +kernel
def s_X8_longer_136 : List mE := (136, .iload_n 3, 1, 3, 0, 0, .inl 0, []) ::
  (137, .ireturn, 1, 0, 0, 0, .inl 0, []) :: []
def s_X8_longer_130 : List mE := (130, .iinc 5 1, 3, 5, 0, 0, .inl (nI 1), []) ::
  (133, .goto (-94), 3, 39, 0, 0, .inl 0, []) :: s_X8_longer_136
def s_X8_longer_39 : List mE := (39, .iload 5, 2, 5, 0, 0, .inl 0, []) ::
  (41, .aload_n 0, 1, 0, 0, 0, .inl 0, []) ::
  (42, .getfield 19, 3, 7, 1, 3, .inr (.inr (0, 0, 4)), [479]) ::
  (45, .getfield 175, 3, 0, 1, 0, .inl 0, [249]) ::
  (48, .if_icmp .ge 88, 3, 136, 0, 0, .inl 0, []) ::
  (51, .aload_n 0, 1, 0, 0, 0, .inl 0, []) ::
  (52, .getfield 23, 3, 7, 2, 3, .inr (.inr (0, 0, 16)), [480]) ::
  (55, .getfield 144, 3, 0, 8, 3, .inr (.inr (16, 8, 5)), [265]) ::
  (58, .iload 5, 2, 5, 0, 0, .inl 0, []) ::
  (60, .aload_n 0, 1, 0, 0, 0, .inl 0, []) ::
  (61, .getfield 19, 3, 7, 1, 3, .inr (.inr (0, 0, 4)), [479]) ::
  (64, .getfield 144, 3, 0, 8, 3, .inr (.inr (16, 8, 5)), [265]) ::
  (67, .iload 5, 2, 5, 0, 0, .inl 0, []) ::
  (69, .iaload, 1, 0, 0, 0, .inl 0, []) ::
  (70, .iload_n 1, 1, 1, 0, 0, .inl 0, []) ::
  (71, .iadd, 1, 0, 0, 0, .inl 0, []) ::
  (72, .bipush 11, 2, 0, 0, 0, .inl (nI 11), []) ::
  (74, .invokestatic 191, 3, 0, 2, 10, .inl 0, [716]) ::
  (77, .iastore, 1, 0, 0, 0, .inl 0, []) ::
  (78, .aload_n 0, 1, 0, 0, 0, .inl 0, []) ::
  (79, .aload_n 0, 1, 0, 0, 0, .inl 0, []) ::
  (80, .getfield 23, 3, 7, 2, 3, .inr (.inr (0, 0, 16)), [480]) ::
  (83, .aload_n 0, 1, 0, 0, 0, .inl 0, []) ::
  (84, .getfield 19, 3, 7, 1, 3, .inr (.inr (0, 0, 4)), [479]) ::
  (87, .invokevirtual 181, 3, 2, 1, 1, .inl 0, [728, 0]) ::
  (90, .iload_n 2, 1, 2, 0, 0, .inl 0, []) ::
  (91, .invokevirtual 274, 3, 114, 4, 1, .inl 0, [881, 7]) ::
  (94, .istore 6, 2, 6, 0, 0, .inl 0, []) ::
  (96, .aload_n 0, 1, 0, 0, 0, .inl 0, []) ::
  (97, .getfield 23, 3, 7, 2, 3, .inr (.inr (0, 0, 16)), [480]) ::
  (100, .getfield 144, 3, 0, 8, 3, .inr (.inr (16, 8, 5)), [265]) ::
  (103, .iload 5, 2, 5, 0, 0, .inl 0, []) ::
  (105, .aload_n 0, 1, 0, 0, 0, .inl 0, []) ::
  (106, .getfield 19, 3, 7, 1, 3, .inr (.inr (0, 0, 4)), [479]) ::
  (109, .getfield 144, 3, 0, 8, 3, .inr (.inr (16, 8, 5)), [265]) ::
  (112, .iload 5, 2, 5, 0, 0, .inl 0, []) ::
  (114, .iaload, 1, 0, 0, 0, .inl 0, []) ::
  (115, .iastore, 1, 0, 0, 0, .inl 0, []) ::
  (116, .iload 6, 2, 6, 0, 0, .inl 0, []) ::
  (118, .iload 4, 2, 4, 0, 0, .inl 0, []) ::
  (120, .if_icmp .le 10, 3, 130, 0, 0, .inl 0, []) ::
  (123, .iload 6, 2, 6, 0, 0, .inl 0, []) ::
  (125, .istore 4, 2, 4, 0, 0, .inl 0, []) ::
  (127, .iload 5, 2, 5, 0, 0, .inl 0, []) ::
  (129, .istore_n 3, 1, 3, 0, 0, .inl 0, []) :: s_X8_longer_130
def s_X8_longer_20 : List mE := (20, .aload_n 0, 1, 0, 0, 0, .inl 0, []) ::
  (21, .getfield 23, 3, 7, 2, 3, .inr (.inr (0, 0, 16)), [480]) ::
  (24, .aload_n 0, 1, 0, 0, 0, .inl 0, []) ::
  (25, .getfield 19, 3, 7, 1, 3, .inr (.inr (0, 0, 4)), [479]) ::
  (28, .invokevirtual 115, 3, 4, 2, 0, .inl 0, [659, 0]) ::
  (31, .iconst (-1), 1, 0, 0, 0, .inl (-1), []) ::
  (32, .istore_n 3, 1, 3, 0, 0, .inl 0, []) ::
  (33, .iconst (-1), 1, 0, 0, 0, .inl (-1), []) ::
  (34, .istore 4, 2, 4, 0, 0, .inl 0, []) ::
  (36, .iconst 0, 1, 0, 0, 0, .inl (nI 0), []) ::
  (37, .istore 5, 2, 5, 0, 0, .inl 0, []) :: s_X8_longer_39
def s_X8_longer_18 : List mE := (18, .iconst (-1), 1, 0, 0, 0, .inl (-1), []) ::
  (19, .ireturn, 1, 0, 0, 0, .inl 0, []) :: s_X8_longer_20
def s_X8_longer_0 : List mE := (0, .iload_n 1, 1, 1, 0, 0, .inl 0, []) ::
  (1, .iconst 1, 1, 0, 0, 0, .inl (nI 1), []) ::
  (2, .if_icmp .lt 16, 3, 18, 0, 0, .inl 0, []) ::
  (5, .iload_n 1, 1, 1, 0, 0, .inl 0, []) ::
  (6, .bipush 11, 2, 0, 0, 0, .inl (nI 11), []) ::
  (8, .if_icmp .gt 10, 3, 18, 0, 0, .inl 0, []) ::
  (11, .iload_n 2, 1, 2, 0, 0, .inl 0, []) ::
  (12, .invokestatic 271, 3, 76, 1, 1, .inl 0, [878]) ::
  (15, .ifCond .ne 5, 3, 20, 0, 0, .inl 0, []) :: s_X8_longer_18
def k_X8_longer : List mE := s_X8_longer_0
set_option maxRecDepth 100000 in
theorem t_X8_longer_0 : dropTo 0 k_X8_longer = s_X8_longer_0 := rfl
set_option maxRecDepth 100000 in
theorem t_X8_longer_18 : dropTo 18 k_X8_longer = s_X8_longer_18 := rfl
set_option maxRecDepth 100000 in
theorem t_X8_longer_20 : dropTo 20 k_X8_longer = s_X8_longer_20 := rfl
set_option maxRecDepth 100000 in
theorem t_X8_longer_39 : dropTo 39 k_X8_longer = s_X8_longer_39 := rfl
set_option maxRecDepth 100000 in
theorem t_X8_longer_130 : dropTo 130 k_X8_longer = s_X8_longer_130 := rfl
set_option maxRecDepth 100000 in
theorem t_X8_longer_136 : dropTo 136 k_X8_longer = s_X8_longer_136 := rfl
theorem ok_X8_longer : mOkF m_X8_longer k_X8_longer = true := by decide +kernel
theorem cm_X8_longer : mChkM m_X8_longer = true := by decide +kernel
def s_X8_loss_21 : List mE := (21, .ireturn, 1, 0, 0, 0, .inl 0, []) :: []
def s_X8_loss_20 : List mE := (20, .iconst (-1), 1, 0, 0, 0, .inl (-1), []) :: s_X8_loss_21
def s_X8_loss_0 : List mE := (0, .aload_n 0, 1, 0, 0, 0, .inl 0, []) ::
  (1, .iload_n 1, 1, 1, 0, 0, .inl 0, []) ::
  (2, .invokevirtual 163, 3, 102, 2, 1, .inl 0, [686, 7]) ::
  (5, .ifCond .eq 15, 3, 20, 0, 0, .inl 0, []) ::
  (8, .aload_n 0, 1, 0, 0, 0, .inl 0, []) ::
  (9, .getfield 19, 3, 7, 1, 3, .inr (.inr (0, 0, 4)), [479]) ::
  (12, .getfield 172, 3, 0, 6, 3, .inr (.inr (16, 6, 3)), [260]) ::
  (15, .iload_n 1, 1, 1, 0, 0, .inl 0, []) ::
  (16, .iaload, 1, 0, 0, 0, .inl 0, []) ::
  (17, .goto 4, 3, 21, 0, 0, .inl 0, []) :: s_X8_loss_20
def k_X8_loss : List mE := s_X8_loss_0
set_option maxRecDepth 100000 in
theorem t_X8_loss_0 : dropTo 0 k_X8_loss = s_X8_loss_0 := rfl
set_option maxRecDepth 100000 in
theorem t_X8_loss_20 : dropTo 20 k_X8_loss = s_X8_loss_20 := rfl
set_option maxRecDepth 100000 in
theorem t_X8_loss_21 : dropTo 21 k_X8_loss = s_X8_loss_21 := rfl
theorem ok_X8_loss : mOkF m_X8_loss k_X8_loss = true := by decide +kernel
theorem cm_X8_loss : mChkM m_X8_loss = true := by decide +kernel
def s_X8_made_22 : List mE := (22, .ireturn, 1, 0, 0, 0, .inl 0, []) :: []
def s_X8_made_21 : List mE := (21, .iconst (-1), 1, 0, 0, 0, .inl (-1), []) :: s_X8_made_22
def s_X8_made_0 : List mE := (0, .aload_n 0, 1, 0, 0, 0, .inl 0, []) ::
  (1, .invokevirtual 188, 3, 103, 1, 1, .inl 0, [712, 7]) ::
  (4, .ifCond .eq 17, 3, 21, 0, 0, .inl 0, []) ::
  (7, .aload_n 0, 1, 0, 0, 0, .inl 0, []) ::
  (8, .getfield 49, 3, 7, 7, 3, .inr (.inr (3, 0, 50)), [485]) ::
  (11, .aload_n 0, 1, 0, 0, 0, .inl 0, []) ::
  (12, .getfield 19, 3, 7, 1, 3, .inr (.inr (0, 0, 4)), [479]) ::
  (15, .invokevirtual 243, 3, 47, 2, 1, .inl 0, [804, 3]) ::
  (18, .goto 4, 3, 22, 0, 0, .inl 0, []) :: s_X8_made_21
def k_X8_made : List mE := s_X8_made_0
set_option maxRecDepth 100000 in
theorem t_X8_made_0 : dropTo 0 k_X8_made = s_X8_made_0 := rfl
set_option maxRecDepth 100000 in
theorem t_X8_made_21 : dropTo 21 k_X8_made = s_X8_made_21 := rfl
set_option maxRecDepth 100000 in
theorem t_X8_made_22 : dropTo 22 k_X8_made = s_X8_made_22 := rfl
theorem ok_X8_made : mOkF m_X8_made k_X8_made = true := by decide +kernel
theorem cm_X8_made : mChkM m_X8_made = true := by decide +kernel
def s_X8_madeAlone_99 : List mE := (99, .aload_n 0, 1, 0, 0, 0, .inl 0, []) ::
  (100, .getfield 53, 3, 7, 8, 3, .inr (.inr (3, 0, 62)), [486]) ::
  (103, .aload_n 1, 1, 1, 0, 0, .inl 0, []) ::
  (104, .iload_n 2, 1, 2, 0, 0, .inl 0, []) ::
  (105, .iload_n 3, 1, 3, 0, 0, .inl 0, []) ::
  (106, .bipush 12, 2, 0, 0, 0, .inl (nI 12), []) ::
  (108, .irem, 1, 0, 0, 0, .inl 0, []) ::
  (109, .invokevirtual 254, 3, 43, 4, 0, .inl 0, [845, 3]) ::
  (112, .aload_n 0, 1, 0, 0, 0, .inl 0, []) ::
  (113, .getfield 53, 3, 7, 8, 3, .inr (.inr (3, 0, 62)), [486]) ::
  (116, .aload_n 1, 1, 1, 0, 0, .inl 0, []) ::
  (117, .invokevirtual 243, 3, 47, 2, 1, .inl 0, [804, 3]) ::
  (120, .iload 5, 2, 5, 0, 0, .inl 0, []) ::
  (122, .iadd, 1, 0, 0, 0, .inl 0, []) ::
  (123, .ireturn, 1, 0, 0, 0, .inl 0, []) :: []
def s_X8_madeAlone_93 : List mE := (93, .iinc 6 1, 3, 6, 0, 0, .inl (nI 1), []) ::
  (96, .goto (-76), 3, 20, 0, 0, .inl 0, []) :: s_X8_madeAlone_99
def s_X8_madeAlone_20 : List mE := (20, .iload 6, 2, 6, 0, 0, .inl 0, []) ::
  (22, .iload 4, 2, 4, 0, 0, .inl 0, []) ::
  (24, .if_icmp .ge 75, 3, 99, 0, 0, .inl 0, []) ::
  (27, .aload_n 0, 1, 0, 0, 0, .inl 0, []) ::
  (28, .getfield 56, 3, 7, 9, 3, .inr (.inr (3, 0, 74)), [487]) ::
  (31, .aload_n 0, 1, 0, 0, 0, .inl 0, []) ::
  (32, .getfield 53, 3, 7, 8, 3, .inr (.inr (3, 0, 62)), [486]) ::
  (35, .invokevirtual 278, 3, 33, 2, 0, .inl 0, [885, 3]) ::
  (38, .aload_n 0, 1, 0, 0, 0, .inl 0, []) ::
  (39, .getfield 53, 3, 7, 8, 3, .inr (.inr (3, 0, 62)), [486]) ::
  (42, .aload_n 1, 1, 1, 0, 0, .inl 0, []) ::
  (43, .iload_n 2, 1, 2, 0, 0, .inl 0, []) ::
  (44, .bipush 12, 2, 0, 0, 0, .inl (nI 12), []) ::
  (46, .invokevirtual 254, 3, 43, 4, 0, .inl 0, [845, 3]) ::
  (49, .aload_n 0, 1, 0, 0, 0, .inl 0, []) ::
  (50, .getfield 53, 3, 7, 8, 3, .inr (.inr (3, 0, 62)), [486]) ::
  (53, .aload_n 0, 1, 0, 0, 0, .inl 0, []) ::
  (54, .getfield 56, 3, 7, 9, 3, .inr (.inr (3, 0, 74)), [487]) ::
  (57, .invokevirtual 264, 3, 37, 2, 1, .inl 0, [862, 3]) ::
  (60, .ifCond .eq 33, 3, 93, 0, 0, .inl 0, []) ::
  (63, .iload 4, 2, 4, 0, 0, .inl 0, []) ::
  (65, .iconst 1, 1, 0, 0, 0, .inl (nI 1), []) ::
  (66, .isub, 1, 0, 0, 0, .inl 0, []) ::
  (67, .iload 6, 2, 6, 0, 0, .inl 0, []) ::
  (69, .isub, 1, 0, 0, 0, .inl 0, []) ::
  (70, .aload_n 0, 1, 0, 0, 0, .inl 0, []) ::
  (71, .getfield 53, 3, 7, 8, 3, .inr (.inr (3, 0, 62)), [486]) ::
  (74, .aload_n 1, 1, 1, 0, 0, .inl 0, []) ::
  (75, .invokevirtual 243, 3, 47, 2, 1, .inl 0, [804, 3]) ::
  (78, .aload_n 0, 1, 0, 0, 0, .inl 0, []) ::
  (79, .getfield 56, 3, 7, 9, 3, .inr (.inr (3, 0, 74)), [487]) ::
  (82, .aload_n 1, 1, 1, 0, 0, .inl 0, []) ::
  (83, .invokevirtual 243, 3, 47, 2, 1, .inl 0, [804, 3]) ::
  (86, .isub, 1, 0, 0, 0, .inl 0, []) ::
  (87, .imul, 1, 0, 0, 0, .inl 0, []) ::
  (88, .istore 5, 2, 5, 0, 0, .inl 0, []) ::
  (90, .goto 9, 3, 99, 0, 0, .inl 0, []) :: s_X8_madeAlone_93
def s_X8_madeAlone_0 : List mE := (0, .iload_n 3, 1, 3, 0, 0, .inl 0, []) ::
  (1, .bipush 12, 2, 0, 0, 0, .inl (nI 12), []) ::
  (3, .idiv, 1, 0, 0, 0, .inl 0, []) ::
  (4, .istore 4, 2, 4, 0, 0, .inl 0, []) ::
  (6, .iconst 0, 1, 0, 0, 0, .inl (nI 0), []) ::
  (7, .istore 5, 2, 5, 0, 0, .inl 0, []) ::
  (9, .aload_n 0, 1, 0, 0, 0, .inl 0, []) ::
  (10, .getfield 53, 3, 7, 8, 3, .inr (.inr (3, 0, 62)), [486]) ::
  (13, .aload_n 1, 1, 1, 0, 0, .inl 0, []) ::
  (14, .invokevirtual 185, 3, 44, 2, 0, .inl 0, [698, 3]) ::
  (17, .iconst 0, 1, 0, 0, 0, .inl (nI 0), []) ::
  (18, .istore 6, 2, 6, 0, 0, .inl 0, []) :: s_X8_madeAlone_20
def k_X8_madeAlone : List mE := s_X8_madeAlone_0
set_option maxRecDepth 100000 in
theorem t_X8_madeAlone_0 : dropTo 0 k_X8_madeAlone = s_X8_madeAlone_0 := rfl
set_option maxRecDepth 100000 in
theorem t_X8_madeAlone_20 : dropTo 20 k_X8_madeAlone = s_X8_madeAlone_20 := rfl
set_option maxRecDepth 100000 in
theorem t_X8_madeAlone_93 : dropTo 93 k_X8_madeAlone = s_X8_madeAlone_93 := rfl
set_option maxRecDepth 100000 in
theorem t_X8_madeAlone_99 : dropTo 99 k_X8_madeAlone = s_X8_madeAlone_99 := rfl
theorem ok_X8_madeAlone : mOkF m_X8_madeAlone k_X8_madeAlone = true := by decide +kernel
theorem cm_X8_madeAlone : mChkM m_X8_madeAlone = true := by decide +kernel
def s_X8_needed_17 : List mE := (17, .aload_n 0, 1, 0, 0, 0, .inl 0, []) ::
  (18, .getfield 19, 3, 7, 1, 3, .inr (.inr (0, 0, 4)), [479]) ::
  (21, .invokevirtual 181, 3, 2, 1, 1, .inl 0, [728, 0]) ::
  (24, .istore_n 3, 1, 3, 0, 0, .inl 0, []) ::
  (25, .aload_n 0, 1, 0, 0, 0, .inl 0, []) ::
  (26, .aload_n 0, 1, 0, 0, 0, .inl 0, []) ::
  (27, .getfield 19, 3, 7, 1, 3, .inr (.inr (0, 0, 4)), [479]) ::
  (30, .iload_n 3, 1, 3, 0, 0, .inl 0, []) ::
  (31, .iload_n 2, 1, 2, 0, 0, .inl 0, []) ::
  (32, .invokevirtual 274, 3, 114, 4, 1, .inl 0, [881, 7]) ::
  (35, .aload_n 0, 1, 0, 0, 0, .inl 0, []) ::
  (36, .aload_n 0, 1, 0, 0, 0, .inl 0, []) ::
  (37, .getfield 19, 3, 7, 1, 3, .inr (.inr (0, 0, 4)), [479]) ::
  (40, .iload_n 3, 1, 3, 0, 0, .inl 0, []) ::
  (41, .iconst 1, 1, 0, 0, 0, .inl (nI 1), []) ::
  (42, .iload_n 1, 1, 1, 0, 0, .inl 0, []) ::
  (43, .ishl, 1, 0, 0, 0, .inl 0, []) ::
  (44, .iconst (-1), 1, 0, 0, 0, .inl (-1), []) ::
  (45, .ixor, 1, 0, 0, 0, .inl 0, []) ::
  (46, .iand, 1, 0, 0, 0, .inl 0, []) ::
  (47, .iload_n 2, 1, 2, 0, 0, .inl 0, []) ::
  (48, .invokevirtual 274, 3, 114, 4, 1, .inl 0, [881, 7]) ::
  (51, .isub, 1, 0, 0, 0, .inl 0, []) ::
  (52, .ireturn, 1, 0, 0, 0, .inl 0, []) :: []
def s_X8_needed_15 : List mE := (15, .iconst (-1), 1, 0, 0, 0, .inl (-1), []) ::
  (16, .ireturn, 1, 0, 0, 0, .inl 0, []) :: s_X8_needed_17
def s_X8_needed_0 : List mE := (0, .aload_n 0, 1, 0, 0, 0, .inl 0, []) ::
  (1, .iload_n 1, 1, 1, 0, 0, .inl 0, []) ::
  (2, .invokevirtual 130, 3, 106, 2, 1, .inl 0, [682, 7]) ::
  (5, .ifCond .eq 10, 3, 15, 0, 0, .inl 0, []) ::
  (8, .iload_n 2, 1, 2, 0, 0, .inl 0, []) ::
  (9, .invokestatic 271, 3, 76, 1, 1, .inl 0, [878]) ::
  (12, .ifCond .ne 5, 3, 17, 0, 0, .inl 0, []) :: s_X8_needed_15
def k_X8_needed : List mE := s_X8_needed_0
set_option maxRecDepth 100000 in
theorem t_X8_needed_0 : dropTo 0 k_X8_needed = s_X8_needed_0 := rfl
set_option maxRecDepth 100000 in
theorem t_X8_needed_15 : dropTo 15 k_X8_needed = s_X8_needed_15 := rfl
set_option maxRecDepth 100000 in
theorem t_X8_needed_17 : dropTo 17 k_X8_needed = s_X8_needed_17 := rfl
theorem ok_X8_needed : mOkF m_X8_needed k_X8_needed = true := by decide +kernel
theorem cm_X8_needed : mChkM m_X8_needed = true := by decide +kernel
def s_X8_on_99 : List mE := (99, .iload_n 2, 1, 2, 0, 0, .inl 0, []) ::
  (100, .ireturn, 1, 0, 0, 0, .inl 0, []) :: []
def s_X8_on_38 : List mE := (38, .iload_n 3, 1, 3, 0, 0, .inl 0, []) ::
  (39, .iload_n 2, 1, 2, 0, 0, .inl 0, []) ::
  (40, .if_icmp .ge 59, 3, 99, 0, 0, .inl 0, []) ::
  (43, .aload_n 0, 1, 0, 0, 0, .inl 0, []) ::
  (44, .getfield 29, 3, 7, 3, 3, .inr (.inr (2, 0, 28)), [481]) ::
  (47, .aload_n 0, 1, 0, 0, 0, .inl 0, []) ::
  (48, .getfield 19, 3, 7, 1, 3, .inr (.inr (0, 0, 4)), [479]) ::
  (51, .aload_n 0, 1, 0, 0, 0, .inl 0, []) ::
  (52, .getfield 49, 3, 7, 7, 3, .inr (.inr (3, 0, 50)), [485]) ::
  (55, .invokevirtual 197, 3, 22, 3, 0, .inl 0, [719, 2]) ::
  (58, .aload_n 0, 1, 0, 0, 0, .inl 0, []) ::
  (59, .getfield 49, 3, 7, 7, 3, .inr (.inr (3, 0, 50)), [485]) ::
  (62, .aload_n 0, 1, 0, 0, 0, .inl 0, []) ::
  (63, .getfield 19, 3, 7, 1, 3, .inr (.inr (0, 0, 4)), [479]) ::
  (66, .aload_n 0, 1, 0, 0, 0, .inl 0, []) ::
  (67, .getfield 19, 3, 7, 1, 3, .inr (.inr (0, 0, 4)), [479]) ::
  (70, .invokevirtual 181, 3, 2, 1, 1, .inl 0, [728, 0]) ::
  (73, .aload_n 0, 1, 0, 0, 0, .inl 0, []) ::
  (74, .getfield 29, 3, 7, 3, 3, .inr (.inr (2, 0, 28)), [481]) ::
  (77, .aload_n 0, 1, 0, 0, 0, .inl 0, []) ::
  (78, .getfield 49, 3, 7, 7, 3, .inr (.inr (3, 0, 50)), [485]) ::
  (81, .getfield 123, 3, 3, 0, 0, .inl 0, [379]) ::
  (84, .invokevirtual 201, 3, 29, 2, 1, .inl 0, [732, 2]) ::
  (87, .iconst (-1), 1, 0, 0, 0, .inl (-1), []) ::
  (88, .ixor, 1, 0, 0, 0, .inl 0, []) ::
  (89, .iand, 1, 0, 0, 0, .inl 0, []) ::
  (90, .invokevirtual 205, 3, 42, 3, 0, .inl 0, [736, 3]) ::
  (93, .iinc 3 1, 3, 3, 0, 0, .inl (nI 1), []) ::
  (96, .goto (-58), 3, 38, 0, 0, .inl 0, []) :: s_X8_on_99
def s_X8_on_20 : List mE := (20, .iload_n 1, 1, 1, 0, 0, .inl 0, []) ::
  (21, .sipush 200, 3, 0, 0, 0, .inl (nI 200), []) ::
  (24, .aload_n 0, 1, 0, 0, 0, .inl 0, []) ::
  (25, .getfield 49, 3, 7, 7, 3, .inr (.inr (3, 0, 50)), [485]) ::
  (28, .getfield 123, 3, 3, 0, 0, .inl 0, [379]) ::
  (31, .isub, 1, 0, 0, 0, .inl 0, []) ::
  (32, .invokestatic 191, 3, 0, 2, 10, .inl 0, [716]) ::
  (35, .istore_n 2, 1, 2, 0, 0, .inl 0, []) ::
  (36, .iconst 0, 1, 0, 0, 0, .inl (nI 0), []) ::
  (37, .istore_n 3, 1, 3, 0, 0, .inl 0, []) :: s_X8_on_38
def s_X8_on_18 : List mE := (18, .iconst (-1), 1, 0, 0, 0, .inl (-1), []) ::
  (19, .ireturn, 1, 0, 0, 0, .inl 0, []) :: s_X8_on_20
def s_X8_on_0 : List mE := (0, .iload_n 1, 1, 1, 0, 0, .inl 0, []) ::
  (1, .ifCond .lt 17, 3, 18, 0, 0, .inl 0, []) ::
  (4, .iload_n 1, 1, 1, 0, 0, .inl 0, []) ::
  (5, .sipush 200, 3, 0, 0, 0, .inl (nI 200), []) ::
  (8, .if_icmp .gt 10, 3, 18, 0, 0, .inl 0, []) ::
  (11, .aload_n 0, 1, 0, 0, 0, .inl 0, []) ::
  (12, .invokevirtual 188, 3, 103, 1, 1, .inl 0, [712, 7]) ::
  (15, .ifCond .ne 5, 3, 20, 0, 0, .inl 0, []) :: s_X8_on_18
def k_X8_on : List mE := s_X8_on_0
set_option maxRecDepth 100000 in
theorem t_X8_on_0 : dropTo 0 k_X8_on = s_X8_on_0 := rfl
set_option maxRecDepth 100000 in
theorem t_X8_on_18 : dropTo 18 k_X8_on = s_X8_on_18 := rfl
set_option maxRecDepth 100000 in
theorem t_X8_on_20 : dropTo 20 k_X8_on = s_X8_on_20 := rfl
set_option maxRecDepth 100000 in
theorem t_X8_on_38 : dropTo 38 k_X8_on = s_X8_on_38 := rfl
set_option maxRecDepth 100000 in
theorem t_X8_on_99 : dropTo 99 k_X8_on = s_X8_on_99 := rfl
theorem ok_X8_on : mOkF m_X8_on k_X8_on = true := by decide +kernel
theorem cm_X8_on : mChkM m_X8_on = true := by decide +kernel
def s_X8_order_110 : List mE := (110, .iconst (-1), 1, 0, 0, 0, .inl (-1), []) ::
  (111, .ireturn, 1, 0, 0, 0, .inl 0, []) :: []
def s_X8_order_104 : List mE := (104, .iinc 4 1, 3, 4, 0, 0, .inl (nI 1), []) ::
  (107, .goto (-89), 3, 18, 0, 0, .inl 0, []) :: s_X8_order_110
def s_X8_order_98 : List mE := (98, .iinc 5 1, 3, 5, 0, 0, .inl (nI 1), []) ::
  (101, .goto (-54), 3, 47, 0, 0, .inl 0, []) :: s_X8_order_104
def s_X8_order_88 : List mE := (88, .iload_n 2, 1, 2, 0, 0, .inl 0, []) ::
  (89, .iconst 1, 1, 0, 0, 0, .inl (nI 1), []) ::
  (90, .iload 5, 2, 5, 0, 0, .inl 0, []) ::
  (92, .ishl, 1, 0, 0, 0, .inl 0, []) ::
  (93, .ior, 1, 0, 0, 0, .inl 0, []) ::
  (94, .istore_n 2, 1, 2, 0, 0, .inl 0, []) ::
  (95, .iinc 3 1, 3, 3, 0, 0, .inl (nI 1), []) :: s_X8_order_98
def s_X8_order_47 : List mE := (47, .iload 5, 2, 5, 0, 0, .inl 0, []) ::
  (49, .aload_n 0, 1, 0, 0, 0, .inl 0, []) ::
  (50, .getfield 19, 3, 7, 1, 3, .inr (.inr (0, 0, 4)), [479]) ::
  (53, .getfield 175, 3, 0, 1, 0, .inl 0, [249]) ::
  (56, .if_icmp .ge 48, 3, 104, 0, 0, .inl 0, []) ::
  (59, .aload_n 0, 1, 0, 0, 0, .inl 0, []) ::
  (60, .getfield 53, 3, 7, 8, 3, .inr (.inr (3, 0, 62)), [486]) ::
  (63, .iload 5, 2, 5, 0, 0, .inl 0, []) ::
  (65, .invokevirtual 225, 3, 48, 2, 1, .inl 0, [780, 3]) ::
  (68, .ifCond .eq 30, 3, 98, 0, 0, .inl 0, []) ::
  (71, .iload_n 2, 1, 2, 0, 0, .inl 0, []) ::
  (72, .iload 5, 2, 5, 0, 0, .inl 0, []) ::
  (74, .ishr, 1, 0, 0, 0, .inl 0, []) ::
  (75, .iconst 1, 1, 0, 0, 0, .inl (nI 1), []) ::
  (76, .iand, 1, 0, 0, 0, .inl 0, []) ::
  (77, .ifCond .ne 21, 3, 98, 0, 0, .inl 0, []) ::
  (80, .iload_n 3, 1, 3, 0, 0, .inl 0, []) ::
  (81, .iload_n 1, 1, 1, 0, 0, .inl 0, []) ::
  (82, .if_icmp .ne 6, 3, 88, 0, 0, .inl 0, []) ::
  (85, .iload 5, 2, 5, 0, 0, .inl 0, []) ::
  (87, .ireturn, 1, 0, 0, 0, .inl 0, []) :: s_X8_order_88
def s_X8_order_18 : List mE := (18, .iload 4, 2, 4, 0, 0, .inl 0, []) ::
  (20, .sipush 200, 3, 0, 0, 0, .inl (nI 200), []) ::
  (23, .if_icmp .ge 87, 3, 110, 0, 0, .inl 0, []) ::
  (26, .aload_n 0, 1, 0, 0, 0, .inl 0, []) ::
  (27, .getfield 53, 3, 7, 8, 3, .inr (.inr (3, 0, 62)), [486]) ::
  (30, .aload_n 0, 1, 0, 0, 0, .inl 0, []) ::
  (31, .getfield 19, 3, 7, 1, 3, .inr (.inr (0, 0, 4)), [479]) ::
  (34, .aload_n 0, 1, 0, 0, 0, .inl 0, []) ::
  (35, .getfield 19, 3, 7, 1, 3, .inr (.inr (0, 0, 4)), [479]) ::
  (38, .invokevirtual 181, 3, 2, 1, 1, .inl 0, [728, 0]) ::
  (41, .invokevirtual 205, 3, 42, 3, 0, .inl 0, [736, 3]) ::
  (44, .iconst 0, 1, 0, 0, 0, .inl (nI 0), []) ::
  (45, .istore 5, 2, 5, 0, 0, .inl 0, []) :: s_X8_order_47
def s_X8_order_0 : List mE := (0, .aload_n 0, 1, 0, 0, 0, .inl 0, []) ::
  (1, .getfield 53, 3, 7, 8, 3, .inr (.inr (3, 0, 62)), [486]) ::
  (4, .aload_n 0, 1, 0, 0, 0, .inl 0, []) ::
  (5, .getfield 19, 3, 7, 1, 3, .inr (.inr (0, 0, 4)), [479]) ::
  (8, .invokevirtual 185, 3, 44, 2, 0, .inl 0, [698, 3]) ::
  (11, .iconst 0, 1, 0, 0, 0, .inl (nI 0), []) ::
  (12, .istore_n 2, 1, 2, 0, 0, .inl 0, []) ::
  (13, .iconst 0, 1, 0, 0, 0, .inl (nI 0), []) ::
  (14, .istore_n 3, 1, 3, 0, 0, .inl 0, []) ::
  (15, .iconst 0, 1, 0, 0, 0, .inl (nI 0), []) ::
  (16, .istore 4, 2, 4, 0, 0, .inl 0, []) :: s_X8_order_18
def k_X8_order : List mE := s_X8_order_0
set_option maxRecDepth 100000 in
theorem t_X8_order_0 : dropTo 0 k_X8_order = s_X8_order_0 := rfl
set_option maxRecDepth 100000 in
theorem t_X8_order_18 : dropTo 18 k_X8_order = s_X8_order_18 := rfl
set_option maxRecDepth 100000 in
theorem t_X8_order_47 : dropTo 47 k_X8_order = s_X8_order_47 := rfl
set_option maxRecDepth 100000 in
theorem t_X8_order_88 : dropTo 88 k_X8_order = s_X8_order_88 := rfl
set_option maxRecDepth 100000 in
theorem t_X8_order_98 : dropTo 98 k_X8_order = s_X8_order_98 := rfl
set_option maxRecDepth 100000 in
theorem t_X8_order_104 : dropTo 104 k_X8_order = s_X8_order_104 := rfl
set_option maxRecDepth 100000 in
theorem t_X8_order_110 : dropTo 110 k_X8_order = s_X8_order_110 := rfl
theorem ok_X8_order : mOkF m_X8_order k_X8_order = true := by decide +kernel
theorem cm_X8_order : mChkM m_X8_order = true := by decide +kernel
def s_X8_parts_75 : List mE := (75, .ireturn, 1, 0, 0, 0, .inl 0, []) :: []
def s_X8_parts_74 : List mE := (74, .iconst (-1), 1, 0, 0, 0, .inl (-1), []) :: s_X8_parts_75
def s_X8_parts_56 : List mE := (56, .iload_n 2, 1, 2, 0, 0, .inl 0, []) ::
  (57, .bipush 7, 2, 0, 0, 0, .inl (nI 7), []) ::
  (59, .if_icmp .ne 15, 3, 74, 0, 0, .inl 0, []) ::
  (62, .aload_n 0, 1, 0, 0, 0, .inl 0, []) ::
  (63, .getfield 49, 3, 7, 7, 3, .inr (.inr (3, 0, 50)), [485]) ::
  (66, .getfield 234, 3, 3, 5, 3, .inr (.inr (16, 6, 5)), [390]) ::
  (69, .iload_n 1, 1, 1, 0, 0, .inl 0, []) ::
  (70, .iaload, 1, 0, 0, 0, .inl 0, []) ::
  (71, .goto 4, 3, 75, 0, 0, .inl 0, []) :: s_X8_parts_74
def s_X8_parts_41 : List mE := (41, .iload_n 2, 1, 2, 0, 0, .inl 0, []) ::
  (42, .bipush 6, 2, 0, 0, 0, .inl (nI 6), []) ::
  (44, .if_icmp .ne 12, 3, 56, 0, 0, .inl 0, []) ::
  (47, .aload_n 0, 1, 0, 0, 0, .inl 0, []) ::
  (48, .getfield 49, 3, 7, 7, 3, .inr (.inr (3, 0, 50)), [485]) ::
  (51, .iload_n 1, 1, 1, 0, 0, .inl 0, []) ::
  (52, .invokevirtual 231, 3, 36, 2, 1, .inl 0, [788, 3]) ::
  (55, .ireturn, 1, 0, 0, 0, .inl 0, []) :: s_X8_parts_56
def s_X8_parts_17 : List mE := (17, .iload_n 2, 1, 2, 0, 0, .inl 0, []) ::
  (18, .ifCond .lt 23, 3, 41, 0, 0, .inl 0, []) ::
  (21, .iload_n 2, 1, 2, 0, 0, .inl 0, []) ::
  (22, .iconst 5, 1, 0, 0, 0, .inl (nI 5), []) ::
  (23, .if_icmp .gt 18, 3, 41, 0, 0, .inl 0, []) ::
  (26, .aload_n 0, 1, 0, 0, 0, .inl 0, []) ::
  (27, .getfield 49, 3, 7, 7, 3, .inr (.inr (3, 0, 50)), [485]) ::
  (30, .getfield 228, 3, 3, 11, 3, .inr (.inr (16, 36, 11)), [402]) ::
  (33, .iload_n 2, 1, 2, 0, 0, .inl 0, []) ::
  (34, .bipush 6, 2, 0, 0, 0, .inl (nI 6), []) ::
  (36, .imul, 1, 0, 0, 0, .inl 0, []) ::
  (37, .iload_n 1, 1, 1, 0, 0, .inl 0, []) ::
  (38, .iadd, 1, 0, 0, 0, .inl 0, []) ::
  (39, .iaload, 1, 0, 0, 0, .inl 0, []) ::
  (40, .ireturn, 1, 0, 0, 0, .inl 0, []) :: s_X8_parts_41
def s_X8_parts_15 : List mE := (15, .iconst (-1), 1, 0, 0, 0, .inl (-1), []) ::
  (16, .ireturn, 1, 0, 0, 0, .inl 0, []) :: s_X8_parts_17
def s_X8_parts_0 : List mE := (0, .aload_n 0, 1, 0, 0, 0, .inl 0, []) ::
  (1, .invokevirtual 188, 3, 103, 1, 1, .inl 0, [712, 7]) ::
  (4, .ifCond .eq 11, 3, 15, 0, 0, .inl 0, []) ::
  (7, .aload_n 0, 1, 0, 0, 0, .inl 0, []) ::
  (8, .iload_n 1, 1, 1, 0, 0, .inl 0, []) ::
  (9, .invokevirtual 163, 3, 102, 2, 1, .inl 0, [686, 7]) ::
  (12, .ifCond .ne 5, 3, 17, 0, 0, .inl 0, []) :: s_X8_parts_15
def k_X8_parts : List mE := s_X8_parts_0
set_option maxRecDepth 100000 in
theorem t_X8_parts_0 : dropTo 0 k_X8_parts = s_X8_parts_0 := rfl
set_option maxRecDepth 100000 in
theorem t_X8_parts_15 : dropTo 15 k_X8_parts = s_X8_parts_15 := rfl
set_option maxRecDepth 100000 in
theorem t_X8_parts_17 : dropTo 17 k_X8_parts = s_X8_parts_17 := rfl
set_option maxRecDepth 100000 in
theorem t_X8_parts_41 : dropTo 41 k_X8_parts = s_X8_parts_41 := rfl
set_option maxRecDepth 100000 in
theorem t_X8_parts_56 : dropTo 56 k_X8_parts = s_X8_parts_56 := rfl
set_option maxRecDepth 100000 in
theorem t_X8_parts_74 : dropTo 74 k_X8_parts = s_X8_parts_74 := rfl
set_option maxRecDepth 100000 in
theorem t_X8_parts_75 : dropTo 75 k_X8_parts = s_X8_parts_75 := rfl
theorem ok_X8_parts : mOkF m_X8_parts k_X8_parts = true := by decide +kernel
theorem cm_X8_parts : mChkM m_X8_parts = true := by decide +kernel
def s_X8_periodAtEnd_107 : List mE := (107, .iload_n 1, 1, 1, 0, 0, .inl 0, []) ::
  (108, .ireturn, 1, 0, 0, 0, .inl 0, []) :: []
def s_X8_periodAtEnd_101 : List mE := (101, .iinc 2 1, 3, 2, 0, 0, .inl (nI 1), []) ::
  (104, .goto (-57), 3, 47, 0, 0, .inl 0, []) :: s_X8_periodAtEnd_107
def s_X8_periodAtEnd_47 : List mE := (47, .iload_n 2, 1, 2, 0, 0, .inl 0, []) ::
  (48, .sipush 188, 3, 0, 0, 0, .inl (nI 188), []) ::
  (51, .if_icmp .ge 56, 3, 107, 0, 0, .inl 0, []) ::
  (54, .aload_n 0, 1, 0, 0, 0, .inl 0, []) ::
  (55, .getfield 56, 3, 7, 9, 3, .inr (.inr (3, 0, 74)), [487]) ::
  (58, .aload_n 0, 1, 0, 0, 0, .inl 0, []) ::
  (59, .getfield 19, 3, 7, 1, 3, .inr (.inr (0, 0, 4)), [479]) ::
  (62, .aload_n 0, 1, 0, 0, 0, .inl 0, []) ::
  (63, .getfield 19, 3, 7, 1, 3, .inr (.inr (0, 0, 4)), [479]) ::
  (66, .invokevirtual 181, 3, 2, 1, 1, .inl 0, [728, 0]) ::
  (69, .invokevirtual 205, 3, 42, 3, 0, .inl 0, [736, 3]) ::
  (72, .sipush 199, 3, 0, 0, 0, .inl (nI 199), []) ::
  (75, .iload_n 2, 1, 2, 0, 0, .inl 0, []) ::
  (76, .isub, 1, 0, 0, 0, .inl 0, []) ::
  (77, .istore_n 3, 1, 3, 0, 0, .inl 0, []) ::
  (78, .iload_n 3, 1, 3, 0, 0, .inl 0, []) ::
  (79, .bipush 12, 2, 0, 0, 0, .inl (nI 12), []) ::
  (81, .irem, 1, 0, 0, 0, .inl 0, []) ::
  (82, .ifCond .ne 19, 3, 101, 0, 0, .inl 0, []) ::
  (85, .aload_n 0, 1, 0, 0, 0, .inl 0, []) ::
  (86, .getfield 56, 3, 7, 9, 3, .inr (.inr (3, 0, 74)), [487]) ::
  (89, .aload_n 0, 1, 0, 0, 0, .inl 0, []) ::
  (90, .getfield 53, 3, 7, 8, 3, .inr (.inr (3, 0, 62)), [486]) ::
  (93, .invokevirtual 264, 3, 37, 2, 1, .inl 0, [862, 3]) ::
  (96, .ifCond .eq 5, 3, 101, 0, 0, .inl 0, []) ::
  (99, .iload_n 3, 1, 3, 0, 0, .inl 0, []) ::
  (100, .istore_n 1, 1, 1, 0, 0, .inl 0, []) :: s_X8_periodAtEnd_101
def s_X8_periodAtEnd_0 : List mE := (0, .aload_n 0, 1, 0, 0, 0, .inl 0, []) ::
  (1, .getfield 53, 3, 7, 8, 3, .inr (.inr (3, 0, 62)), [486]) ::
  (4, .aload_n 0, 1, 0, 0, 0, .inl 0, []) ::
  (5, .getfield 19, 3, 7, 1, 3, .inr (.inr (0, 0, 4)), [479]) ::
  (8, .invokevirtual 185, 3, 44, 2, 0, .inl 0, [698, 3]) ::
  (11, .aload_n 0, 1, 0, 0, 0, .inl 0, []) ::
  (12, .getfield 53, 3, 7, 8, 3, .inr (.inr (3, 0, 62)), [486]) ::
  (15, .aload_n 0, 1, 0, 0, 0, .inl 0, []) ::
  (16, .getfield 19, 3, 7, 1, 3, .inr (.inr (0, 0, 4)), [479]) ::
  (19, .aload_n 0, 1, 0, 0, 0, .inl 0, []) ::
  (20, .getfield 19, 3, 7, 1, 3, .inr (.inr (0, 0, 4)), [479]) ::
  (23, .invokevirtual 181, 3, 2, 1, 1, .inl 0, [728, 0]) ::
  (26, .sipush 200, 3, 0, 0, 0, .inl (nI 200), []) ::
  (29, .invokevirtual 254, 3, 43, 4, 0, .inl 0, [845, 3]) ::
  (32, .aload_n 0, 1, 0, 0, 0, .inl 0, []) ::
  (33, .getfield 56, 3, 7, 9, 3, .inr (.inr (3, 0, 74)), [487]) ::
  (36, .aload_n 0, 1, 0, 0, 0, .inl 0, []) ::
  (37, .getfield 19, 3, 7, 1, 3, .inr (.inr (0, 0, 4)), [479]) ::
  (40, .invokevirtual 185, 3, 44, 2, 0, .inl 0, [698, 3]) ::
  (43, .iconst 0, 1, 0, 0, 0, .inl (nI 0), []) ::
  (44, .istore_n 1, 1, 1, 0, 0, .inl 0, []) ::
  (45, .iconst 0, 1, 0, 0, 0, .inl (nI 0), []) ::
  (46, .istore_n 2, 1, 2, 0, 0, .inl 0, []) :: s_X8_periodAtEnd_47
def k_X8_periodAtEnd : List mE := s_X8_periodAtEnd_0
set_option maxRecDepth 100000 in
theorem t_X8_periodAtEnd_0 : dropTo 0 k_X8_periodAtEnd = s_X8_periodAtEnd_0 := rfl
set_option maxRecDepth 100000 in
theorem t_X8_periodAtEnd_47 : dropTo 47 k_X8_periodAtEnd = s_X8_periodAtEnd_47 := rfl
set_option maxRecDepth 100000 in
theorem t_X8_periodAtEnd_101 : dropTo 101 k_X8_periodAtEnd = s_X8_periodAtEnd_101 := rfl
set_option maxRecDepth 100000 in
theorem t_X8_periodAtEnd_107 : dropTo 107 k_X8_periodAtEnd = s_X8_periodAtEnd_107 := rfl
theorem ok_X8_periodAtEnd : mOkF m_X8_periodAtEnd k_X8_periodAtEnd = true := by decide +kernel
theorem cm_X8_periodAtEnd : mChkM m_X8_periodAtEnd = true := by decide +kernel
def s_X8_plan_34 : List mE := (34, .aload_n 0, 1, 0, 0, 0, .inl 0, []) ::
  (35, .getfield 29, 3, 7, 3, 3, .inr (.inr (2, 0, 28)), [481]) ::
  (38, .aload_n 0, 1, 0, 0, 0, .inl 0, []) ::
  (39, .getfield 33, 3, 7, 4, 3, .inr (.inr (2, 0, 35)), [482]) ::
  (42, .invokevirtual 250, 3, 24, 2, 0, .inl 0, [836, 2]) ::
  (45, .aload_n 0, 1, 0, 0, 0, .inl 0, []) ::
  (46, .getfield 29, 3, 7, 3, 3, .inr (.inr (2, 0, 28)), [481]) ::
  (49, .getfield 253, 3, 2, 0, 0, .inl 0, [327]) ::
  (52, .ireturn, 1, 0, 0, 0, .inl 0, []) :: []
def s_X8_plan_0 : List mE := (0, .aload_n 0, 1, 0, 0, 0, .inl 0, []) ::
  (1, .getfield 33, 3, 7, 4, 3, .inr (.inr (2, 0, 35)), [482]) ::
  (4, .aload_n 0, 1, 0, 0, 0, .inl 0, []) ::
  (5, .getfield 12, 3, 7, 0, 3, .inr (.inr (5, 0, 1)), [478]) ::
  (8, .aload_n 0, 1, 0, 0, 0, .inl 0, []) ::
  (9, .getfield 19, 3, 7, 1, 3, .inr (.inr (0, 0, 4)), [479]) ::
  (12, .invokevirtual 247, 3, 26, 3, 1, .inl 0, [812, 2]) ::
  (15, .istore_n 1, 1, 1, 0, 0, .inl 0, []) ::
  (16, .aload_n 0, 1, 0, 0, 0, .inl 0, []) ::
  (17, .invokevirtual 109, 3, 82, 1, 0, .inl 0, [655, 7]) ::
  (20, .iload_n 1, 1, 1, 0, 0, .inl 0, []) ::
  (21, .ifCond .ne 13, 3, 34, 0, 0, .inl 0, []) ::
  (24, .iconst (-1), 1, 0, 0, 0, .inl (-1), []) ::
  (25, .aload_n 0, 1, 0, 0, 0, .inl 0, []) ::
  (26, .getfield 12, 3, 7, 0, 3, .inr (.inr (5, 0, 1)), [478]) ::
  (29, .getfield 112, 3, 5, 11, 0, .inl 0, [210]) ::
  (32, .isub, 1, 0, 0, 0, .inl 0, []) ::
  (33, .ireturn, 1, 0, 0, 0, .inl 0, []) :: s_X8_plan_34
def k_X8_plan : List mE := s_X8_plan_0
set_option maxRecDepth 100000 in
theorem t_X8_plan_0 : dropTo 0 k_X8_plan = s_X8_plan_0 := rfl
set_option maxRecDepth 100000 in
theorem t_X8_plan_34 : dropTo 34 k_X8_plan = s_X8_plan_34 := rfl
theorem ok_X8_plan : mOkF m_X8_plan k_X8_plan = true := by decide +kernel
theorem cm_X8_plan : mChkM m_X8_plan = true := by decide +kernel
def s_X8_rest_124 : List mE := (124, .iload_n 1, 1, 1, 0, 0, .inl 0, []) ::
  (125, .ireturn, 1, 0, 0, 0, .inl 0, []) :: []
def s_X8_rest_118 : List mE := (118, .iinc 3 1, 3, 3, 0, 0, .inl (nI 1), []) ::
  (121, .goto (-115), 3, 6, 0, 0, .inl 0, []) :: s_X8_rest_124
def s_X8_rest_6 : List mE := (6, .iload_n 3, 1, 3, 0, 0, .inl 0, []) ::
  (7, .bipush 7, 2, 0, 0, 0, .inl (nI 7), []) ::
  (9, .if_icmp .ge 115, 3, 124, 0, 0, .inl 0, []) ::
  (12, .aload_n 0, 1, 0, 0, 0, .inl 0, []) ::
  (13, .getfield 19, 3, 7, 1, 3, .inr (.inr (0, 0, 4)), [479]) ::
  (16, .getfield 175, 3, 0, 1, 0, .inl 0, [249]) ::
  (19, .ifCond .le 105, 3, 124, 0, 0, .inl 0, []) ::
  (22, .aload_n 0, 1, 0, 0, 0, .inl 0, []) ::
  (23, .getfield 53, 3, 7, 8, 3, .inr (.inr (3, 0, 62)), [486]) ::
  (26, .aload_n 0, 1, 0, 0, 0, .inl 0, []) ::
  (27, .getfield 19, 3, 7, 1, 3, .inr (.inr (0, 0, 4)), [479]) ::
  (30, .invokevirtual 185, 3, 44, 2, 0, .inl 0, [698, 3]) ::
  (33, .aload_n 0, 1, 0, 0, 0, .inl 0, []) ::
  (34, .getfield 53, 3, 7, 8, 3, .inr (.inr (3, 0, 62)), [486]) ::
  (37, .aload_n 0, 1, 0, 0, 0, .inl 0, []) ::
  (38, .getfield 19, 3, 7, 1, 3, .inr (.inr (0, 0, 4)), [479]) ::
  (41, .aload_n 0, 1, 0, 0, 0, .inl 0, []) ::
  (42, .getfield 19, 3, 7, 1, 3, .inr (.inr (0, 0, 4)), [479]) ::
  (45, .invokevirtual 181, 3, 2, 1, 1, .inl 0, [728, 0]) ::
  (48, .iload_n 3, 1, 3, 0, 0, .inl 0, []) ::
  (49, .bipush 12, 2, 0, 0, 0, .inl (nI 12), []) ::
  (51, .imul, 1, 0, 0, 0, .inl 0, []) ::
  (52, .invokevirtual 254, 3, 43, 4, 0, .inl 0, [845, 3]) ::
  (55, .aload_n 0, 1, 0, 0, 0, .inl 0, []) ::
  (56, .getfield 53, 3, 7, 8, 3, .inr (.inr (3, 0, 62)), [486]) ::
  (59, .aload_n 0, 1, 0, 0, 0, .inl 0, []) ::
  (60, .getfield 19, 3, 7, 1, 3, .inr (.inr (0, 0, 4)), [479]) ::
  (63, .iconst 0, 1, 0, 0, 0, .inl (nI 0), []) ::
  (64, .bipush 12, 2, 0, 0, 0, .inl (nI 12), []) ::
  (66, .invokevirtual 254, 3, 43, 4, 0, .inl 0, [845, 3]) ::
  (69, .aload_n 0, 1, 0, 0, 0, .inl 0, []) ::
  (70, .getfield 53, 3, 7, 8, 3, .inr (.inr (3, 0, 62)), [486]) ::
  (73, .aload_n 0, 1, 0, 0, 0, .inl 0, []) ::
  (74, .getfield 19, 3, 7, 1, 3, .inr (.inr (0, 0, 4)), [479]) ::
  (77, .aload_n 0, 1, 0, 0, 0, .inl 0, []) ::
  (78, .getfield 19, 3, 7, 1, 3, .inr (.inr (0, 0, 4)), [479]) ::
  (81, .invokevirtual 181, 3, 2, 1, 1, .inl 0, [728, 0]) ::
  (84, .bipush 6, 2, 0, 0, 0, .inl (nI 6), []) ::
  (86, .iload_n 3, 1, 3, 0, 0, .inl 0, []) ::
  (87, .isub, 1, 0, 0, 0, .inl 0, []) ::
  (88, .bipush 12, 2, 0, 0, 0, .inl (nI 12), []) ::
  (90, .imul, 1, 0, 0, 0, .inl 0, []) ::
  (91, .invokevirtual 254, 3, 43, 4, 0, .inl 0, [845, 3]) ::
  (94, .aload_n 0, 1, 0, 0, 0, .inl 0, []) ::
  (95, .getfield 53, 3, 7, 8, 3, .inr (.inr (3, 0, 62)), [486]) ::
  (98, .aload_n 0, 1, 0, 0, 0, .inl 0, []) ::
  (99, .getfield 19, 3, 7, 1, 3, .inr (.inr (0, 0, 4)), [479]) ::
  (102, .invokevirtual 243, 3, 47, 2, 1, .inl 0, [804, 3]) ::
  (105, .istore 4, 2, 4, 0, 0, .inl 0, []) ::
  (107, .iload 4, 2, 4, 0, 0, .inl 0, []) ::
  (109, .iload_n 2, 1, 2, 0, 0, .inl 0, []) ::
  (110, .if_icmp .le 8, 3, 118, 0, 0, .inl 0, []) ::
  (113, .iload 4, 2, 4, 0, 0, .inl 0, []) ::
  (115, .istore_n 2, 1, 2, 0, 0, .inl 0, []) ::
  (116, .iload_n 3, 1, 3, 0, 0, .inl 0, []) ::
  (117, .istore_n 1, 1, 1, 0, 0, .inl 0, []) :: s_X8_rest_118
def s_X8_rest_0 : List mE := (0, .iconst (-1), 1, 0, 0, 0, .inl (-1), []) ::
  (1, .istore_n 1, 1, 1, 0, 0, .inl 0, []) ::
  (2, .iconst (-1), 1, 0, 0, 0, .inl (-1), []) ::
  (3, .istore_n 2, 1, 2, 0, 0, .inl 0, []) ::
  (4, .iconst 0, 1, 0, 0, 0, .inl (nI 0), []) ::
  (5, .istore_n 3, 1, 3, 0, 0, .inl 0, []) :: s_X8_rest_6
def k_X8_rest : List mE := s_X8_rest_0
set_option maxRecDepth 100000 in
theorem t_X8_rest_0 : dropTo 0 k_X8_rest = s_X8_rest_0 := rfl
set_option maxRecDepth 100000 in
theorem t_X8_rest_6 : dropTo 6 k_X8_rest = s_X8_rest_6 := rfl
set_option maxRecDepth 100000 in
theorem t_X8_rest_118 : dropTo 118 k_X8_rest = s_X8_rest_118 := rfl
set_option maxRecDepth 100000 in
theorem t_X8_rest_124 : dropTo 124 k_X8_rest = s_X8_rest_124 := rfl
theorem ok_X8_rest : mOkF m_X8_rest k_X8_rest = true := by decide +kernel
theorem cm_X8_rest : mChkM m_X8_rest = true := by decide +kernel
def s_X8_restore_23 : List mE := (23, .aload_n 0, 1, 0, 0, 0, .inl 0, []) ::
  (24, .getfield 61, 3, 7, 10, 3, .inr (.inr (19, 2, 86)), [488]) ::
  (27, .iload_n 1, 1, 1, 0, 0, .inl 0, []) ::
  (28, .aaload, 1, 0, 0, 0, .inl 0, []) ::
  (29, .astore_n 2, 1, 2, 0, 0, .inl 0, []) ::
  (30, .aload_n 0, 1, 0, 0, 0, .inl 0, []) ::
  (31, .getfield 19, 3, 7, 1, 3, .inr (.inr (0, 0, 4)), [479]) ::
  (34, .aload_n 2, 1, 2, 0, 0, .inl 0, []) ::
  (35, .getfield 355, 3, 1, 1, 3, .inr (.inr (0, 0, 1)), [445]) ::
  (38, .invokevirtual 115, 3, 4, 2, 0, .inl 0, [659, 0]) ::
  (41, .aload_n 0, 1, 0, 0, 0, .inl 0, []) ::
  (42, .getfield 29, 3, 7, 3, 3, .inr (.inr (2, 0, 28)), [481]) ::
  (45, .aload_n 2, 1, 2, 0, 0, .inl 0, []) ::
  (46, .getfield 356, 3, 1, 2, 3, .inr (.inr (2, 0, 13)), [447]) ::
  (49, .invokevirtual 250, 3, 24, 2, 0, .inl 0, [836, 2]) ::
  (52, .aload_n 0, 1, 0, 0, 0, .inl 0, []) ::
  (53, .getfield 39, 3, 7, 5, 3, .inr (.inr (4, 0, 42)), [483]) ::
  (56, .aload_n 2, 1, 2, 0, 0, .inl 0, []) ::
  (57, .getfield 357, 3, 1, 3, 3, .inr (.inr (4, 0, 20)), [449]) ::
  (60, .invokevirtual 345, 3, 52, 2, 0, .inl 0, [1070, 4]) ::
  (63, .aload_n 0, 1, 0, 0, 0, .inl 0, []) ::
  (64, .getfield 49, 3, 7, 7, 3, .inr (.inr (3, 0, 50)), [485]) ::
  (67, .aload_n 2, 1, 2, 0, 0, .inl 0, []) ::
  (68, .getfield 358, 3, 1, 4, 3, .inr (.inr (3, 0, 24)), [451]) ::
  (71, .invokevirtual 278, 3, 33, 2, 0, .inl 0, [885, 3]) ::
  (74, .iconst 1, 1, 0, 0, 0, .inl (nI 1), []) ::
  (75, .ireturn, 1, 1, 0, 0, .inl 0, []) :: []
def s_X8_restore_21 : List mE := (21, .iconst 0, 1, 0, 0, 0, .inl (nI 0), []) ::
  (22, .ireturn, 1, 1, 0, 0, .inl 0, []) :: s_X8_restore_23
def s_X8_restore_0 : List mE := (0, .iload_n 1, 1, 1, 0, 0, .inl 0, []) ::
  (1, .ifCond .lt 20, 3, 21, 0, 0, .inl 0, []) ::
  (4, .iload_n 1, 1, 1, 0, 0, .inl 0, []) ::
  (5, .iconst 2, 1, 0, 0, 0, .inl (nI 2), []) ::
  (6, .if_icmp .ge 15, 3, 21, 0, 0, .inl 0, []) ::
  (9, .aload_n 0, 1, 0, 0, 0, .inl 0, []) ::
  (10, .getfield 61, 3, 7, 10, 3, .inr (.inr (19, 2, 86)), [488]) ::
  (13, .iload_n 1, 1, 1, 0, 0, .inl 0, []) ::
  (14, .aaload, 1, 0, 0, 0, .inl 0, []) ::
  (15, .getfield 359, 3, 1, 0, 2, .inl 0, [443]) ::
  (18, .ifCond .ne 5, 3, 23, 0, 0, .inl 0, []) :: s_X8_restore_21
def k_X8_restore : List mE := s_X8_restore_0
set_option maxRecDepth 100000 in
theorem t_X8_restore_0 : dropTo 0 k_X8_restore = s_X8_restore_0 := rfl
set_option maxRecDepth 100000 in
theorem t_X8_restore_21 : dropTo 21 k_X8_restore = s_X8_restore_21 := rfl
set_option maxRecDepth 100000 in
theorem t_X8_restore_23 : dropTo 23 k_X8_restore = s_X8_restore_23 := rfl
theorem ok_X8_restore : mOkF m_X8_restore k_X8_restore = true := by decide +kernel
theorem cm_X8_restore : mChkM m_X8_restore = true := by decide +kernel
def s_X8_said_84 : List mE := (84, .ireturn, 1, 0, 0, 0, .inl 0, []) :: []
def s_X8_said_83 : List mE := (83, .iconst (-1), 1, 0, 0, 0, .inl (-1), []) :: s_X8_said_84
def s_X8_said_74 : List mE := (74, .iload_n 1, 1, 1, 0, 0, .inl 0, []) ::
  (75, .iconst (-1), 1, 0, 0, 0, .inl (-1), []) ::
  (76, .if_icmp .ne 7, 3, 83, 0, 0, .inl 0, []) ::
  (79, .iload_n 2, 1, 2, 0, 0, .inl 0, []) ::
  (80, .goto 4, 3, 84, 0, 0, .inl 0, []) :: s_X8_said_83
def s_X8_said_68 : List mE := (68, .iinc 3 1, 3, 3, 0, 0, .inl (nI 1), []) ::
  (71, .goto (-43), 3, 28, 0, 0, .inl 0, []) :: s_X8_said_74
def s_X8_said_65 : List mE := (65, .iinc 2 1, 3, 2, 0, 0, .inl (nI 1), []) :: s_X8_said_68
def s_X8_said_28 : List mE := (28, .iload_n 3, 1, 3, 0, 0, .inl 0, []) ::
  (29, .aload_n 0, 1, 0, 0, 0, .inl 0, []) ::
  (30, .getfield 19, 3, 7, 1, 3, .inr (.inr (0, 0, 4)), [479]) ::
  (33, .getfield 175, 3, 0, 1, 0, .inl 0, [249]) ::
  (36, .if_icmp .ge 38, 3, 74, 0, 0, .inl 0, []) ::
  (39, .aload_n 0, 1, 0, 0, 0, .inl 0, []) ::
  (40, .getfield 39, 3, 7, 5, 3, .inr (.inr (4, 0, 42)), [483]) ::
  (43, .iload_n 3, 1, 3, 0, 0, .inl 0, []) ::
  (44, .aload_n 0, 1, 0, 0, 0, .inl 0, []) ::
  (45, .getfield 19, 3, 7, 1, 3, .inr (.inr (0, 0, 4)), [479]) ::
  (48, .aload_n 0, 1, 0, 0, 0, .inl 0, []) ::
  (49, .getfield 49, 3, 7, 7, 3, .inr (.inr (3, 0, 50)), [485]) ::
  (52, .invokevirtual 351, 3, 54, 4, 1, .inl 0, [1079, 4]) ::
  (55, .ifCond .eq 13, 3, 68, 0, 0, .inl 0, []) ::
  (58, .iload_n 2, 1, 2, 0, 0, .inl 0, []) ::
  (59, .iload_n 1, 1, 1, 0, 0, .inl 0, []) ::
  (60, .if_icmp .ne 5, 3, 65, 0, 0, .inl 0, []) ::
  (63, .iload_n 3, 1, 3, 0, 0, .inl 0, []) ::
  (64, .ireturn, 1, 0, 0, 0, .inl 0, []) :: s_X8_said_65
def s_X8_said_24 : List mE := (24, .iconst 0, 1, 0, 0, 0, .inl (nI 0), []) ::
  (25, .istore_n 2, 1, 2, 0, 0, .inl 0, []) ::
  (26, .iconst 0, 1, 0, 0, 0, .inl (nI 0), []) ::
  (27, .istore_n 3, 1, 3, 0, 0, .inl 0, []) :: s_X8_said_28
def s_X8_said_22 : List mE := (22, .iconst (-1), 1, 0, 0, 0, .inl (-1), []) ::
  (23, .ireturn, 1, 0, 0, 0, .inl 0, []) :: s_X8_said_24
def s_X8_said_0 : List mE := (0, .aload_n 0, 1, 0, 0, 0, .inl 0, []) ::
  (1, .getfield 39, 3, 7, 5, 3, .inr (.inr (4, 0, 42)), [483]) ::
  (4, .getfield 348, 3, 4, 0, 0, .inl 0, [356]) ::
  (7, .ifCond .eq 15, 3, 22, 0, 0, .inl 0, []) ::
  (10, .aload_n 0, 1, 0, 0, 0, .inl 0, []) ::
  (11, .invokevirtual 188, 3, 103, 1, 1, .inl 0, [712, 7]) ::
  (14, .ifCond .eq 8, 3, 22, 0, 0, .inl 0, []) ::
  (17, .iload_n 1, 1, 1, 0, 0, .inl 0, []) ::
  (18, .iconst (-1), 1, 0, 0, 0, .inl (-1), []) ::
  (19, .if_icmp .ge 5, 3, 24, 0, 0, .inl 0, []) :: s_X8_said_22
def k_X8_said : List mE := s_X8_said_0
set_option maxRecDepth 100000 in
theorem t_X8_said_0 : dropTo 0 k_X8_said = s_X8_said_0 := rfl
set_option maxRecDepth 100000 in
theorem t_X8_said_22 : dropTo 22 k_X8_said = s_X8_said_22 := rfl
set_option maxRecDepth 100000 in
theorem t_X8_said_24 : dropTo 24 k_X8_said = s_X8_said_24 := rfl
set_option maxRecDepth 100000 in
theorem t_X8_said_28 : dropTo 28 k_X8_said = s_X8_said_28 := rfl
set_option maxRecDepth 100000 in
theorem t_X8_said_65 : dropTo 65 k_X8_said = s_X8_said_65 := rfl
set_option maxRecDepth 100000 in
theorem t_X8_said_68 : dropTo 68 k_X8_said = s_X8_said_68 := rfl
set_option maxRecDepth 100000 in
theorem t_X8_said_74 : dropTo 74 k_X8_said = s_X8_said_74 := rfl
set_option maxRecDepth 100000 in
theorem t_X8_said_83 : dropTo 83 k_X8_said = s_X8_said_83 := rfl
set_option maxRecDepth 100000 in
theorem t_X8_said_84 : dropTo 84 k_X8_said = s_X8_said_84 := rfl
theorem ok_X8_said : mOkF m_X8_said k_X8_said = true := by decide +kernel
theorem cm_X8_said : mChkM m_X8_said = true := by decide +kernel
def s_X8_sentence_34 : List mE := (34, .aload_n 0, 1, 0, 0, 0, .inl 0, []) ::
  (35, .getfield 39, 3, 7, 5, 3, .inr (.inr (4, 0, 42)), [483]) ::
  (38, .aload_n 0, 1, 0, 0, 0, .inl 0, []) ::
  (39, .getfield 43, 3, 7, 6, 3, .inr (.inr (4, 0, 46)), [484]) ::
  (42, .invokevirtual 345, 3, 52, 2, 0, .inl 0, [1070, 4]) ::
  (45, .aload_n 0, 1, 0, 0, 0, .inl 0, []) ::
  (46, .getfield 39, 3, 7, 5, 3, .inr (.inr (4, 0, 42)), [483]) ::
  (49, .getfield 348, 3, 4, 0, 0, .inl 0, [356]) ::
  (52, .ireturn, 1, 0, 0, 0, .inl 0, []) :: []
def s_X8_sentence_0 : List mE := (0, .aload_n 0, 1, 0, 0, 0, .inl 0, []) ::
  (1, .getfield 43, 3, 7, 6, 3, .inr (.inr (4, 0, 46)), [484]) ::
  (4, .aload_n 0, 1, 0, 0, 0, .inl 0, []) ::
  (5, .getfield 12, 3, 7, 0, 3, .inr (.inr (5, 0, 1)), [478]) ::
  (8, .aload_n 0, 1, 0, 0, 0, .inl 0, []) ::
  (9, .getfield 19, 3, 7, 1, 3, .inr (.inr (0, 0, 4)), [479]) ::
  (12, .invokevirtual 344, 3, 58, 3, 1, .inl 0, [1030, 4]) ::
  (15, .istore_n 1, 1, 1, 0, 0, .inl 0, []) ::
  (16, .aload_n 0, 1, 0, 0, 0, .inl 0, []) ::
  (17, .invokevirtual 109, 3, 82, 1, 0, .inl 0, [655, 7]) ::
  (20, .iload_n 1, 1, 1, 0, 0, .inl 0, []) ::
  (21, .ifCond .ne 13, 3, 34, 0, 0, .inl 0, []) ::
  (24, .iconst (-1), 1, 0, 0, 0, .inl (-1), []) ::
  (25, .aload_n 0, 1, 0, 0, 0, .inl 0, []) ::
  (26, .getfield 12, 3, 7, 0, 3, .inr (.inr (5, 0, 1)), [478]) ::
  (29, .getfield 112, 3, 5, 11, 0, .inl 0, [210]) ::
  (32, .isub, 1, 0, 0, 0, .inl 0, []) ::
  (33, .ireturn, 1, 0, 0, 0, .inl 0, []) :: s_X8_sentence_34
def k_X8_sentence : List mE := s_X8_sentence_0
set_option maxRecDepth 100000 in
theorem t_X8_sentence_0 : dropTo 0 k_X8_sentence = s_X8_sentence_0 := rfl
set_option maxRecDepth 100000 in
theorem t_X8_sentence_34 : dropTo 34 k_X8_sentence = s_X8_sentence_34 := rfl
theorem ok_X8_sentence : mOkF m_X8_sentence k_X8_sentence = true := by decide +kernel
theorem cm_X8_sentence : mChkM m_X8_sentence = true := by decide +kernel
