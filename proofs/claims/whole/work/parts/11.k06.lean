def s_X9_readPlain_23 : List mE := (23, .aload_n 0, 1, 0, 0, 0, .inl 0, []) ::
  (24, .getfield 16, 3, 8, 15, 3, .inr (.inr (16, 278, 3)), [1211]) ::
  (27, .iload_n 1, 1, 1, 0, 0, .inl 0, []) ::
  (28, .iload_n 3, 1, 3, 0, 0, .inl 0, []) ::
  (29, .iadd, 1, 0, 0, 0, .inl 0, []) ::
  (30, .aload_n 0, 1, 0, 0, 0, .inl 0, []) ::
  (31, .getfield 147, 3, 8, 13, 0, .inl 0, [1209]) ::
  (34, .iastore, 1, 0, 0, 0, .inl 0, []) ::
  (35, .aload_n 0, 1, 0, 0, 0, .inl 0, []) ::
  (36, .getfield 16, 3, 8, 15, 3, .inr (.inr (16, 278, 3)), [1211]) ::
  (39, .iload_n 2, 1, 2, 0, 0, .inl 0, []) ::
  (40, .dup2, 1, 0, 0, 0, .inl 0, []) ::
  (41, .iaload, 1, 0, 0, 0, .inl 0, []) ::
  (42, .iconst 1, 1, 0, 0, 0, .inl (nI 1), []) ::
  (43, .iadd, 1, 0, 0, 0, .inl 0, []) ::
  (44, .iastore, 1, 0, 0, 0, .inl 0, []) ::
  (45, .iconst 1, 1, 0, 0, 0, .inl (nI 1), []) ::
  (46, .ireturn, 1, 1, 0, 0, .inl 0, []) :: []
def s_X9_readPlain_21 : List mE := (21, .iconst 0, 1, 0, 0, 0, .inl (nI 0), []) ::
  (22, .ireturn, 1, 1, 0, 0, .inl 0, []) :: s_X9_readPlain_23
def s_X9_readPlain_0 : List mE := (0, .aload_n 0, 1, 0, 0, 0, .inl 0, []) ::
  (1, .iload_n 1, 1, 1, 0, 0, .inl 0, []) ::
  (2, .invokevirtual 186, 3, 219, 2, 1, .inl 0, [1425, 8]) ::
  (5, .istore_n 3, 1, 3, 0, 0, .inl 0, []) ::
  (6, .iload_n 3, 1, 3, 0, 0, .inl 0, []) ::
  (7, .iconst (-1), 1, 0, 0, 0, .inl (-1), []) ::
  (8, .if_icmp .eq 13, 3, 21, 0, 0, .inl 0, []) ::
  (11, .aload_n 0, 1, 0, 0, 0, .inl 0, []) ::
  (12, .iconst 1, 1, 0, 0, 0, .inl (nI 1), []) ::
  (13, .bipush 9, 2, 0, 0, 0, .inl (nI 9), []) ::
  (15, .invokevirtual 171, 3, 229, 3, 1, .inl 0, [1410, 8]) ::
  (18, .ifCond .ne 5, 3, 23, 0, 0, .inl 0, []) :: s_X9_readPlain_21
def k_X9_readPlain : List mE := s_X9_readPlain_0
set_option maxRecDepth 100000 in
theorem t_X9_readPlain_0 : dropTo 0 k_X9_readPlain = s_X9_readPlain_0 := rfl
set_option maxRecDepth 100000 in
theorem t_X9_readPlain_21 : dropTo 21 k_X9_readPlain = s_X9_readPlain_21 := rfl
set_option maxRecDepth 100000 in
theorem t_X9_readPlain_23 : dropTo 23 k_X9_readPlain = s_X9_readPlain_23 := rfl
theorem ok_X9_readPlain : mOkF m_X9_readPlain k_X9_readPlain = true := by decide +kernel
theorem cm_X9_readPlain : mChkM m_X9_readPlain = true := by decide +kernel
def s_X9_readTakes_79 : List mE := (79, .aload_n 0, 1, 0, 0, 0, .inl 0, []) ::
  (80, .getfield 16, 3, 8, 15, 3, .inr (.inr (16, 278, 3)), [1211]) ::
  (83, .sipush 134, 3, 0, 0, 0, .inl (nI 134), []) ::
  (86, .iload_n 1, 1, 1, 0, 0, .inl 0, []) ::
  (87, .iadd, 1, 0, 0, 0, .inl 0, []) ::
  (88, .aload_n 0, 1, 0, 0, 0, .inl 0, []) ::
  (89, .getfield 147, 3, 8, 13, 0, .inl 0, [1209]) ::
  (92, .iastore, 1, 0, 0, 0, .inl 0, []) ::
  (93, .aload_n 0, 1, 0, 0, 0, .inl 0, []) ::
  (94, .getfield 16, 3, 8, 15, 3, .inr (.inr (16, 278, 3)), [1211]) ::
  (97, .iconst 3, 1, 0, 0, 0, .inl (nI 3), []) ::
  (98, .dup2, 1, 0, 0, 0, .inl 0, []) ::
  (99, .iaload, 1, 0, 0, 0, .inl 0, []) ::
  (100, .iconst 1, 1, 0, 0, 0, .inl (nI 1), []) ::
  (101, .iadd, 1, 0, 0, 0, .inl 0, []) ::
  (102, .iastore, 1, 0, 0, 0, .inl 0, []) ::
  (103, .iconst 1, 1, 0, 0, 0, .inl (nI 1), []) ::
  (104, .ireturn, 1, 1, 0, 0, .inl 0, []) :: []
def s_X9_readTakes_52 : List mE := (52, .aload_n 0, 1, 0, 0, 0, .inl 0, []) ::
  (53, .getfield 16, 3, 8, 15, 3, .inr (.inr (16, 278, 3)), [1211]) ::
  (56, .bipush 86, 2, 0, 0, 0, .inl (nI 86), []) ::
  (58, .iload_n 1, 1, 1, 0, 0, .inl 0, []) ::
  (59, .iadd, 1, 0, 0, 0, .inl 0, []) ::
  (60, .aload_n 0, 1, 0, 0, 0, .inl 0, []) ::
  (61, .getfield 147, 3, 8, 13, 0, .inl 0, [1209]) ::
  (64, .iastore, 1, 0, 0, 0, .inl 0, []) ::
  (65, .aload_n 0, 1, 0, 0, 0, .inl 0, []) ::
  (66, .iconst 0, 1, 0, 0, 0, .inl (nI 0), []) ::
  (67, .aload_n 0, 1, 0, 0, 0, .inl 0, []) ::
  (68, .getfield 147, 3, 8, 13, 0, .inl 0, [1209]) ::
  (71, .invokevirtual 171, 3, 229, 3, 1, .inl 0, [1410, 8]) ::
  (74, .ifCond .ne 5, 3, 79, 0, 0, .inl 0, []) ::
  (77, .iconst 0, 1, 0, 0, 0, .inl (nI 0), []) ::
  (78, .ireturn, 1, 1, 0, 0, .inl 0, []) :: s_X9_readTakes_79
def s_X9_readTakes_24 : List mE := (24, .aload_n 0, 1, 0, 0, 0, .inl 0, []) ::
  (25, .getfield 16, 3, 8, 15, 3, .inr (.inr (16, 278, 3)), [1211]) ::
  (28, .bipush 38, 2, 0, 0, 0, .inl (nI 38), []) ::
  (30, .iload_n 1, 1, 1, 0, 0, .inl 0, []) ::
  (31, .iadd, 1, 0, 0, 0, .inl 0, []) ::
  (32, .aload_n 0, 1, 0, 0, 0, .inl 0, []) ::
  (33, .getfield 147, 3, 8, 13, 0, .inl 0, [1209]) ::
  (36, .iastore, 1, 0, 0, 0, .inl 0, []) ::
  (37, .aload_n 0, 1, 0, 0, 0, .inl 0, []) ::
  (38, .aload_n 0, 1, 0, 0, 0, .inl 0, []) ::
  (39, .getfield 147, 3, 8, 13, 0, .inl 0, [1209]) ::
  (42, .bipush 99, 2, 0, 0, 0, .inl (nI 99), []) ::
  (44, .invokevirtual 171, 3, 229, 3, 1, .inl 0, [1410, 8]) ::
  (47, .ifCond .ne 5, 3, 52, 0, 0, .inl 0, []) ::
  (50, .iconst 0, 1, 0, 0, 0, .inl (nI 0), []) ::
  (51, .ireturn, 1, 1, 0, 0, .inl 0, []) :: s_X9_readTakes_52
def s_X9_readTakes_22 : List mE := (22, .iconst 0, 1, 0, 0, 0, .inl (nI 0), []) ::
  (23, .ireturn, 1, 1, 0, 0, .inl 0, []) :: s_X9_readTakes_24
def s_X9_readTakes_0 : List mE := (0, .aload_n 0, 1, 0, 0, 0, .inl 0, []) ::
  (1, .bipush 38, 2, 0, 0, 0, .inl (nI 38), []) ::
  (3, .invokevirtual 186, 3, 219, 2, 1, .inl 0, [1425, 8]) ::
  (6, .istore_n 1, 1, 1, 0, 0, .inl 0, []) ::
  (7, .iload_n 1, 1, 1, 0, 0, .inl 0, []) ::
  (8, .iconst (-1), 1, 0, 0, 0, .inl (-1), []) ::
  (9, .if_icmp .eq 13, 3, 22, 0, 0, .inl 0, []) ::
  (12, .aload_n 0, 1, 0, 0, 0, .inl 0, []) ::
  (13, .iconst 1, 1, 0, 0, 0, .inl (nI 1), []) ::
  (14, .bipush 9, 2, 0, 0, 0, .inl (nI 9), []) ::
  (16, .invokevirtual 171, 3, 229, 3, 1, .inl 0, [1410, 8]) ::
  (19, .ifCond .ne 5, 3, 24, 0, 0, .inl 0, []) :: s_X9_readTakes_22
def k_X9_readTakes : List mE := s_X9_readTakes_0
set_option maxRecDepth 100000 in
theorem t_X9_readTakes_0 : dropTo 0 k_X9_readTakes = s_X9_readTakes_0 := rfl
set_option maxRecDepth 100000 in
theorem t_X9_readTakes_22 : dropTo 22 k_X9_readTakes = s_X9_readTakes_22 := rfl
set_option maxRecDepth 100000 in
theorem t_X9_readTakes_24 : dropTo 24 k_X9_readTakes = s_X9_readTakes_24 := rfl
set_option maxRecDepth 100000 in
theorem t_X9_readTakes_52 : dropTo 52 k_X9_readTakes = s_X9_readTakes_52 := rfl
set_option maxRecDepth 100000 in
theorem t_X9_readTakes_79 : dropTo 79 k_X9_readTakes = s_X9_readTakes_79 := rfl
theorem ok_X9_readTakes : mOkF m_X9_readTakes k_X9_readTakes = true := by decide +kernel
theorem cm_X9_readTakes : mChkM m_X9_readTakes = true := by decide +kernel
def s_X9_readWork_118 : List mE := (118, .aload_n 0, 1, 0, 0, 0, .inl 0, []) ::
  (119, .getfield 16, 3, 8, 15, 3, .inr (.inr (16, 278, 3)), [1211]) ::
  (122, .iconst 1, 1, 0, 0, 0, .inl (nI 1), []) ::
  (123, .dup2, 1, 0, 0, 0, .inl 0, []) ::
  (124, .iaload, 1, 0, 0, 0, .inl 0, []) ::
  (125, .iconst 1, 1, 0, 0, 0, .inl (nI 1), []) ::
  (126, .iadd, 1, 0, 0, 0, .inl 0, []) ::
  (127, .iastore, 1, 0, 0, 0, .inl 0, []) ::
  (128, .iconst 1, 1, 0, 0, 0, .inl (nI 1), []) ::
  (129, .ireturn, 1, 1, 0, 0, .inl 0, []) :: []
def s_X9_readWork_105 : List mE := (105, .aload_n 0, 1, 0, 0, 0, .inl 0, []) ::
  (106, .getfield 16, 3, 8, 15, 3, .inr (.inr (16, 278, 3)), [1211]) ::
  (109, .bipush 22, 2, 0, 0, 0, .inl (nI 22), []) ::
  (111, .iload_n 1, 1, 1, 0, 0, .inl 0, []) ::
  (112, .iadd, 1, 0, 0, 0, .inl 0, []) ::
  (113, .aload_n 0, 1, 0, 0, 0, .inl 0, []) ::
  (114, .getfield 147, 3, 8, 13, 0, .inl 0, [1209]) ::
  (117, .iastore, 1, 0, 0, 0, .inl 0, []) :: s_X9_readWork_118
def s_X9_readWork_77 : List mE := (77, .aload_n 0, 1, 0, 0, 0, .inl 0, []) ::
  (78, .getfield 16, 3, 8, 15, 3, .inr (.inr (16, 278, 3)), [1211]) ::
  (81, .bipush 14, 2, 0, 0, 0, .inl (nI 14), []) ::
  (83, .iload_n 1, 1, 1, 0, 0, .inl 0, []) ::
  (84, .iadd, 1, 0, 0, 0, .inl 0, []) ::
  (85, .aload_n 0, 1, 0, 0, 0, .inl 0, []) ::
  (86, .getfield 147, 3, 8, 13, 0, .inl 0, [1209]) ::
  (89, .iastore, 1, 0, 0, 0, .inl 0, []) ::
  (90, .aload_n 0, 1, 0, 0, 0, .inl 0, []) ::
  (91, .aload_n 0, 1, 0, 0, 0, .inl 0, []) ::
  (92, .getfield 147, 3, 8, 13, 0, .inl 0, [1209]) ::
  (95, .bipush 11, 2, 0, 0, 0, .inl (nI 11), []) ::
  (97, .invokevirtual 171, 3, 229, 3, 1, .inl 0, [1410, 8]) ::
  (100, .ifCond .ne 5, 3, 105, 0, 0, .inl 0, []) ::
  (103, .iconst 0, 1, 0, 0, 0, .inl (nI 0), []) ::
  (104, .ireturn, 1, 1, 0, 0, .inl 0, []) :: s_X9_readWork_105
def s_X9_readWork_36 : List mE := (36, .aload_n 0, 1, 0, 0, 0, .inl 0, []) ::
  (37, .getfield 16, 3, 8, 15, 3, .inr (.inr (16, 278, 3)), [1211]) ::
  (40, .bipush 14, 2, 0, 0, 0, .inl (nI 14), []) ::
  (42, .iload_n 1, 1, 1, 0, 0, .inl 0, []) ::
  (43, .iadd, 1, 0, 0, 0, .inl 0, []) ::
  (44, .iconst 0, 1, 0, 0, 0, .inl (nI 0), []) ::
  (45, .iastore, 1, 0, 0, 0, .inl 0, []) ::
  (46, .aload_n 0, 1, 0, 0, 0, .inl 0, []) ::
  (47, .getfield 16, 3, 8, 15, 3, .inr (.inr (16, 278, 3)), [1211]) ::
  (50, .bipush 22, 2, 0, 0, 0, .inl (nI 22), []) ::
  (52, .iload_n 1, 1, 1, 0, 0, .inl 0, []) ::
  (53, .iadd, 1, 0, 0, 0, .inl 0, []) ::
  (54, .bipush 11, 2, 0, 0, 0, .inl (nI 11), []) ::
  (56, .iastore, 1, 0, 0, 0, .inl 0, []) ::
  (57, .aload_n 0, 1, 0, 0, 0, .inl 0, []) ::
  (58, .getfield 98, 3, 8, 7, 0, .inl 0, [1203]) ::
  (61, .iconst 3, 1, 0, 0, 0, .inl (nI 3), []) ::
  (62, .if_icmp .ne 56, 3, 118, 0, 0, .inl 0, []) ::
  (65, .aload_n 0, 1, 0, 0, 0, .inl 0, []) ::
  (66, .iconst 0, 1, 0, 0, 0, .inl (nI 0), []) ::
  (67, .bipush 11, 2, 0, 0, 0, .inl (nI 11), []) ::
  (69, .invokevirtual 171, 3, 229, 3, 1, .inl 0, [1410, 8]) ::
  (72, .ifCond .ne 5, 3, 77, 0, 0, .inl 0, []) ::
  (75, .iconst 0, 1, 0, 0, 0, .inl (nI 0), []) ::
  (76, .ireturn, 1, 1, 0, 0, .inl 0, []) :: s_X9_readWork_77
def s_X9_readWork_19 : List mE := (19, .aload_n 0, 1, 0, 0, 0, .inl 0, []) ::
  (20, .invokevirtual 150, 3, 162, 1, 0, .inl 0, [1361, 8]) ::
  (23, .aload_n 0, 1, 0, 0, 0, .inl 0, []) ::
  (24, .bipush 6, 2, 0, 0, 0, .inl (nI 6), []) ::
  (26, .iload_n 1, 1, 1, 0, 0, .inl 0, []) ::
  (27, .iadd, 1, 0, 0, 0, .inl 0, []) ::
  (28, .invokevirtual 168, 3, 227, 2, 1, .inl 0, [1399, 8]) ::
  (31, .ifCond .ne 5, 3, 36, 0, 0, .inl 0, []) ::
  (34, .iconst 0, 1, 0, 0, 0, .inl (nI 0), []) ::
  (35, .ireturn, 1, 1, 0, 0, .inl 0, []) :: s_X9_readWork_36
def s_X9_readWork_0 : List mE := (0, .aload_n 0, 1, 0, 0, 0, .inl 0, []) ::
  (1, .getfield 16, 3, 8, 15, 3, .inr (.inr (16, 278, 3)), [1211]) ::
  (4, .iconst 1, 1, 0, 0, 0, .inl (nI 1), []) ::
  (5, .iaload, 1, 0, 0, 0, .inl 0, []) ::
  (6, .istore_n 1, 1, 1, 0, 0, .inl 0, []) ::
  (7, .iload_n 1, 1, 1, 0, 0, .inl 0, []) ::
  (8, .bipush 8, 2, 0, 0, 0, .inl (nI 8), []) ::
  (10, .if_icmp .ne 9, 3, 19, 0, 0, .inl 0, []) ::
  (13, .aload_n 0, 1, 0, 0, 0, .inl 0, []) ::
  (14, .iconst 4, 1, 0, 0, 0, .inl (nI 4), []) ::
  (15, .invokevirtual 140, 3, 140, 2, 1, .inl 0, [1395, 8]) ::
  (18, .ireturn, 1, 1, 0, 0, .inl 0, []) :: s_X9_readWork_19
def k_X9_readWork : List mE := s_X9_readWork_0
set_option maxRecDepth 100000 in
theorem t_X9_readWork_0 : dropTo 0 k_X9_readWork = s_X9_readWork_0 := rfl
set_option maxRecDepth 100000 in
theorem t_X9_readWork_19 : dropTo 19 k_X9_readWork = s_X9_readWork_19 := rfl
set_option maxRecDepth 100000 in
theorem t_X9_readWork_36 : dropTo 36 k_X9_readWork = s_X9_readWork_36 := rfl
set_option maxRecDepth 100000 in
theorem t_X9_readWork_77 : dropTo 77 k_X9_readWork = s_X9_readWork_77 := rfl
set_option maxRecDepth 100000 in
theorem t_X9_readWork_105 : dropTo 105 k_X9_readWork = s_X9_readWork_105 := rfl
set_option maxRecDepth 100000 in
theorem t_X9_readWork_118 : dropTo 118 k_X9_readWork = s_X9_readWork_118 := rfl
theorem ok_X9_readWork : mOkF m_X9_readWork k_X9_readWork = true := by decide +kernel
theorem cm_X9_readWork : mChkM m_X9_readWork = true := by decide +kernel
def s_X9_refuse_0 : List mE := (0, .aload_n 0, 1, 0, 0, 0, .inl 0, []) ::
  (1, .iconst 1, 1, 0, 0, 0, .inl (nI 1), []) ::
  (2, .putfield 76, 3, 8, 0, 0, .inl 0, [1196]) ::
  (5, .iconst 0, 1, 0, 0, 0, .inl (nI 0), []) ::
  (6, .ireturn, 1, 0, 0, 0, .inl 0, []) :: []
def k_X9_refuse : List mE := s_X9_refuse_0
set_option maxRecDepth 100000 in
theorem t_X9_refuse_0 : dropTo 0 k_X9_refuse = s_X9_refuse_0 := rfl
theorem ok_X9_refuse : mOkF m_X9_refuse k_X9_refuse = true := by decide +kernel
theorem cm_X9_refuse : mChkM m_X9_refuse = true := by decide +kernel
def s_X9_rest_63 : List mE := (63, .iload_n 1, 1, 1, 0, 0, .inl 0, []) ::
  (64, .ireturn, 1, 0, 0, 0, .inl 0, []) :: []
def s_X9_rest_57 : List mE := (57, .iinc 3 1, 3, 3, 0, 0, .inl (nI 1), []) ::
  (60, .goto (-40), 3, 20, 0, 0, .inl 0, []) :: s_X9_rest_63
def s_X9_rest_52 : List mE := (52, .iload 4, 2, 4, 0, 0, .inl 0, []) ::
  (54, .istore_n 2, 1, 2, 0, 0, .inl 0, []) ::
  (55, .iload_n 3, 1, 3, 0, 0, .inl 0, []) ::
  (56, .istore_n 1, 1, 1, 0, 0, .inl 0, []) :: s_X9_rest_57
def s_X9_rest_20 : List mE := (20, .iload_n 3, 1, 3, 0, 0, .inl 0, []) ::
  (21, .bipush 7, 2, 0, 0, 0, .inl (nI 7), []) ::
  (23, .if_icmp .ge 40, 3, 63, 0, 0, .inl 0, []) ::
  (26, .aload_n 0, 1, 0, 0, 0, .inl 0, []) ::
  (27, .invokevirtual 285, 3, 196, 1, 0, .inl 0, [1504, 8]) ::
  (30, .aload_n 0, 1, 0, 0, 0, .inl 0, []) ::
  (31, .iload_n 3, 1, 3, 0, 0, .inl 0, []) ::
  (32, .putfield 240, 3, 8, 28, 0, .inl 0, [1224]) ::
  (35, .aload_n 0, 1, 0, 0, 0, .inl 0, []) ::
  (36, .bipush 84, 2, 0, 0, 0, .inl (nI 84), []) ::
  (38, .invokevirtual 297, 3, 238, 2, 1, .inl 0, [1621, 8]) ::
  (41, .istore 4, 2, 4, 0, 0, .inl 0, []) ::
  (43, .iload 4, 2, 4, 0, 0, .inl 0, []) ::
  (45, .iload_n 2, 1, 2, 0, 0, .inl 0, []) ::
  (46, .if_icmp .gt 6, 3, 52, 0, 0, .inl 0, []) ::
  (49, .goto 8, 3, 57, 0, 0, .inl 0, []) :: s_X9_rest_52
def s_X9_rest_14 : List mE := (14, .iconst 0, 1, 0, 0, 0, .inl (nI 0), []) ::
  (15, .istore_n 1, 1, 1, 0, 0, .inl 0, []) ::
  (16, .iconst (-1), 1, 0, 0, 0, .inl (-1), []) ::
  (17, .istore_n 2, 1, 2, 0, 0, .inl 0, []) ::
  (18, .iconst 0, 1, 0, 0, 0, .inl (nI 0), []) ::
  (19, .istore_n 3, 1, 3, 0, 0, .inl 0, []) :: s_X9_rest_20
def s_X9_rest_0 : List mE := (0, .aload_n 0, 1, 0, 0, 0, .inl 0, []) ::
  (1, .iconst 0, 1, 0, 0, 0, .inl (nI 0), []) ::
  (2, .putfield 76, 3, 8, 0, 0, .inl 0, [1196]) ::
  (5, .aload_n 0, 1, 0, 0, 0, .inl 0, []) ::
  (6, .invokevirtual 219, 3, 253, 1, 1, .inl 0, [1472, 8]) ::
  (9, .ifCond .ne 5, 3, 14, 0, 0, .inl 0, []) ::
  (12, .iconst (-1), 1, 0, 0, 0, .inl (-1), []) ::
  (13, .ireturn, 1, 0, 0, 0, .inl 0, []) :: s_X9_rest_14
def k_X9_rest : List mE := s_X9_rest_0
set_option maxRecDepth 100000 in
theorem t_X9_rest_0 : dropTo 0 k_X9_rest = s_X9_rest_0 := rfl
set_option maxRecDepth 100000 in
theorem t_X9_rest_14 : dropTo 14 k_X9_rest = s_X9_rest_14 := rfl
set_option maxRecDepth 100000 in
theorem t_X9_rest_20 : dropTo 20 k_X9_rest = s_X9_rest_20 := rfl
set_option maxRecDepth 100000 in
theorem t_X9_rest_52 : dropTo 52 k_X9_rest = s_X9_rest_52 := rfl
set_option maxRecDepth 100000 in
theorem t_X9_rest_57 : dropTo 57 k_X9_rest = s_X9_rest_57 := rfl
set_option maxRecDepth 100000 in
theorem t_X9_rest_63 : dropTo 63 k_X9_rest = s_X9_rest_63 := rfl
theorem ok_X9_rest : mOkF m_X9_rest k_X9_rest = true := by decide +kernel
theorem cm_X9_rest : mChkM m_X9_rest = true := by decide +kernel
def s_X9_restore_89 : List mE := (89, .iconst 1, 1, 0, 0, 0, .inl (nI 1), []) ::
  (90, .ireturn, 1, 1, 0, 0, .inl 0, []) :: []
def s_X9_restore_60 : List mE := (60, .iload_n 2, 1, 2, 0, 0, .inl 0, []) ::
  (61, .bipush 14, 2, 0, 0, 0, .inl (nI 14), []) ::
  (63, .if_icmp .ge 26, 3, 89, 0, 0, .inl 0, []) ::
  (66, .aload_n 0, 1, 0, 0, 0, .inl 0, []) ::
  (67, .getfield 25, 3, 8, 18, 3, .inr (.inr (17, 14, 6)), [1214]) ::
  (70, .iload_n 2, 1, 2, 0, 0, .inl 0, []) ::
  (71, .aload_n 0, 1, 0, 0, 0, .inl 0, []) ::
  (72, .getfield 32, 3, 8, 20, 3, .inr (.inr (17, 28, 8)), [1216]) ::
  (75, .bipush 14, 2, 0, 0, 0, .inl (nI 14), []) ::
  (77, .iload_n 1, 1, 1, 0, 0, .inl 0, []) ::
  (78, .imul, 1, 0, 0, 0, .inl 0, []) ::
  (79, .iload_n 2, 1, 2, 0, 0, .inl 0, []) ::
  (80, .iadd, 1, 0, 0, 0, .inl 0, []) ::
  (81, .laload, 1, 0, 0, 0, .inl 0, []) ::
  (82, .lastore, 1, 0, 0, 0, .inl 0, []) ::
  (83, .iinc 2 1, 3, 2, 0, 0, .inl (nI 1), []) ::
  (86, .goto (-26), 3, 60, 0, 0, .inl 0, []) :: s_X9_restore_89
def s_X9_restore_58 : List mE := (58, .iconst 0, 1, 0, 0, 0, .inl (nI 0), []) ::
  (59, .istore_n 2, 1, 2, 0, 0, .inl 0, []) :: s_X9_restore_60
def s_X9_restore_27 : List mE := (27, .iload_n 2, 1, 2, 0, 0, .inl 0, []) ::
  (28, .sipush 925, 3, 0, 0, 0, .inl (nI 925), []) ::
  (31, .if_icmp .ge 27, 3, 58, 0, 0, .inl 0, []) ::
  (34, .aload_n 0, 1, 0, 0, 0, .inl 0, []) ::
  (35, .getfield 13, 3, 8, 14, 3, .inr (.inr (16, 925, 2)), [1210]) ::
  (38, .iload_n 2, 1, 2, 0, 0, .inl 0, []) ::
  (39, .aload_n 0, 1, 0, 0, 0, .inl 0, []) ::
  (40, .getfield 22, 3, 8, 17, 3, .inr (.inr (16, 1850, 5)), [1213]) ::
  (43, .sipush 925, 3, 0, 0, 0, .inl (nI 925), []) ::
  (46, .iload_n 1, 1, 1, 0, 0, .inl 0, []) ::
  (47, .imul, 1, 0, 0, 0, .inl 0, []) ::
  (48, .iload_n 2, 1, 2, 0, 0, .inl 0, []) ::
  (49, .iadd, 1, 0, 0, 0, .inl 0, []) ::
  (50, .iaload, 1, 0, 0, 0, .inl 0, []) ::
  (51, .iastore, 1, 0, 0, 0, .inl 0, []) ::
  (52, .iinc 2 1, 3, 2, 0, 0, .inl (nI 1), []) ::
  (55, .goto (-28), 3, 27, 0, 0, .inl 0, []) :: s_X9_restore_58
def s_X9_restore_25 : List mE := (25, .iconst 0, 1, 0, 0, 0, .inl (nI 0), []) ::
  (26, .istore_n 2, 1, 2, 0, 0, .inl 0, []) :: s_X9_restore_27
def s_X9_restore_23 : List mE := (23, .iconst 0, 1, 0, 0, 0, .inl (nI 0), []) ::
  (24, .ireturn, 1, 1, 0, 0, .inl 0, []) :: s_X9_restore_25
def s_X9_restore_0 : List mE := (0, .aload_n 0, 1, 0, 0, 0, .inl 0, []) ::
  (1, .iconst 0, 1, 0, 0, 0, .inl (nI 0), []) ::
  (2, .putfield 76, 3, 8, 0, 0, .inl 0, [1196]) ::
  (5, .iload_n 1, 1, 1, 0, 0, .inl 0, []) ::
  (6, .iconst 0, 1, 0, 0, 0, .inl (nI 0), []) ::
  (7, .iconst 1, 1, 0, 0, 0, .inl (nI 1), []) ::
  (8, .invokestatic 143, 3, 177, 3, 1, .inl 0, [1414]) ::
  (11, .ifCond .eq 12, 3, 23, 0, 0, .inl 0, []) ::
  (14, .aload_n 0, 1, 0, 0, 0, .inl 0, []) ::
  (15, .getfield 35, 3, 8, 21, 3, .inr (.inr (18, 2, 9)), [1217]) ::
  (18, .iload_n 1, 1, 1, 0, 0, .inl 0, []) ::
  (19, .baload, 1, 0, 0, 0, .inl 0, []) ::
  (20, .ifCond .ne 5, 3, 25, 0, 0, .inl 0, []) :: s_X9_restore_23
def k_X9_restore : List mE := s_X9_restore_0
set_option maxRecDepth 100000 in
theorem t_X9_restore_0 : dropTo 0 k_X9_restore = s_X9_restore_0 := rfl
set_option maxRecDepth 100000 in
theorem t_X9_restore_23 : dropTo 23 k_X9_restore = s_X9_restore_23 := rfl
set_option maxRecDepth 100000 in
theorem t_X9_restore_25 : dropTo 25 k_X9_restore = s_X9_restore_25 := rfl
set_option maxRecDepth 100000 in
theorem t_X9_restore_27 : dropTo 27 k_X9_restore = s_X9_restore_27 := rfl
set_option maxRecDepth 100000 in
theorem t_X9_restore_58 : dropTo 58 k_X9_restore = s_X9_restore_58 := rfl
set_option maxRecDepth 100000 in
theorem t_X9_restore_60 : dropTo 60 k_X9_restore = s_X9_restore_60 := rfl
set_option maxRecDepth 100000 in
theorem t_X9_restore_89 : dropTo 89 k_X9_restore = s_X9_restore_89 := rfl
theorem ok_X9_restore : mOkF m_X9_restore k_X9_restore = true := by decide +kernel
theorem cm_X9_restore : mChkM m_X9_restore = true := by decide +kernel
def s_X9_run_31 : List mE := (31, .aload_n 0, 1, 0, 0, 0, .inl 0, []) ::
  (32, .aload_n 0, 1, 0, 0, 0, .inl 0, []) ::
  (33, .getfield 42, 3, 8, 23, 3, .inr (.inr (16, 296, 11)), [1219]) ::
  (36, .iconst 0, 1, 0, 0, 0, .inl (nI 0), []) ::
  (37, .invokevirtual 281, 3, 205, 3, 1, .inl 0, [1586, 8]) ::
  (40, .ireturn, 1, 0, 0, 0, .inl 0, []) :: []
def s_X9_run_11 : List mE := (11, .iload_n 2, 1, 2, 0, 0, .inl 0, []) ::
  (12, .iload_n 1, 1, 1, 0, 0, .inl 0, []) ::
  (13, .if_icmp .ge 18, 3, 31, 0, 0, .inl 0, []) ::
  (16, .aload_n 0, 1, 0, 0, 0, .inl 0, []) ::
  (17, .aload_n 0, 1, 0, 0, 0, .inl 0, []) ::
  (18, .getfield 42, 3, 8, 23, 3, .inr (.inr (16, 296, 11)), [1219]) ::
  (21, .iconst 0, 1, 0, 0, 0, .inl (nI 0), []) ::
  (22, .invokevirtual 278, 3, 171, 3, 0, .inl 0, [1520, 8]) ::
  (25, .iinc 2 1, 3, 2, 0, 0, .inl (nI 1), []) ::
  (28, .goto (-17), 3, 11, 0, 0, .inl 0, []) :: s_X9_run_31
def s_X9_run_0 : List mE := (0, .aload_n 0, 1, 0, 0, 0, .inl 0, []) ::
  (1, .aload_n 0, 1, 0, 0, 0, .inl 0, []) ::
  (2, .getfield 42, 3, 8, 23, 3, .inr (.inr (16, 296, 11)), [1219]) ::
  (5, .iconst 0, 1, 0, 0, 0, .inl (nI 0), []) ::
  (6, .invokevirtual 274, 3, 242, 3, 0, .inl 0, [1508, 8]) ::
  (9, .iconst 0, 1, 0, 0, 0, .inl (nI 0), []) ::
  (10, .istore_n 2, 1, 2, 0, 0, .inl 0, []) :: s_X9_run_11
def k_X9_run : List mE := s_X9_run_0
set_option maxRecDepth 100000 in
theorem t_X9_run_0 : dropTo 0 k_X9_run = s_X9_run_0 := rfl
set_option maxRecDepth 100000 in
theorem t_X9_run_11 : dropTo 11 k_X9_run = s_X9_run_11 := rfl
set_option maxRecDepth 100000 in
theorem t_X9_run_31 : dropTo 31 k_X9_run = s_X9_run_31 := rfl
theorem ok_X9_run : mOkF m_X9_run k_X9_run = true := by decide +kernel
theorem cm_X9_run : mChkM m_X9_run = true := by decide +kernel
def s_X9_said_82 : List mE := (82, .ireturn, 1, 0, 0, 0, .inl 0, []) :: []
def s_X9_said_81 : List mE := (81, .iconst (-1), 1, 0, 0, 0, .inl (-1), []) :: s_X9_said_82
def s_X9_said_72 : List mE := (72, .iload_n 1, 1, 1, 0, 0, .inl 0, []) ::
  (73, .iconst (-1), 1, 0, 0, 0, .inl (-1), []) ::
  (74, .if_icmp .ne 7, 3, 81, 0, 0, .inl 0, []) ::
  (77, .iload_n 2, 1, 2, 0, 0, .inl 0, []) ::
  (78, .goto 4, 3, 82, 0, 0, .inl 0, []) :: s_X9_said_81
def s_X9_said_66 : List mE := (66, .iinc 3 1, 3, 3, 0, 0, .inl (nI 1), []) ::
  (69, .goto (-40), 3, 29, 0, 0, .inl 0, []) :: s_X9_said_72
def s_X9_said_63 : List mE := (63, .iinc 2 1, 3, 2, 0, 0, .inl (nI 1), []) :: s_X9_said_66
def s_X9_said_56 : List mE := (56, .iload_n 2, 1, 2, 0, 0, .inl 0, []) ::
  (57, .iload_n 1, 1, 1, 0, 0, .inl 0, []) ::
  (58, .if_icmp .ne 5, 3, 63, 0, 0, .inl 0, []) ::
  (61, .iload_n 3, 1, 3, 0, 0, .inl 0, []) ::
  (62, .ireturn, 1, 0, 0, 0, .inl 0, []) :: s_X9_said_63
def s_X9_said_29 : List mE := (29, .iload_n 3, 1, 3, 0, 0, .inl 0, []) ::
  (30, .aload_n 0, 1, 0, 0, 0, .inl 0, []) ::
  (31, .invokevirtual 219, 3, 253, 1, 1, .inl 0, [1472, 8]) ::
  (34, .if_icmp .ge 38, 3, 72, 0, 0, .inl 0, []) ::
  (37, .aload_n 0, 1, 0, 0, 0, .inl 0, []) ::
  (38, .aload_n 0, 1, 0, 0, 0, .inl 0, []) ::
  (39, .getfield 13, 3, 8, 14, 3, .inr (.inr (16, 925, 2)), [1210]) ::
  (42, .sipush 380, 3, 0, 0, 0, .inl (nI 380), []) ::
  (45, .iaload, 1, 0, 0, 0, .inl 0, []) ::
  (46, .iload_n 3, 1, 3, 0, 0, .inl 0, []) ::
  (47, .invokevirtual 399, 3, 170, 3, 1, .inl 0, [1791, 8]) ::
  (50, .ifCond .ne 6, 3, 56, 0, 0, .inl 0, []) ::
  (53, .goto 13, 3, 66, 0, 0, .inl 0, []) :: s_X9_said_56
def s_X9_said_25 : List mE := (25, .iconst 0, 1, 0, 0, 0, .inl (nI 0), []) ::
  (26, .istore_n 2, 1, 2, 0, 0, .inl 0, []) ::
  (27, .iconst 0, 1, 0, 0, 0, .inl (nI 0), []) ::
  (28, .istore_n 3, 1, 3, 0, 0, .inl 0, []) :: s_X9_said_29
def s_X9_said_23 : List mE := (23, .iconst (-1), 1, 0, 0, 0, .inl (-1), []) ::
  (24, .ireturn, 1, 0, 0, 0, .inl 0, []) :: s_X9_said_25
def s_X9_said_0 : List mE := (0, .aload_n 0, 1, 0, 0, 0, .inl 0, []) ::
  (1, .iconst 0, 1, 0, 0, 0, .inl (nI 0), []) ::
  (2, .putfield 76, 3, 8, 0, 0, .inl 0, [1196]) ::
  (5, .aload_n 0, 1, 0, 0, 0, .inl 0, []) ::
  (6, .getfield 13, 3, 8, 14, 3, .inr (.inr (16, 925, 2)), [1210]) ::
  (9, .sipush 379, 3, 0, 0, 0, .inl (nI 379), []) ::
  (12, .iaload, 1, 0, 0, 0, .inl 0, []) ::
  (13, .ifCond .eq 10, 3, 23, 0, 0, .inl 0, []) ::
  (16, .aload_n 0, 1, 0, 0, 0, .inl 0, []) ::
  (17, .invokevirtual 288, 3, 180, 1, 1, .inl 0, [1516, 8]) ::
  (20, .ifCond .ne 5, 3, 25, 0, 0, .inl 0, []) :: s_X9_said_23
def k_X9_said : List mE := s_X9_said_0
set_option maxRecDepth 100000 in
theorem t_X9_said_0 : dropTo 0 k_X9_said = s_X9_said_0 := rfl
set_option maxRecDepth 100000 in
theorem t_X9_said_23 : dropTo 23 k_X9_said = s_X9_said_23 := rfl
set_option maxRecDepth 100000 in
theorem t_X9_said_25 : dropTo 25 k_X9_said = s_X9_said_25 := rfl
set_option maxRecDepth 100000 in
theorem t_X9_said_29 : dropTo 29 k_X9_said = s_X9_said_29 := rfl
set_option maxRecDepth 100000 in
theorem t_X9_said_56 : dropTo 56 k_X9_said = s_X9_said_56 := rfl
set_option maxRecDepth 100000 in
theorem t_X9_said_63 : dropTo 63 k_X9_said = s_X9_said_63 := rfl
set_option maxRecDepth 100000 in
theorem t_X9_said_66 : dropTo 66 k_X9_said = s_X9_said_66 := rfl
set_option maxRecDepth 100000 in
theorem t_X9_said_72 : dropTo 72 k_X9_said = s_X9_said_72 := rfl
set_option maxRecDepth 100000 in
theorem t_X9_said_81 : dropTo 81 k_X9_said = s_X9_said_81 := rfl
set_option maxRecDepth 100000 in
theorem t_X9_said_82 : dropTo 82 k_X9_said = s_X9_said_82 := rfl
theorem ok_X9_said : mOkF m_X9_said k_X9_said = true := by decide +kernel
theorem cm_X9_said : mChkM m_X9_said = true := by decide +kernel
def s_X9_sentence_108 : List mE := (108, .aload_n 0, 1, 0, 0, 0, .inl 0, []) ::
  (109, .getfield 378, 3, 8, 42, 0, .inl 0, [1238]) ::
  (112, .ireturn, 1, 0, 0, 0, .inl 0, []) :: []
def s_X9_sentence_79 : List mE := (79, .iload_n 1, 1, 1, 0, 0, .inl 0, []) ::
  (80, .sipush 240, 3, 0, 0, 0, .inl (nI 240), []) ::
  (83, .if_icmp .ge 25, 3, 108, 0, 0, .inl 0, []) ::
  (86, .aload_n 0, 1, 0, 0, 0, .inl 0, []) ::
  (87, .getfield 13, 3, 8, 14, 3, .inr (.inr (16, 925, 2)), [1210]) ::
  (90, .sipush 381, 3, 0, 0, 0, .inl (nI 381), []) ::
  (93, .iload_n 1, 1, 1, 0, 0, .inl 0, []) ::
  (94, .iadd, 1, 0, 0, 0, .inl 0, []) ::
  (95, .aload_n 0, 1, 0, 0, 0, .inl 0, []) ::
  (96, .getfield 73, 3, 8, 40, 3, .inr (.inr (16, 240, 20)), [1236]) ::
  (99, .iload_n 1, 1, 1, 0, 0, .inl 0, []) ::
  (100, .iaload, 1, 0, 0, 0, .inl 0, []) ::
  (101, .iastore, 1, 0, 0, 0, .inl 0, []) ::
  (102, .iinc 1 1, 3, 1, 0, 0, .inl (nI 1), []) ::
  (105, .goto (-26), 3, 79, 0, 0, .inl 0, []) :: s_X9_sentence_108
def s_X9_sentence_56 : List mE := (56, .aload_n 0, 1, 0, 0, 0, .inl 0, []) ::
  (57, .getfield 13, 3, 8, 14, 3, .inr (.inr (16, 925, 2)), [1210]) ::
  (60, .sipush 379, 3, 0, 0, 0, .inl (nI 379), []) ::
  (63, .iconst 1, 1, 0, 0, 0, .inl (nI 1), []) ::
  (64, .iastore, 1, 0, 0, 0, .inl 0, []) ::
  (65, .aload_n 0, 1, 0, 0, 0, .inl 0, []) ::
  (66, .getfield 13, 3, 8, 14, 3, .inr (.inr (16, 925, 2)), [1210]) ::
  (69, .sipush 380, 3, 0, 0, 0, .inl (nI 380), []) ::
  (72, .aload_n 0, 1, 0, 0, 0, .inl 0, []) ::
  (73, .getfield 368, 3, 8, 44, 0, .inl 0, [1240]) ::
  (76, .iastore, 1, 0, 0, 0, .inl 0, []) ::
  (77, .iconst 0, 1, 0, 0, 0, .inl (nI 0), []) ::
  (78, .istore_n 1, 1, 1, 0, 0, .inl 0, []) :: s_X9_sentence_79
def s_X9_sentence_36 : List mE := (36, .aload_n 0, 1, 0, 0, 0, .inl 0, []) ::
  (37, .getfield 98, 3, 8, 7, 0, .inl 0, [1203]) ::
  (40, .ifCond .eq 16, 3, 56, 0, 0, .inl 0, []) ::
  (43, .aload_n 0, 1, 0, 0, 0, .inl 0, []) ::
  (44, .iconst 1, 1, 0, 0, 0, .inl (nI 1), []) ::
  (45, .invokevirtual 140, 3, 140, 2, 1, .inl 0, [1395, 8]) ::
  (48, .pop, 1, 0, 0, 0, .inl 0, []) ::
  (49, .iconst (-1), 1, 0, 0, 0, .inl (-1), []) ::
  (50, .aload_n 0, 1, 0, 0, 0, .inl 0, []) ::
  (51, .getfield 137, 3, 8, 11, 0, .inl 0, [1207]) ::
  (54, .isub, 1, 0, 0, 0, .inl 0, []) ::
  (55, .ireturn, 1, 0, 0, 0, .inl 0, []) :: s_X9_sentence_56
def s_X9_sentence_0 : List mE := (0, .aload_n 0, 1, 0, 0, 0, .inl 0, []) ::
  (1, .sipush 200, 3, 0, 0, 0, .inl (nI 200), []) ::
  (4, .invokevirtual 213, 3, 141, 2, 0, .inl 0, [1353, 8]) ::
  (7, .aload_n 0, 1, 0, 0, 0, .inl 0, []) ::
  (8, .iconst 0, 1, 0, 0, 0, .inl (nI 0), []) ::
  (9, .putfield 362, 3, 8, 41, 0, .inl 0, [1237]) ::
  (12, .aload_n 0, 1, 0, 0, 0, .inl 0, []) ::
  (13, .iconst 0, 1, 0, 0, 0, .inl (nI 0), []) ::
  (14, .putfield 378, 3, 8, 42, 0, .inl 0, [1238]) ::
  (17, .aload_n 0, 1, 0, 0, 0, .inl 0, []) ::
  (18, .iconst 0, 1, 0, 0, 0, .inl (nI 0), []) ::
  (19, .putfield 381, 3, 8, 43, 0, .inl 0, [1239]) ::
  (22, .aload_n 0, 1, 0, 0, 0, .inl 0, []) ::
  (23, .invokevirtual 396, 3, 231, 1, 1, .inl 0, [1755, 8]) ::
  (26, .ifCond .ne 10, 3, 36, 0, 0, .inl 0, []) ::
  (29, .iconst (-1), 1, 0, 0, 0, .inl (-1), []) ::
  (30, .aload_n 0, 1, 0, 0, 0, .inl 0, []) ::
  (31, .getfield 137, 3, 8, 11, 0, .inl 0, [1207]) ::
  (34, .isub, 1, 0, 0, 0, .inl 0, []) ::
  (35, .ireturn, 1, 0, 0, 0, .inl 0, []) :: s_X9_sentence_36
def k_X9_sentence : List mE := s_X9_sentence_0
set_option maxRecDepth 100000 in
theorem t_X9_sentence_0 : dropTo 0 k_X9_sentence = s_X9_sentence_0 := rfl
set_option maxRecDepth 100000 in
theorem t_X9_sentence_36 : dropTo 36 k_X9_sentence = s_X9_sentence_36 := rfl
set_option maxRecDepth 100000 in
theorem t_X9_sentence_56 : dropTo 56 k_X9_sentence = s_X9_sentence_56 := rfl
set_option maxRecDepth 100000 in
theorem t_X9_sentence_79 : dropTo 79 k_X9_sentence = s_X9_sentence_79 := rfl
set_option maxRecDepth 100000 in
theorem t_X9_sentence_108 : dropTo 108 k_X9_sentence = s_X9_sentence_108 := rfl
theorem ok_X9_sentence : mOkF m_X9_sentence k_X9_sentence = true := by decide +kernel
theorem cm_X9_sentence : mChkM m_X9_sentence = true := by decide +kernel
def s_X9_spelt_102 : List mE := (102, .lreturn, 1, 0, 0, 0, .inl 0, []) :: []
def s_X9_spelt_100 : List mE := (100, .lload 6, 2, 6, 0, 0, .inl 0, []) :: s_X9_spelt_102
def s_X9_spelt_78 : List mE := (78, .iload 5, 2, 5, 0, 0, .inl 0, []) ::
  (80, .ifCond .le 20, 3, 100, 0, 0, .inl 0, []) ::
  (83, .ldc2_w 122, 3, 0, 0, 0, .inr (.inl 27), [1375]) ::
  (86, .lload 6, 2, 6, 0, 0, .inl 0, []) ::
  (88, .lmul, 1, 0, 0, 0, .inl 0, []) ::
  (89, .iload 5, 2, 5, 0, 0, .inl 0, []) ::
  (91, .i2l, 1, 0, 0, 0, .inl 0, []) ::
  (92, .ladd, 1, 0, 0, 0, .inl 0, []) ::
  (93, .ldc2_w 124, 3, 0, 0, 0, .inr (.inl 96), [1376]) ::
  (96, .lsub, 1, 0, 0, 0, .inl 0, []) ::
  (97, .goto 5, 3, 102, 0, 0, .inl 0, []) :: s_X9_spelt_100
def s_X9_spelt_57 : List mE := (57, .iload 4, 2, 4, 0, 0, .inl 0, []) ::
  (59, .ifCond .le 19, 3, 78, 0, 0, .inl 0, []) ::
  (62, .ldc2_w 122, 3, 0, 0, 0, .inr (.inl 27), [1375]) ::
  (65, .lload 6, 2, 6, 0, 0, .inl 0, []) ::
  (67, .lmul, 1, 0, 0, 0, .inl 0, []) ::
  (68, .iload 4, 2, 4, 0, 0, .inl 0, []) ::
  (70, .i2l, 1, 0, 0, 0, .inl 0, []) ::
  (71, .ladd, 1, 0, 0, 0, .inl 0, []) ::
  (72, .ldc2_w 124, 3, 0, 0, 0, .inr (.inl 96), [1376]) ::
  (75, .lsub, 1, 0, 0, 0, .inl 0, []) ::
  (76, .lstore 6, 2, 6, 0, 0, .inl 0, []) :: s_X9_spelt_78
def s_X9_spelt_38 : List mE := (38, .iload_n 3, 1, 3, 0, 0, .inl 0, []) ::
  (39, .ifCond .le 18, 3, 57, 0, 0, .inl 0, []) ::
  (42, .ldc2_w 122, 3, 0, 0, 0, .inr (.inl 27), [1375]) ::
  (45, .lload 6, 2, 6, 0, 0, .inl 0, []) ::
  (47, .lmul, 1, 0, 0, 0, .inl 0, []) ::
  (48, .iload_n 3, 1, 3, 0, 0, .inl 0, []) ::
  (49, .i2l, 1, 0, 0, 0, .inl 0, []) ::
  (50, .ladd, 1, 0, 0, 0, .inl 0, []) ::
  (51, .ldc2_w 124, 3, 0, 0, 0, .inr (.inl 96), [1376]) ::
  (54, .lsub, 1, 0, 0, 0, .inl 0, []) ::
  (55, .lstore 6, 2, 6, 0, 0, .inl 0, []) :: s_X9_spelt_57
def s_X9_spelt_0 : List mE := (0, .ldc2_w 122, 3, 0, 0, 0, .inr (.inl 27), [1375]) ::
  (3, .iload_n 0, 1, 0, 0, 0, .inl 0, []) ::
  (4, .i2l, 1, 0, 0, 0, .inl 0, []) ::
  (5, .ldc2_w 124, 3, 0, 0, 0, .inr (.inl 96), [1376]) ::
  (8, .lsub, 1, 0, 0, 0, .inl 0, []) ::
  (9, .lmul, 1, 0, 0, 0, .inl 0, []) ::
  (10, .iload_n 1, 1, 1, 0, 0, .inl 0, []) ::
  (11, .i2l, 1, 0, 0, 0, .inl 0, []) ::
  (12, .ladd, 1, 0, 0, 0, .inl 0, []) ::
  (13, .ldc2_w 124, 3, 0, 0, 0, .inr (.inl 96), [1376]) ::
  (16, .lsub, 1, 0, 0, 0, .inl 0, []) ::
  (17, .lstore 6, 2, 6, 0, 0, .inl 0, []) ::
  (19, .iload_n 2, 1, 2, 0, 0, .inl 0, []) ::
  (20, .ifCond .le 18, 3, 38, 0, 0, .inl 0, []) ::
  (23, .ldc2_w 122, 3, 0, 0, 0, .inr (.inl 27), [1375]) ::
  (26, .lload 6, 2, 6, 0, 0, .inl 0, []) ::
  (28, .lmul, 1, 0, 0, 0, .inl 0, []) ::
  (29, .iload_n 2, 1, 2, 0, 0, .inl 0, []) ::
  (30, .i2l, 1, 0, 0, 0, .inl 0, []) ::
  (31, .ladd, 1, 0, 0, 0, .inl 0, []) ::
  (32, .ldc2_w 124, 3, 0, 0, 0, .inr (.inl 96), [1376]) ::
  (35, .lsub, 1, 0, 0, 0, .inl 0, []) ::
  (36, .lstore 6, 2, 6, 0, 0, .inl 0, []) :: s_X9_spelt_38
def k_X9_spelt : List mE := s_X9_spelt_0
set_option maxRecDepth 100000 in
theorem t_X9_spelt_0 : dropTo 0 k_X9_spelt = s_X9_spelt_0 := rfl
set_option maxRecDepth 100000 in
theorem t_X9_spelt_38 : dropTo 38 k_X9_spelt = s_X9_spelt_38 := rfl
set_option maxRecDepth 100000 in
theorem t_X9_spelt_57 : dropTo 57 k_X9_spelt = s_X9_spelt_57 := rfl
set_option maxRecDepth 100000 in
theorem t_X9_spelt_78 : dropTo 78 k_X9_spelt = s_X9_spelt_78 := rfl
set_option maxRecDepth 100000 in
theorem t_X9_spelt_100 : dropTo 100 k_X9_spelt = s_X9_spelt_100 := rfl
set_option maxRecDepth 100000 in
theorem t_X9_spelt_102 : dropTo 102 k_X9_spelt = s_X9_spelt_102 := rfl
theorem ok_X9_spelt : mOkF m_X9_spelt k_X9_spelt = true := by decide +kernel
theorem cm_X9_spelt : mChkM m_X9_spelt = true := by decide +kernel
def s_X9_start_82 : List mE := (82, .return_, 1, 0, 0, 0, .inl 0, []) :: []
def s_X9_start_60 : List mE := (60, .iload_n 3, 1, 3, 0, 0, .inl 0, []) ::
  (61, .bipush 8, 2, 0, 0, 0, .inl (nI 8), []) ::
  (63, .if_icmp .ge 19, 3, 82, 0, 0, .inl 0, []) ::
  (66, .aload_n 1, 1, 1, 0, 0, .inl 0, []) ::
  (67, .iload_n 2, 1, 2, 0, 0, .inl 0, []) ::
  (68, .sipush 244, 3, 0, 0, 0, .inl (nI 244), []) ::
  (71, .iadd, 1, 0, 0, 0, .inl 0, []) ::
  (72, .iload_n 3, 1, 3, 0, 0, .inl 0, []) ::
  (73, .iadd, 1, 0, 0, 0, .inl 0, []) ::
  (74, .iconst (-1), 1, 0, 0, 0, .inl (-1), []) ::
  (75, .iastore, 1, 0, 0, 0, .inl 0, []) ::
  (76, .iinc 3 1, 3, 3, 0, 0, .inl (nI 1), []) ::
  (79, .goto (-19), 3, 60, 0, 0, .inl 0, []) :: s_X9_start_82
def s_X9_start_58 : List mE := (58, .iconst 0, 1, 0, 0, 0, .inl (nI 0), []) ::
  (59, .istore_n 3, 1, 3, 0, 0, .inl 0, []) :: s_X9_start_60
def s_X9_start_29 : List mE := (29, .iload_n 3, 1, 3, 0, 0, .inl 0, []) ::
  (30, .bipush 48, 2, 0, 0, 0, .inl (nI 48), []) ::
  (32, .if_icmp .ge 26, 3, 58, 0, 0, .inl 0, []) ::
  (35, .aload_n 1, 1, 1, 0, 0, .inl 0, []) ::
  (36, .iload_n 2, 1, 2, 0, 0, .inl 0, []) ::
  (37, .iconst 2, 1, 0, 0, 0, .inl (nI 2), []) ::
  (38, .iadd, 1, 0, 0, 0, .inl 0, []) ::
  (39, .iload_n 3, 1, 3, 0, 0, .inl 0, []) ::
  (40, .iadd, 1, 0, 0, 0, .inl 0, []) ::
  (41, .aload_n 0, 1, 0, 0, 0, .inl 0, []) ::
  (42, .getfield 39, 3, 8, 22, 3, .inr (.inr (16, 278, 10)), [1218]) ::
  (45, .sipush 134, 3, 0, 0, 0, .inl (nI 134), []) ::
  (48, .iload_n 3, 1, 3, 0, 0, .inl 0, []) ::
  (49, .iadd, 1, 0, 0, 0, .inl 0, []) ::
  (50, .iaload, 1, 0, 0, 0, .inl 0, []) ::
  (51, .iastore, 1, 0, 0, 0, .inl 0, []) ::
  (52, .iinc 3 1, 3, 3, 0, 0, .inl (nI 1), []) ::
  (55, .goto (-26), 3, 29, 0, 0, .inl 0, []) :: s_X9_start_58
def s_X9_start_21 : List mE := (21, .aload_n 1, 1, 1, 0, 0, .inl 0, []) ::
  (22, .iload_n 2, 1, 2, 0, 0, .inl 0, []) ::
  (23, .iconst 0, 1, 0, 0, 0, .inl (nI 0), []) ::
  (24, .iadd, 1, 0, 0, 0, .inl 0, []) ::
  (25, .iconst 1, 1, 0, 0, 0, .inl (nI 1), []) ::
  (26, .iastore, 1, 0, 0, 0, .inl 0, []) ::
  (27, .iconst 0, 1, 0, 0, 0, .inl (nI 0), []) ::
  (28, .istore_n 3, 1, 3, 0, 0, .inl 0, []) :: s_X9_start_29
def s_X9_start_2 : List mE := (2, .iload_n 3, 1, 3, 0, 0, .inl 0, []) ::
  (3, .sipush 296, 3, 0, 0, 0, .inl (nI 296), []) ::
  (6, .if_icmp .ge 15, 3, 21, 0, 0, .inl 0, []) ::
  (9, .aload_n 1, 1, 1, 0, 0, .inl 0, []) ::
  (10, .iload_n 2, 1, 2, 0, 0, .inl 0, []) ::
  (11, .iload_n 3, 1, 3, 0, 0, .inl 0, []) ::
  (12, .iadd, 1, 0, 0, 0, .inl 0, []) ::
  (13, .iconst 0, 1, 0, 0, 0, .inl (nI 0), []) ::
  (14, .iastore, 1, 0, 0, 0, .inl 0, []) ::
  (15, .iinc 3 1, 3, 3, 0, 0, .inl (nI 1), []) ::
  (18, .goto (-16), 3, 2, 0, 0, .inl 0, []) :: s_X9_start_21
def s_X9_start_0 : List mE := (0, .iconst 0, 1, 0, 0, 0, .inl (nI 0), []) ::
  (1, .istore_n 3, 1, 3, 0, 0, .inl 0, []) :: s_X9_start_2
def k_X9_start : List mE := s_X9_start_0
set_option maxRecDepth 100000 in
theorem t_X9_start_0 : dropTo 0 k_X9_start = s_X9_start_0 := rfl
set_option maxRecDepth 100000 in
theorem t_X9_start_2 : dropTo 2 k_X9_start = s_X9_start_2 := rfl
set_option maxRecDepth 100000 in
theorem t_X9_start_21 : dropTo 21 k_X9_start = s_X9_start_21 := rfl
set_option maxRecDepth 100000 in
theorem t_X9_start_29 : dropTo 29 k_X9_start = s_X9_start_29 := rfl
set_option maxRecDepth 100000 in
theorem t_X9_start_58 : dropTo 58 k_X9_start = s_X9_start_58 := rfl
set_option maxRecDepth 100000 in
theorem t_X9_start_60 : dropTo 60 k_X9_start = s_X9_start_60 := rfl
set_option maxRecDepth 100000 in
theorem t_X9_start_82 : dropTo 82 k_X9_start = s_X9_start_82 := rfl
theorem ok_X9_start : mOkF m_X9_start k_X9_start = true := by decide +kernel
theorem cm_X9_start : mChkM m_X9_start = true := by decide +kernel
def s_X9_steadies_54 : List mE := (54, .ireturn, 1, 0, 0, 0, .inl 0, []) :: []
def s_X9_steadies_53 : List mE := (53, .iconst (-1), 1, 0, 0, 0, .inl (-1), []) :: s_X9_steadies_54
def s_X9_steadies_44 : List mE := (44, .iload_n 1, 1, 1, 0, 0, .inl 0, []) ::
  (45, .iconst (-1), 1, 0, 0, 0, .inl (-1), []) ::
  (46, .if_icmp .ne 7, 3, 53, 0, 0, .inl 0, []) ::
  (49, .iload_n 2, 1, 2, 0, 0, .inl 0, []) ::
  (50, .goto 4, 3, 54, 0, 0, .inl 0, []) :: s_X9_steadies_53
def s_X9_steadies_38 : List mE := (38, .iinc 3 1, 3, 3, 0, 0, .inl (nI 1), []) ::
  (41, .goto (-32), 3, 9, 0, 0, .inl 0, []) :: s_X9_steadies_44
def s_X9_steadies_35 : List mE := (35, .iinc 2 1, 3, 2, 0, 0, .inl (nI 1), []) :: s_X9_steadies_38
def s_X9_steadies_28 : List mE := (28, .iload_n 2, 1, 2, 0, 0, .inl 0, []) ::
  (29, .iload_n 1, 1, 1, 0, 0, .inl 0, []) ::
  (30, .if_icmp .ne 5, 3, 35, 0, 0, .inl 0, []) ::
  (33, .iload_n 3, 1, 3, 0, 0, .inl 0, []) ::
  (34, .ireturn, 1, 0, 0, 0, .inl 0, []) :: s_X9_steadies_35
def s_X9_steadies_9 : List mE := (9, .aload_n 0, 1, 0, 0, 0, .inl 0, []) ::
  (10, .iload_n 3, 1, 3, 0, 0, .inl 0, []) ::
  (11, .invokevirtual 300, 3, 181, 2, 1, .inl 0, [1610, 8]) ::
  (14, .ifCond .eq 30, 3, 44, 0, 0, .inl 0, []) ::
  (17, .aload_n 0, 1, 0, 0, 0, .inl 0, []) ::
  (18, .iload_n 3, 1, 3, 0, 0, .inl 0, []) ::
  (19, .invokevirtual 331, 3, 184, 2, 1, .inl 0, [1659, 8]) ::
  (22, .ifCond .ne 6, 3, 28, 0, 0, .inl 0, []) ::
  (25, .goto 13, 3, 38, 0, 0, .inl 0, []) :: s_X9_steadies_28
def s_X9_steadies_0 : List mE := (0, .aload_n 0, 1, 0, 0, 0, .inl 0, []) ::
  (1, .iconst 0, 1, 0, 0, 0, .inl (nI 0), []) ::
  (2, .putfield 76, 3, 8, 0, 0, .inl 0, [1196]) ::
  (5, .iconst 0, 1, 0, 0, 0, .inl (nI 0), []) ::
  (6, .istore_n 2, 1, 2, 0, 0, .inl 0, []) ::
  (7, .iconst 0, 1, 0, 0, 0, .inl (nI 0), []) ::
  (8, .istore_n 3, 1, 3, 0, 0, .inl 0, []) :: s_X9_steadies_9
def k_X9_steadies : List mE := s_X9_steadies_0
set_option maxRecDepth 100000 in
theorem t_X9_steadies_0 : dropTo 0 k_X9_steadies = s_X9_steadies_0 := rfl
set_option maxRecDepth 100000 in
theorem t_X9_steadies_9 : dropTo 9 k_X9_steadies = s_X9_steadies_9 := rfl
set_option maxRecDepth 100000 in
theorem t_X9_steadies_28 : dropTo 28 k_X9_steadies = s_X9_steadies_28 := rfl
set_option maxRecDepth 100000 in
theorem t_X9_steadies_35 : dropTo 35 k_X9_steadies = s_X9_steadies_35 := rfl
set_option maxRecDepth 100000 in
theorem t_X9_steadies_38 : dropTo 38 k_X9_steadies = s_X9_steadies_38 := rfl
set_option maxRecDepth 100000 in
theorem t_X9_steadies_44 : dropTo 44 k_X9_steadies = s_X9_steadies_44 := rfl
set_option maxRecDepth 100000 in
theorem t_X9_steadies_53 : dropTo 53 k_X9_steadies = s_X9_steadies_53 := rfl
set_option maxRecDepth 100000 in
theorem t_X9_steadies_54 : dropTo 54 k_X9_steadies = s_X9_steadies_54 := rfl
theorem ok_X9_steadies : mOkF m_X9_steadies k_X9_steadies = true := by decide +kernel
theorem cm_X9_steadies : mChkM m_X9_steadies = true := by decide +kernel
def s_X9_steady_30 : List mE := (30, .ireturn, 1, 0, 0, 0, .inl 0, []) :: []
def s_X9_steady_29 : List mE := (29, .iconst (-1), 1, 0, 0, 0, .inl (-1), []) :: s_X9_steady_30
def s_X9_steady_25 : List mE := (25, .iconst 0, 1, 0, 0, 0, .inl (nI 0), []) ::
  (26, .goto 4, 3, 30, 0, 0, .inl 0, []) :: s_X9_steady_29
def s_X9_steady_0 : List mE := (0, .aload_n 0, 1, 0, 0, 0, .inl 0, []) ::
  (1, .iconst 0, 1, 0, 0, 0, .inl (nI 0), []) ::
  (2, .putfield 76, 3, 8, 0, 0, .inl 0, [1196]) ::
  (5, .aload_n 0, 1, 0, 0, 0, .inl 0, []) ::
  (6, .iload_n 1, 1, 1, 0, 0, .inl 0, []) ::
  (7, .invokevirtual 300, 3, 181, 2, 1, .inl 0, [1610, 8]) ::
  (10, .ifCond .eq 19, 3, 29, 0, 0, .inl 0, []) ::
  (13, .aload_n 0, 1, 0, 0, 0, .inl 0, []) ::
  (14, .iload_n 1, 1, 1, 0, 0, .inl 0, []) ::
  (15, .invokevirtual 331, 3, 184, 2, 1, .inl 0, [1659, 8]) ::
  (18, .ifCond .eq 7, 3, 25, 0, 0, .inl 0, []) ::
  (21, .iconst 1, 1, 0, 0, 0, .inl (nI 1), []) ::
  (22, .goto 8, 3, 30, 0, 0, .inl 0, []) :: s_X9_steady_25
def k_X9_steady : List mE := s_X9_steady_0
set_option maxRecDepth 100000 in
theorem t_X9_steady_0 : dropTo 0 k_X9_steady = s_X9_steady_0 := rfl
set_option maxRecDepth 100000 in
theorem t_X9_steady_25 : dropTo 25 k_X9_steady = s_X9_steady_25 := rfl
set_option maxRecDepth 100000 in
theorem t_X9_steady_29 : dropTo 29 k_X9_steady = s_X9_steady_29 := rfl
set_option maxRecDepth 100000 in
theorem t_X9_steady_30 : dropTo 30 k_X9_steady = s_X9_steady_30 := rfl
theorem ok_X9_steady : mOkF m_X9_steady k_X9_steady = true := by decide +kernel
theorem cm_X9_steady : mChkM m_X9_steady = true := by decide +kernel
def s_X9_take_0 : List mE := (0, .aload_n 0, 1, 0, 0, 0, .inl 0, []) ::
  (1, .getfield 79, 3, 8, 2, 0, .inl 0, [1198]) ::
  (4, .istore_n 1, 1, 1, 0, 0, .inl 0, []) ::
  (5, .aload_n 0, 1, 0, 0, 0, .inl 0, []) ::
  (6, .iconst 0, 1, 0, 0, 0, .inl (nI 0), []) ::
  (7, .putfield 79, 3, 8, 2, 0, .inl 0, [1198]) ::
  (10, .iload_n 1, 1, 1, 0, 0, .inl 0, []) ::
  (11, .ireturn, 1, 0, 0, 0, .inl 0, []) :: []
def k_X9_take : List mE := s_X9_take_0
set_option maxRecDepth 100000 in
theorem t_X9_take_0 : dropTo 0 k_X9_take = s_X9_take_0 := rfl
theorem ok_X9_take : mOkF m_X9_take k_X9_take = true := by decide +kernel
theorem cm_X9_take : mChkM m_X9_take = true := by decide +kernel
def s_X9_tapeAt_18 : List mE := (18, .ireturn, 1, 0, 0, 0, .inl 0, []) :: []
def s_X9_tapeAt_17 : List mE := (17, .iconst 0, 1, 0, 0, 0, .inl (nI 0), []) :: s_X9_tapeAt_18
def s_X9_tapeAt_0 : List mE := (0, .iload_n 1, 1, 1, 0, 0, .inl 0, []) ::
  (1, .aload_n 0, 1, 0, 0, 0, .inl 0, []) ::
  (2, .getfield 86, 3, 8, 3, 0, .inl 0, [1199]) ::
  (5, .if_icmp .ge 12, 3, 17, 0, 0, .inl 0, []) ::
  (8, .aload_n 0, 1, 0, 0, 0, .inl 0, []) ::
  (9, .getfield 7, 3, 8, 1, 3, .inr (.inr (16, 940, 1)), [1197]) ::
  (12, .iload_n 1, 1, 1, 0, 0, .inl 0, []) ::
  (13, .iaload, 1, 0, 0, 0, .inl 0, []) ::
  (14, .goto 4, 3, 18, 0, 0, .inl 0, []) :: s_X9_tapeAt_17
def k_X9_tapeAt : List mE := s_X9_tapeAt_0
set_option maxRecDepth 100000 in
theorem t_X9_tapeAt_0 : dropTo 0 k_X9_tapeAt = s_X9_tapeAt_0 := rfl
set_option maxRecDepth 100000 in
theorem t_X9_tapeAt_17 : dropTo 17 k_X9_tapeAt = s_X9_tapeAt_17 := rfl
set_option maxRecDepth 100000 in
theorem t_X9_tapeAt_18 : dropTo 18 k_X9_tapeAt = s_X9_tapeAt_18 := rfl
theorem ok_X9_tapeAt : mOkF m_X9_tapeAt k_X9_tapeAt = true := by decide +kernel
theorem cm_X9_tapeAt : mChkM m_X9_tapeAt = true := by decide +kernel
def s_X9_thrown_0 : List mE := (0, .aload_n 0, 1, 0, 0, 0, .inl 0, []) ::
  (1, .getfield 76, 3, 8, 0, 0, .inl 0, [1196]) ::
  (4, .ireturn, 1, 0, 0, 0, .inl 0, []) :: []
def k_X9_thrown : List mE := s_X9_thrown_0
set_option maxRecDepth 100000 in
theorem t_X9_thrown_0 : dropTo 0 k_X9_thrown = s_X9_thrown_0 := rfl
theorem ok_X9_thrown : mOkF m_X9_thrown k_X9_thrown = true := by decide +kernel
theorem cm_X9_thrown : mChkM m_X9_thrown = true := by decide +kernel
def s_X9_vat_32 : List mE := (32, .ireturn, 1, 0, 0, 0, .inl 0, []) :: []
def s_X9_vat_31 : List mE := (31, .iconst (-1), 1, 0, 0, 0, .inl (-1), []) :: s_X9_vat_32
def s_X9_vat_0 : List mE := (0, .aload_n 0, 1, 0, 0, 0, .inl 0, []) ::
  (1, .iconst 0, 1, 0, 0, 0, .inl (nI 0), []) ::
  (2, .putfield 76, 3, 8, 0, 0, .inl 0, [1196]) ::
  (5, .aload_n 0, 1, 0, 0, 0, .inl 0, []) ::
  (6, .iload_n 1, 1, 1, 0, 0, .inl 0, []) ::
  (7, .iload_n 2, 1, 2, 0, 0, .inl 0, []) ::
  (8, .invokevirtual 291, 3, 188, 3, 1, .inl 0, [1562, 8]) ::
  (11, .ifCond .eq 20, 3, 31, 0, 0, .inl 0, []) ::
  (14, .aload_n 0, 1, 0, 0, 0, .inl 0, []) ::
  (15, .getfield 13, 3, 8, 14, 3, .inr (.inr (16, 925, 2)), [1210]) ::
  (18, .sipush 623, 3, 0, 0, 0, .inl (nI 623), []) ::
  (21, .iload_n 1, 1, 1, 0, 0, .inl 0, []) ::
  (22, .iload_n 2, 1, 2, 0, 0, .inl 0, []) ::
  (23, .invokestatic 182, 3, 148, 2, 1, .inl 0, [1437]) ::
  (26, .iadd, 1, 0, 0, 0, .inl 0, []) ::
  (27, .iaload, 1, 0, 0, 0, .inl 0, []) ::
  (28, .goto 4, 3, 32, 0, 0, .inl 0, []) :: s_X9_vat_31
def k_X9_vat : List mE := s_X9_vat_0
set_option maxRecDepth 100000 in
theorem t_X9_vat_0 : dropTo 0 k_X9_vat = s_X9_vat_0 := rfl
set_option maxRecDepth 100000 in
theorem t_X9_vat_31 : dropTo 31 k_X9_vat = s_X9_vat_31 := rfl
set_option maxRecDepth 100000 in
theorem t_X9_vat_32 : dropTo 32 k_X9_vat = s_X9_vat_32 := rfl
theorem ok_X9_vat : mOkF m_X9_vat k_X9_vat = true := by decide +kernel
theorem cm_X9_vat : mChkM m_X9_vat = true := by decide +kernel
def s_X9_went_48 : List mE := (48, .ireturn, 1, 0, 0, 0, .inl 0, []) :: []
def s_X9_went_47 : List mE := (47, .iconst (-1), 1, 0, 0, 0, .inl (-1), []) :: s_X9_went_48
def s_X9_went_0 : List mE := (0, .aload_n 0, 1, 0, 0, 0, .inl 0, []) ::
  (1, .iconst 0, 1, 0, 0, 0, .inl (nI 0), []) ::
  (2, .putfield 76, 3, 8, 0, 0, .inl 0, [1196]) ::
  (5, .aload_n 0, 1, 0, 0, 0, .inl 0, []) ::
  (6, .invokevirtual 288, 3, 180, 1, 1, .inl 0, [1516, 8]) ::
  (9, .ifCond .eq 38, 3, 47, 0, 0, .inl 0, []) ::
  (12, .aload_n 0, 1, 0, 0, 0, .inl 0, []) ::
  (13, .iload_n 1, 1, 1, 0, 0, .inl 0, []) ::
  (14, .invokevirtual 225, 3, 190, 2, 1, .inl 0, [1468, 8]) ::
  (17, .ifCond .eq 30, 3, 47, 0, 0, .inl 0, []) ::
  (20, .iload_n 2, 1, 2, 0, 0, .inl 0, []) ::
  (21, .iconst 0, 1, 0, 0, 0, .inl (nI 0), []) ::
  (22, .iconst 5, 1, 0, 0, 0, .inl (nI 5), []) ::
  (23, .invokestatic 143, 3, 177, 3, 1, .inl 0, [1414]) ::
  (26, .ifCond .eq 21, 3, 47, 0, 0, .inl 0, []) ::
  (29, .aload_n 0, 1, 0, 0, 0, .inl 0, []) ::
  (30, .getfield 13, 3, 8, 14, 3, .inr (.inr (16, 925, 2)), [1210]) ::
  (33, .sipush 833, 3, 0, 0, 0, .inl (nI 833), []) ::
  (36, .bipush 8, 2, 0, 0, 0, .inl (nI 8), []) ::
  (38, .iload_n 2, 1, 2, 0, 0, .inl 0, []) ::
  (39, .imul, 1, 0, 0, 0, .inl 0, []) ::
  (40, .iadd, 1, 0, 0, 0, .inl 0, []) ::
  (41, .iload_n 1, 1, 1, 0, 0, .inl 0, []) ::
  (42, .iadd, 1, 0, 0, 0, .inl 0, []) ::
  (43, .iaload, 1, 0, 0, 0, .inl 0, []) ::
  (44, .goto 4, 3, 48, 0, 0, .inl 0, []) :: s_X9_went_47
def k_X9_went : List mE := s_X9_went_0
set_option maxRecDepth 100000 in
theorem t_X9_went_0 : dropTo 0 k_X9_went = s_X9_went_0 := rfl
set_option maxRecDepth 100000 in
theorem t_X9_went_47 : dropTo 47 k_X9_went = s_X9_went_47 := rfl
set_option maxRecDepth 100000 in
theorem t_X9_went_48 : dropTo 48 k_X9_went = s_X9_went_48 := rfl
theorem ok_X9_went : mOkF m_X9_went k_X9_went = true := by decide +kernel
theorem cm_X9_went : mChkM m_X9_went = true := by decide +kernel
def s_X9_wider_144 : List mE := (144, .iload_n 3, 1, 3, 0, 0, .inl 0, []) ::
  (145, .ireturn, 1, 0, 0, 0, .inl 0, []) :: []
def s_X9_wider_138 : List mE := (138, .iinc 5 1, 3, 5, 0, 0, .inl (nI 1), []) ::
  (141, .goto (-109), 3, 32, 0, 0, .inl 0, []) :: s_X9_wider_144
def s_X9_wider_132 : List mE := (132, .iinc 6 1, 3, 6, 0, 0, .inl (nI 1), []) ::
  (135, .goto (-91), 3, 44, 0, 0, .inl 0, []) :: s_X9_wider_138
def s_X9_wider_119 : List mE := (119, .bipush 10, 2, 0, 0, 0, .inl (nI 10), []) ::
  (121, .iload 5, 2, 5, 0, 0, .inl 0, []) ::
  (123, .imul, 1, 0, 0, 0, .inl 0, []) ::
  (124, .iload 6, 2, 6, 0, 0, .inl 0, []) ::
  (126, .iadd, 1, 0, 0, 0, .inl 0, []) ::
  (127, .istore_n 3, 1, 3, 0, 0, .inl 0, []) ::
  (128, .iload 7, 2, 7, 0, 0, .inl 0, []) ::
  (130, .istore 4, 2, 4, 0, 0, .inl 0, []) :: s_X9_wider_132
def s_X9_wider_74 : List mE := (74, .aload_n 0, 1, 0, 0, 0, .inl 0, []) ::
  (75, .invokevirtual 285, 3, 196, 1, 0, .inl 0, [1504, 8]) ::
  (78, .aload_n 0, 1, 0, 0, 0, .inl 0, []) ::
  (79, .getfield 39, 3, 8, 22, 3, .inr (.inr (16, 278, 10)), [1218]) ::
  (82, .bipush 86, 2, 0, 0, 0, .inl (nI 86), []) ::
  (84, .iload 5, 2, 5, 0, 0, .inl 0, []) ::
  (86, .iload 6, 2, 6, 0, 0, .inl 0, []) ::
  (88, .invokestatic 182, 3, 148, 2, 1, .inl 0, [1437]) ::
  (91, .iadd, 1, 0, 0, 0, .inl 0, []) ::
  (92, .dup2, 1, 0, 0, 0, .inl 0, []) ::
  (93, .iaload, 1, 0, 0, 0, .inl 0, []) ::
  (94, .iload_n 1, 1, 1, 0, 0, .inl 0, []) ::
  (95, .iadd, 1, 0, 0, 0, .inl 0, []) ::
  (96, .iastore, 1, 0, 0, 0, .inl 0, []) ::
  (97, .aload_n 0, 1, 0, 0, 0, .inl 0, []) ::
  (98, .iload_n 2, 1, 2, 0, 0, .inl 0, []) ::
  (99, .invokevirtual 297, 3, 238, 2, 1, .inl 0, [1621, 8]) ::
  (102, .istore 7, 2, 7, 0, 0, .inl 0, []) ::
  (104, .iload_n 3, 1, 3, 0, 0, .inl 0, []) ::
  (105, .iconst (-1), 1, 0, 0, 0, .inl (-1), []) ::
  (106, .if_icmp .eq 13, 3, 119, 0, 0, .inl 0, []) ::
  (109, .iload 7, 2, 7, 0, 0, .inl 0, []) ::
  (111, .iload 4, 2, 4, 0, 0, .inl 0, []) ::
  (113, .if_icmp .gt 6, 3, 119, 0, 0, .inl 0, []) ::
  (116, .goto 16, 3, 132, 0, 0, .inl 0, []) :: s_X9_wider_119
def s_X9_wider_44 : List mE := (44, .iload 6, 2, 6, 0, 0, .inl 0, []) ::
  (46, .aload_n 0, 1, 0, 0, 0, .inl 0, []) ::
  (47, .invokevirtual 222, 3, 165, 1, 1, .inl 0, [1484, 8]) ::
  (50, .if_icmp .ge 88, 3, 138, 0, 0, .inl 0, []) ::
  (53, .aload_n 0, 1, 0, 0, 0, .inl 0, []) ::
  (54, .getfield 13, 3, 8, 14, 3, .inr (.inr (16, 925, 2)), [1210]) ::
  (57, .bipush 38, 2, 0, 0, 0, .inl (nI 38), []) ::
  (59, .iload 5, 2, 5, 0, 0, .inl 0, []) ::
  (61, .iload 6, 2, 6, 0, 0, .inl 0, []) ::
  (63, .invokestatic 182, 3, 148, 2, 1, .inl 0, [1437]) ::
  (66, .iadd, 1, 0, 0, 0, .inl 0, []) ::
  (67, .iaload, 1, 0, 0, 0, .inl 0, []) ::
  (68, .ifCond .ne 6, 3, 74, 0, 0, .inl 0, []) ::
  (71, .goto 61, 3, 132, 0, 0, .inl 0, []) :: s_X9_wider_74
def s_X9_wider_32 : List mE := (32, .iload 5, 2, 5, 0, 0, .inl 0, []) ::
  (34, .aload_n 0, 1, 0, 0, 0, .inl 0, []) ::
  (35, .invokevirtual 219, 3, 253, 1, 1, .inl 0, [1472, 8]) ::
  (38, .if_icmp .ge 106, 3, 144, 0, 0, .inl 0, []) ::
  (41, .iconst 0, 1, 0, 0, 0, .inl (nI 0), []) ::
  (42, .istore 6, 2, 6, 0, 0, .inl 0, []) :: s_X9_wider_44
def s_X9_wider_24 : List mE := (24, .iconst (-1), 1, 0, 0, 0, .inl (-1), []) ::
  (25, .istore_n 3, 1, 3, 0, 0, .inl 0, []) ::
  (26, .iconst 0, 1, 0, 0, 0, .inl (nI 0), []) ::
  (27, .istore 4, 2, 4, 0, 0, .inl 0, []) ::
  (29, .iconst 0, 1, 0, 0, 0, .inl (nI 0), []) ::
  (30, .istore 5, 2, 5, 0, 0, .inl 0, []) :: s_X9_wider_32
def s_X9_wider_22 : List mE := (22, .iconst (-1), 1, 0, 0, 0, .inl (-1), []) ::
  (23, .ireturn, 1, 0, 0, 0, .inl 0, []) :: s_X9_wider_24
def s_X9_wider_0 : List mE := (0, .aload_n 0, 1, 0, 0, 0, .inl 0, []) ::
  (1, .iconst 0, 1, 0, 0, 0, .inl (nI 0), []) ::
  (2, .putfield 76, 3, 8, 0, 0, .inl 0, [1196]) ::
  (5, .iload_n 1, 1, 1, 0, 0, .inl 0, []) ::
  (6, .iconst 1, 1, 0, 0, 0, .inl (nI 1), []) ::
  (7, .bipush 99, 2, 0, 0, 0, .inl (nI 99), []) ::
  (9, .invokestatic 143, 3, 177, 3, 1, .inl 0, [1414]) ::
  (12, .ifCond .eq 10, 3, 22, 0, 0, .inl 0, []) ::
  (15, .iload_n 2, 1, 2, 0, 0, .inl 0, []) ::
  (16, .invokestatic 303, 3, 176, 1, 1, .inl 0, [1614]) ::
  (19, .ifCond .ne 5, 3, 24, 0, 0, .inl 0, []) :: s_X9_wider_22
def k_X9_wider : List mE := s_X9_wider_0
set_option maxRecDepth 100000 in
theorem t_X9_wider_0 : dropTo 0 k_X9_wider = s_X9_wider_0 := rfl
set_option maxRecDepth 100000 in
theorem t_X9_wider_22 : dropTo 22 k_X9_wider = s_X9_wider_22 := rfl
set_option maxRecDepth 100000 in
theorem t_X9_wider_24 : dropTo 24 k_X9_wider = s_X9_wider_24 := rfl
set_option maxRecDepth 100000 in
theorem t_X9_wider_32 : dropTo 32 k_X9_wider = s_X9_wider_32 := rfl
set_option maxRecDepth 100000 in
theorem t_X9_wider_44 : dropTo 44 k_X9_wider = s_X9_wider_44 := rfl
set_option maxRecDepth 100000 in
theorem t_X9_wider_74 : dropTo 74 k_X9_wider = s_X9_wider_74 := rfl
set_option maxRecDepth 100000 in
theorem t_X9_wider_119 : dropTo 119 k_X9_wider = s_X9_wider_119 := rfl
set_option maxRecDepth 100000 in
theorem t_X9_wider_132 : dropTo 132 k_X9_wider = s_X9_wider_132 := rfl
set_option maxRecDepth 100000 in
theorem t_X9_wider_138 : dropTo 138 k_X9_wider = s_X9_wider_138 := rfl
set_option maxRecDepth 100000 in
theorem t_X9_wider_144 : dropTo 144 k_X9_wider = s_X9_wider_144 := rfl
theorem ok_X9_wider : mOkF m_X9_wider k_X9_wider = true := by decide +kernel
theorem cm_X9_wider : mChkM m_X9_wider = true := by decide +kernel
def s_X9_wordOf_348 : List mE := (348, .bipush 112, 2, 0, 0, 0, .inl (nI 112), []) ::
  (350, .bipush 108, 2, 0, 0, 0, .inl (nI 108), []) ::
  (352, .bipush 97, 2, 0, 0, 0, .inl (nI 97), []) ::
  (354, .bipush 99, 2, 0, 0, 0, .inl (nI 99), []) ::
  (356, .bipush 101, 2, 0, 0, 0, .inl (nI 101), []) ::
  (358, .iconst 0, 1, 0, 0, 0, .inl (nI 0), []) ::
  (359, .invokestatic 126, 3, 241, 6, 2, .inl 0, [1388]) ::
  (362, .lreturn, 1, 0, 0, 0, .inl 0, []) :: []
def s_X9_wordOf_334 : List mE := (334, .bipush 109, 2, 0, 0, 0, .inl (nI 109), []) ::
  (336, .bipush 97, 2, 0, 0, 0, .inl (nI 97), []) ::
  (338, .bipush 100, 2, 0, 0, 0, .inl (nI 100), []) ::
  (340, .bipush 101, 2, 0, 0, 0, .inl (nI 101), []) ::
  (342, .iconst 0, 1, 0, 0, 0, .inl (nI 0), []) ::
  (343, .iconst 0, 1, 0, 0, 0, .inl (nI 0), []) ::
  (344, .invokestatic 126, 3, 241, 6, 2, .inl 0, [1388]) ::
  (347, .lreturn, 1, 0, 0, 0, .inl 0, []) :: s_X9_wordOf_348
def s_X9_wordOf_319 : List mE := (319, .bipush 115, 2, 0, 0, 0, .inl (nI 115), []) ::
  (321, .bipush 116, 2, 0, 0, 0, .inl (nI 116), []) ::
  (323, .bipush 111, 2, 0, 0, 0, .inl (nI 111), []) ::
  (325, .bipush 111, 2, 0, 0, 0, .inl (nI 111), []) ::
  (327, .bipush 100, 2, 0, 0, 0, .inl (nI 100), []) ::
  (329, .iconst 0, 1, 0, 0, 0, .inl (nI 0), []) ::
  (330, .invokestatic 126, 3, 241, 6, 2, .inl 0, [1388]) ::
  (333, .lreturn, 1, 0, 0, 0, .inl 0, []) :: s_X9_wordOf_334
def s_X9_wordOf_305 : List mE := (305, .bipush 119, 2, 0, 0, 0, .inl (nI 119), []) ::
  (307, .bipush 101, 2, 0, 0, 0, .inl (nI 101), []) ::
  (309, .bipush 110, 2, 0, 0, 0, .inl (nI 110), []) ::
  (311, .bipush 116, 2, 0, 0, 0, .inl (nI 116), []) ::
  (313, .iconst 0, 1, 0, 0, 0, .inl (nI 0), []) ::
  (314, .iconst 0, 1, 0, 0, 0, .inl (nI 0), []) ::
  (315, .invokestatic 126, 3, 241, 6, 2, .inl 0, [1388]) ::
  (318, .lreturn, 1, 0, 0, 0, .inl 0, []) :: s_X9_wordOf_319
def s_X9_wordOf_290 : List mE := (290, .bipush 102, 2, 0, 0, 0, .inl (nI 102), []) ::
  (292, .bipush 105, 2, 0, 0, 0, .inl (nI 105), []) ::
  (294, .bipush 110, 2, 0, 0, 0, .inl (nI 110), []) ::
  (296, .bipush 100, 2, 0, 0, 0, .inl (nI 100), []) ::
  (298, .bipush 115, 2, 0, 0, 0, .inl (nI 115), []) ::
  (300, .iconst 0, 1, 0, 0, 0, .inl (nI 0), []) ::
  (301, .invokestatic 126, 3, 241, 6, 2, .inl 0, [1388]) ::
  (304, .lreturn, 1, 0, 0, 0, .inl 0, []) :: s_X9_wordOf_305
def s_X9_wordOf_276 : List mE := (276, .bipush 108, 2, 0, 0, 0, .inl (nI 108), []) ::
  (278, .bipush 101, 2, 0, 0, 0, .inl (nI 101), []) ::
  (280, .bipush 116, 2, 0, 0, 0, .inl (nI 116), []) ::
  (282, .bipush 115, 2, 0, 0, 0, .inl (nI 115), []) ::
  (284, .iconst 0, 1, 0, 0, 0, .inl (nI 0), []) ::
  (285, .iconst 0, 1, 0, 0, 0, .inl (nI 0), []) ::
  (286, .invokestatic 126, 3, 241, 6, 2, .inl 0, [1388]) ::
  (289, .lreturn, 1, 0, 0, 0, .inl 0, []) :: s_X9_wordOf_290
def s_X9_wordOf_261 : List mE := (261, .bipush 119, 2, 0, 0, 0, .inl (nI 119), []) ::
  (263, .bipush 97, 2, 0, 0, 0, .inl (nI 97), []) ::
  (265, .bipush 110, 2, 0, 0, 0, .inl (nI 110), []) ::
  (267, .bipush 116, 2, 0, 0, 0, .inl (nI 116), []) ::
  (269, .bipush 115, 2, 0, 0, 0, .inl (nI 115), []) ::
  (271, .iconst 0, 1, 0, 0, 0, .inl (nI 0), []) ::
  (272, .invokestatic 126, 3, 241, 6, 2, .inl 0, [1388]) ::
  (275, .lreturn, 1, 0, 0, 0, .inl 0, []) :: s_X9_wordOf_276
def s_X9_wordOf_248 : List mE := (248, .bipush 110, 2, 0, 0, 0, .inl (nI 110), []) ::
  (250, .bipush 111, 2, 0, 0, 0, .inl (nI 111), []) ::
  (252, .bipush 116, 2, 0, 0, 0, .inl (nI 116), []) ::
  (254, .iconst 0, 1, 0, 0, 0, .inl (nI 0), []) ::
  (255, .iconst 0, 1, 0, 0, 0, .inl (nI 0), []) ::
  (256, .iconst 0, 1, 0, 0, 0, .inl (nI 0), []) ::
  (257, .invokestatic 126, 3, 241, 6, 2, .inl 0, [1388]) ::
  (260, .lreturn, 1, 0, 0, 0, .inl 0, []) :: s_X9_wordOf_261
def s_X9_wordOf_235 : List mE := (235, .bipush 97, 2, 0, 0, 0, .inl (nI 97), []) ::
  (237, .bipush 110, 2, 0, 0, 0, .inl (nI 110), []) ::
  (239, .bipush 100, 2, 0, 0, 0, .inl (nI 100), []) ::
  (241, .iconst 0, 1, 0, 0, 0, .inl (nI 0), []) ::
  (242, .iconst 0, 1, 0, 0, 0, .inl (nI 0), []) ::
  (243, .iconst 0, 1, 0, 0, 0, .inl (nI 0), []) ::
  (244, .invokestatic 126, 3, 241, 6, 2, .inl 0, [1388]) ::
  (247, .lreturn, 1, 0, 0, 0, .inl 0, []) :: s_X9_wordOf_248
def s_X9_wordOf_223 : List mE := (223, .bipush 111, 2, 0, 0, 0, .inl (nI 111), []) ::
  (225, .bipush 114, 2, 0, 0, 0, .inl (nI 114), []) ::
  (227, .iconst 0, 1, 0, 0, 0, .inl (nI 0), []) ::
  (228, .iconst 0, 1, 0, 0, 0, .inl (nI 0), []) ::
  (229, .iconst 0, 1, 0, 0, 0, .inl (nI 0), []) ::
  (230, .iconst 0, 1, 0, 0, 0, .inl (nI 0), []) ::
  (231, .invokestatic 126, 3, 241, 6, 2, .inl 0, [1388]) ::
  (234, .lreturn, 1, 0, 0, 0, .inl 0, []) :: s_X9_wordOf_235
def s_X9_wordOf_207 : List mE := (207, .bipush 98, 2, 0, 0, 0, .inl (nI 98), []) ::
  (209, .bipush 114, 2, 0, 0, 0, .inl (nI 114), []) ::
  (211, .bipush 105, 2, 0, 0, 0, .inl (nI 105), []) ::
  (213, .bipush 110, 2, 0, 0, 0, .inl (nI 110), []) ::
  (215, .bipush 103, 2, 0, 0, 0, .inl (nI 103), []) ::
  (217, .bipush 115, 2, 0, 0, 0, .inl (nI 115), []) ::
  (219, .invokestatic 126, 3, 241, 6, 2, .inl 0, [1388]) ::
  (222, .lreturn, 1, 0, 0, 0, .inl 0, []) :: s_X9_wordOf_223
def s_X9_wordOf_192 : List mE := (192, .bipush 115, 2, 0, 0, 0, .inl (nI 115), []) ::
  (194, .bipush 116, 2, 0, 0, 0, .inl (nI 116), []) ::
  (196, .bipush 111, 2, 0, 0, 0, .inl (nI 111), []) ::
  (198, .bipush 112, 2, 0, 0, 0, .inl (nI 112), []) ::
  (200, .bipush 115, 2, 0, 0, 0, .inl (nI 115), []) ::
  (202, .iconst 0, 1, 0, 0, 0, .inl (nI 0), []) ::
  (203, .invokestatic 126, 3, 241, 6, 2, .inl 0, [1388]) ::
  (206, .lreturn, 1, 0, 0, 0, .inl 0, []) :: s_X9_wordOf_207
def s_X9_wordOf_176 : List mE := (176, .bipush 106, 2, 0, 0, 0, .inl (nI 106), []) ::
  (178, .bipush 111, 2, 0, 0, 0, .inl (nI 111), []) ::
  (180, .bipush 105, 2, 0, 0, 0, .inl (nI 105), []) ::
  (182, .bipush 110, 2, 0, 0, 0, .inl (nI 110), []) ::
  (184, .bipush 101, 2, 0, 0, 0, .inl (nI 101), []) ::
  (186, .bipush 100, 2, 0, 0, 0, .inl (nI 100), []) ::
  (188, .invokestatic 126, 3, 241, 6, 2, .inl 0, [1388]) ::
  (191, .lreturn, 1, 0, 0, 0, .inl 0, []) :: s_X9_wordOf_192
def s_X9_wordOf_161 : List mE := (161, .bipush 102, 2, 0, 0, 0, .inl (nI 102), []) ::
  (163, .bipush 101, 2, 0, 0, 0, .inl (nI 101), []) ::
  (165, .bipush 101, 2, 0, 0, 0, .inl (nI 101), []) ::
  (167, .bipush 100, 2, 0, 0, 0, .inl (nI 100), []) ::
  (169, .bipush 115, 2, 0, 0, 0, .inl (nI 115), []) ::
  (171, .iconst 0, 1, 0, 0, 0, .inl (nI 0), []) ::
  (172, .invokestatic 126, 3, 241, 6, 2, .inl 0, [1388]) ::
  (175, .lreturn, 1, 0, 0, 0, .inl 0, []) :: s_X9_wordOf_176
def s_X9_wordOf_146 : List mE := (146, .bipush 109, 2, 0, 0, 0, .inl (nI 109), []) ::
  (148, .bipush 97, 2, 0, 0, 0, .inl (nI 97), []) ::
  (150, .bipush 107, 2, 0, 0, 0, .inl (nI 107), []) ::
  (152, .bipush 101, 2, 0, 0, 0, .inl (nI 101), []) ::
  (154, .bipush 115, 2, 0, 0, 0, .inl (nI 115), []) ::
  (156, .iconst 0, 1, 0, 0, 0, .inl (nI 0), []) ::
  (157, .invokestatic 126, 3, 241, 6, 2, .inl 0, [1388]) ::
  (160, .lreturn, 1, 0, 0, 0, .inl 0, []) :: s_X9_wordOf_161
def s_X9_wordOf_131 : List mE := (131, .bipush 103, 2, 0, 0, 0, .inl (nI 103), []) ::
  (133, .bipush 105, 2, 0, 0, 0, .inl (nI 105), []) ::
  (135, .bipush 118, 2, 0, 0, 0, .inl (nI 118), []) ::
  (137, .bipush 101, 2, 0, 0, 0, .inl (nI 101), []) ::
  (139, .bipush 115, 2, 0, 0, 0, .inl (nI 115), []) ::
  (141, .iconst 0, 1, 0, 0, 0, .inl (nI 0), []) ::
  (142, .invokestatic 126, 3, 241, 6, 2, .inl 0, [1388]) ::
  (145, .lreturn, 1, 0, 0, 0, .inl 0, []) :: s_X9_wordOf_146
def s_X9_wordOf_116 : List mE := (116, .bipush 116, 2, 0, 0, 0, .inl (nI 116), []) ::
  (118, .bipush 97, 2, 0, 0, 0, .inl (nI 97), []) ::
  (120, .bipush 107, 2, 0, 0, 0, .inl (nI 107), []) ::
  (122, .bipush 101, 2, 0, 0, 0, .inl (nI 101), []) ::
  (124, .bipush 115, 2, 0, 0, 0, .inl (nI 115), []) ::
  (126, .iconst 0, 1, 0, 0, 0, .inl (nI 0), []) ::
  (127, .invokestatic 126, 3, 241, 6, 2, .inl 0, [1388]) ::
  (130, .lreturn, 1, 0, 0, 0, .inl 0, []) :: s_X9_wordOf_131
def s_X9_wordOf_102 : List mE := (102, .bipush 119, 2, 0, 0, 0, .inl (nI 119), []) ::
  (104, .bipush 111, 2, 0, 0, 0, .inl (nI 111), []) ::
  (106, .bipush 114, 2, 0, 0, 0, .inl (nI 114), []) ::
  (108, .bipush 107, 2, 0, 0, 0, .inl (nI 107), []) ::
  (110, .iconst 0, 1, 0, 0, 0, .inl (nI 0), []) ::
  (111, .iconst 0, 1, 0, 0, 0, .inl (nI 0), []) ::
  (112, .invokestatic 126, 3, 241, 6, 2, .inl 0, [1388]) ::
  (115, .lreturn, 1, 0, 0, 0, .inl 0, []) :: s_X9_wordOf_116
def s_X9_wordOf_88 : List mE := (88, .bipush 103, 2, 0, 0, 0, .inl (nI 103), []) ::
  (90, .bipush 111, 2, 0, 0, 0, .inl (nI 111), []) ::
  (92, .bipush 111, 2, 0, 0, 0, .inl (nI 111), []) ::
  (94, .bipush 100, 2, 0, 0, 0, .inl (nI 100), []) ::
  (96, .iconst 0, 1, 0, 0, 0, .inl (nI 0), []) ::
  (97, .iconst 0, 1, 0, 0, 0, .inl (nI 0), []) ::
  (98, .invokestatic 126, 3, 241, 6, 2, .inl 0, [1388]) ::
  (101, .lreturn, 1, 0, 0, 0, .inl 0, []) :: s_X9_wordOf_102
def s_X9_wordOf_0 : List mE := (0, .iload_n 0, 1, 0, 0, 0, .inl 0, []) ::
  (1, .tableswitch 347 0 17 #[87, 101, 115, 130, 145, 160, 175, 191, 206, 222, 234, 247, 260, 275, 289, 304, 318, 333], 87, 348, 0, 0, .inl 0, [88, 102, 116, 131, 146, 161, 176, 192, 207, 223, 235, 248, 261, 276, 290, 305, 319, 334]) :: s_X9_wordOf_88
def k_X9_wordOf : List mE := s_X9_wordOf_0
set_option maxRecDepth 100000 in
theorem t_X9_wordOf_0 : dropTo 0 k_X9_wordOf = s_X9_wordOf_0 := rfl
set_option maxRecDepth 100000 in
theorem t_X9_wordOf_88 : dropTo 88 k_X9_wordOf = s_X9_wordOf_88 := rfl
set_option maxRecDepth 100000 in
theorem t_X9_wordOf_102 : dropTo 102 k_X9_wordOf = s_X9_wordOf_102 := rfl
set_option maxRecDepth 100000 in
theorem t_X9_wordOf_116 : dropTo 116 k_X9_wordOf = s_X9_wordOf_116 := rfl
set_option maxRecDepth 100000 in
theorem t_X9_wordOf_131 : dropTo 131 k_X9_wordOf = s_X9_wordOf_131 := rfl
set_option maxRecDepth 100000 in
theorem t_X9_wordOf_146 : dropTo 146 k_X9_wordOf = s_X9_wordOf_146 := rfl
set_option maxRecDepth 100000 in
theorem t_X9_wordOf_161 : dropTo 161 k_X9_wordOf = s_X9_wordOf_161 := rfl
set_option maxRecDepth 100000 in
theorem t_X9_wordOf_176 : dropTo 176 k_X9_wordOf = s_X9_wordOf_176 := rfl
set_option maxRecDepth 100000 in
theorem t_X9_wordOf_192 : dropTo 192 k_X9_wordOf = s_X9_wordOf_192 := rfl
set_option maxRecDepth 100000 in
theorem t_X9_wordOf_207 : dropTo 207 k_X9_wordOf = s_X9_wordOf_207 := rfl
set_option maxRecDepth 100000 in
theorem t_X9_wordOf_223 : dropTo 223 k_X9_wordOf = s_X9_wordOf_223 := rfl
set_option maxRecDepth 100000 in
theorem t_X9_wordOf_235 : dropTo 235 k_X9_wordOf = s_X9_wordOf_235 := rfl
set_option maxRecDepth 100000 in
theorem t_X9_wordOf_248 : dropTo 248 k_X9_wordOf = s_X9_wordOf_248 := rfl
set_option maxRecDepth 100000 in
theorem t_X9_wordOf_261 : dropTo 261 k_X9_wordOf = s_X9_wordOf_261 := rfl
set_option maxRecDepth 100000 in
theorem t_X9_wordOf_276 : dropTo 276 k_X9_wordOf = s_X9_wordOf_276 := rfl
set_option maxRecDepth 100000 in
theorem t_X9_wordOf_290 : dropTo 290 k_X9_wordOf = s_X9_wordOf_290 := rfl
set_option maxRecDepth 100000 in
theorem t_X9_wordOf_305 : dropTo 305 k_X9_wordOf = s_X9_wordOf_305 := rfl
set_option maxRecDepth 100000 in
theorem t_X9_wordOf_319 : dropTo 319 k_X9_wordOf = s_X9_wordOf_319 := rfl
set_option maxRecDepth 100000 in
theorem t_X9_wordOf_334 : dropTo 334 k_X9_wordOf = s_X9_wordOf_334 := rfl
set_option maxRecDepth 100000 in
theorem t_X9_wordOf_348 : dropTo 348 k_X9_wordOf = s_X9_wordOf_348 := rfl
theorem ok_X9_wordOf : mOkF m_X9_wordOf k_X9_wordOf = true := by decide +kernel
theorem cm_X9_wordOf : mChkM m_X9_wordOf = true := by decide +kernel
def s_X9_work_86 : List mE := (86, .iload_n 1, 1, 1, 0, 0, .inl 0, []) ::
  (87, .invokevirtual 231, 3, 166, 3, 1, .inl 0, [1480, 8]) ::
  (90, .ireturn, 1, 0, 0, 0, .inl 0, []) :: []
def s_X9_work_83 : List mE := (83, .sipush 230, 3, 0, 0, 0, .inl (nI 230), []) :: s_X9_work_86
def s_X9_work_72 : List mE := (72, .iload_n 2, 1, 2, 0, 0, .inl 0, []) ::
  (73, .iconst 4, 1, 0, 0, 0, .inl (nI 4), []) ::
  (74, .if_icmp .ne 9, 3, 83, 0, 0, .inl 0, []) ::
  (77, .sipush 182, 3, 0, 0, 0, .inl (nI 182), []) ::
  (80, .goto 6, 3, 86, 0, 0, .inl 0, []) :: s_X9_work_83
def s_X9_work_61 : List mE := (61, .aload_n 0, 1, 0, 0, 0, .inl 0, []) ::
  (62, .iload_n 2, 1, 2, 0, 0, .inl 0, []) ::
  (63, .iconst 3, 1, 0, 0, 0, .inl (nI 3), []) ::
  (64, .if_icmp .ne 8, 3, 72, 0, 0, .inl 0, []) ::
  (67, .bipush 38, 2, 0, 0, 0, .inl (nI 38), []) ::
  (69, .goto 17, 3, 86, 0, 0, .inl 0, []) :: s_X9_work_72
def s_X9_work_57 : List mE := (57, .iload_n 1, 1, 1, 0, 0, .inl 0, []) ::
  (58, .iadd, 1, 0, 0, 0, .inl 0, []) ::
  (59, .iaload, 1, 0, 0, 0, .inl 0, []) ::
  (60, .ireturn, 1, 0, 0, 0, .inl 0, []) :: s_X9_work_61
def s_X9_work_55 : List mE := (55, .bipush 30, 2, 0, 0, 0, .inl (nI 30), []) :: s_X9_work_57
def s_X9_work_45 : List mE := (45, .iload_n 2, 1, 2, 0, 0, .inl 0, []) ::
  (46, .iconst 1, 1, 0, 0, 0, .inl (nI 1), []) ::
  (47, .if_icmp .ne 8, 3, 55, 0, 0, .inl 0, []) ::
  (50, .bipush 22, 2, 0, 0, 0, .inl (nI 22), []) ::
  (52, .goto 5, 3, 57, 0, 0, .inl 0, []) :: s_X9_work_55
def s_X9_work_22 : List mE := (22, .aload_n 0, 1, 0, 0, 0, .inl 0, []) ::
  (23, .iconst 0, 1, 0, 0, 0, .inl (nI 0), []) ::
  (24, .putfield 76, 3, 8, 0, 0, .inl 0, [1196]) ::
  (27, .iload_n 2, 1, 2, 0, 0, .inl 0, []) ::
  (28, .iconst 3, 1, 0, 0, 0, .inl (nI 3), []) ::
  (29, .if_icmp .ge 32, 3, 61, 0, 0, .inl 0, []) ::
  (32, .aload_n 0, 1, 0, 0, 0, .inl 0, []) ::
  (33, .getfield 13, 3, 8, 14, 3, .inr (.inr (16, 925, 2)), [1210]) ::
  (36, .iload_n 2, 1, 2, 0, 0, .inl 0, []) ::
  (37, .ifCond .ne 8, 3, 45, 0, 0, .inl 0, []) ::
  (40, .bipush 14, 2, 0, 0, 0, .inl (nI 14), []) ::
  (42, .goto 15, 3, 57, 0, 0, .inl 0, []) :: s_X9_work_45
def s_X9_work_17 : List mE := (17, .aload_n 0, 1, 0, 0, 0, .inl 0, []) ::
  (18, .invokevirtual 228, 3, 235, 1, 1, .inl 0, [1476, 8]) ::
  (21, .ireturn, 1, 0, 0, 0, .inl 0, []) :: s_X9_work_22
def s_X9_work_0 : List mE := (0, .aload_n 0, 1, 0, 0, 0, .inl 0, []) ::
  (1, .iload_n 1, 1, 1, 0, 0, .inl 0, []) ::
  (2, .invokevirtual 225, 3, 190, 2, 1, .inl 0, [1468, 8]) ::
  (5, .ifCond .eq 12, 3, 17, 0, 0, .inl 0, []) ::
  (8, .iload_n 2, 1, 2, 0, 0, .inl 0, []) ::
  (9, .iconst 0, 1, 0, 0, 0, .inl (nI 0), []) ::
  (10, .iconst 5, 1, 0, 0, 0, .inl (nI 5), []) ::
  (11, .invokestatic 143, 3, 177, 3, 1, .inl 0, [1414]) ::
  (14, .ifCond .ne 8, 3, 22, 0, 0, .inl 0, []) :: s_X9_work_17
def k_X9_work : List mE := s_X9_work_0
set_option maxRecDepth 100000 in
theorem t_X9_work_0 : dropTo 0 k_X9_work = s_X9_work_0 := rfl
set_option maxRecDepth 100000 in
theorem t_X9_work_17 : dropTo 17 k_X9_work = s_X9_work_17 := rfl
set_option maxRecDepth 100000 in
theorem t_X9_work_22 : dropTo 22 k_X9_work = s_X9_work_22 := rfl
set_option maxRecDepth 100000 in
theorem t_X9_work_45 : dropTo 45 k_X9_work = s_X9_work_45 := rfl
set_option maxRecDepth 100000 in
theorem t_X9_work_55 : dropTo 55 k_X9_work = s_X9_work_55 := rfl
set_option maxRecDepth 100000 in
theorem t_X9_work_57 : dropTo 57 k_X9_work = s_X9_work_57 := rfl
set_option maxRecDepth 100000 in
theorem t_X9_work_61 : dropTo 61 k_X9_work = s_X9_work_61 := rfl
set_option maxRecDepth 100000 in
theorem t_X9_work_72 : dropTo 72 k_X9_work = s_X9_work_72 := rfl
set_option maxRecDepth 100000 in
theorem t_X9_work_83 : dropTo 83 k_X9_work = s_X9_work_83 := rfl
set_option maxRecDepth 100000 in
theorem t_X9_work_86 : dropTo 86 k_X9_work = s_X9_work_86 := rfl
theorem ok_X9_work : mOkF m_X9_work k_X9_work = true := by decide +kernel
theorem cm_X9_work : mChkM m_X9_work = true := by decide +kernel
def s_X9_works_0 : List mE := (0, .aload_n 0, 1, 0, 0, 0, .inl 0, []) ::
  (1, .getfield 13, 3, 8, 14, 3, .inr (.inr (16, 925, 2)), [1210]) ::
  (4, .iconst 1, 1, 0, 0, 0, .inl (nI 1), []) ::
  (5, .iaload, 1, 0, 0, 0, .inl 0, []) ::
  (6, .ireturn, 1, 0, 0, 0, .inl 0, []) :: []
def k_X9_works : List mE := s_X9_works_0
set_option maxRecDepth 100000 in
theorem t_X9_works_0 : dropTo 0 k_X9_works = s_X9_works_0 := rfl
theorem ok_X9_works : mOkF m_X9_works k_X9_works = true := by decide +kernel
theorem cm_X9_works : mChkM m_X9_works = true := by decide +kernel
def s_X9_worth_147 : List mE := (147, .aload_n 0, 1, 0, 0, 0, .inl 0, []) ::
  (148, .getfield 57, 3, 8, 31, 3, .inr (.inr (16, 256, 16)), [1227]) ::
  (151, .aload_n 0, 1, 0, 0, 0, .inl 0, []) ::
  (152, .invokevirtual 309, 3, 137, 1, 1, .inl 0, [1629, 8]) ::
  (155, .iaload, 1, 0, 0, 0, .inl 0, []) ::
  (156, .ireturn, 1, 0, 0, 0, .inl 0, []) :: []
def s_X9_worth_141 : List mE := (141, .iinc 2 1, 3, 2, 0, 0, .inl (nI 1), []) ::
  (144, .goto (-97), 3, 47, 0, 0, .inl 0, []) :: s_X9_worth_147
def s_X9_worth_135 : List mE := (135, .iinc 3 1, 3, 3, 0, 0, .inl (nI 1), []) ::
  (138, .goto (-74), 3, 64, 0, 0, .inl 0, []) :: s_X9_worth_141
def s_X9_worth_83 : List mE := (83, .iload_n 3, 1, 3, 0, 0, .inl 0, []) ::
  (84, .invokestatic 324, 3, 143, 1, 1, .inl 0, [1644]) ::
  (87, .istore 4, 2, 4, 0, 0, .inl 0, []) ::
  (89, .aload_n 0, 1, 0, 0, 0, .inl 0, []) ::
  (90, .getfield 60, 3, 8, 32, 3, .inr (.inr (17, 8, 17)), [1228]) ::
  (93, .iload_n 2, 1, 2, 0, 0, .inl 0, []) ::
  (94, .dup2, 1, 0, 0, 0, .inl 0, []) ::
  (95, .laload, 1, 0, 0, 0, .inl 0, []) ::
  (96, .iload 4, 2, 4, 0, 0, .inl 0, []) ::
  (98, .invokestatic 318, 3, 210, 1, 2, .inl 0, [1641]) ::
  (101, .aload_n 0, 1, 0, 0, 0, .inl 0, []) ::
  (102, .getfield 315, 3, 8, 33, 0, .inl 0, [1229]) ::
  (105, .iconst 1, 1, 0, 0, 0, .inl (nI 1), []) ::
  (106, .isub, 1, 0, 0, 0, .inl 0, []) ::
  (107, .iload 4, 2, 4, 0, 0, .inl 0, []) ::
  (109, .isub, 1, 0, 0, 0, .inl 0, []) ::
  (110, .invokestatic 318, 3, 210, 1, 2, .inl 0, [1641]) ::
  (113, .lmul, 1, 0, 0, 0, .inl 0, []) ::
  (114, .aload_n 0, 1, 0, 0, 0, .inl 0, []) ::
  (115, .getfield 57, 3, 8, 31, 3, .inr (.inr (16, 256, 16)), [1227]) ::
  (118, .iload_n 3, 1, 3, 0, 0, .inl 0, []) ::
  (119, .iconst 1, 1, 0, 0, 0, .inl (nI 1), []) ::
  (120, .iload_n 2, 1, 2, 0, 0, .inl 0, []) ::
  (121, .ishl, 1, 0, 0, 0, .inl 0, []) ::
  (122, .ior, 1, 0, 0, 0, .inl 0, []) ::
  (123, .iaload, 1, 0, 0, 0, .inl 0, []) ::
  (124, .aload_n 0, 1, 0, 0, 0, .inl 0, []) ::
  (125, .getfield 57, 3, 8, 31, 3, .inr (.inr (16, 256, 16)), [1227]) ::
  (128, .iload_n 3, 1, 3, 0, 0, .inl 0, []) ::
  (129, .iaload, 1, 0, 0, 0, .inl 0, []) ::
  (130, .isub, 1, 0, 0, 0, .inl 0, []) ::
  (131, .i2l, 1, 0, 0, 0, .inl 0, []) ::
  (132, .lmul, 1, 0, 0, 0, .inl 0, []) ::
  (133, .ladd, 1, 0, 0, 0, .inl 0, []) ::
  (134, .lastore, 1, 0, 0, 0, .inl 0, []) :: s_X9_worth_135
def s_X9_worth_64 : List mE := (64, .aload_n 0, 1, 0, 0, 0, .inl 0, []) ::
  (65, .iload_n 3, 1, 3, 0, 0, .inl 0, []) ::
  (66, .invokevirtual 300, 3, 181, 2, 1, .inl 0, [1610, 8]) ::
  (69, .ifCond .eq 72, 3, 141, 0, 0, .inl 0, []) ::
  (72, .iload_n 3, 1, 3, 0, 0, .inl 0, []) ::
  (73, .iload_n 2, 1, 2, 0, 0, .inl 0, []) ::
  (74, .invokestatic 250, 3, 169, 2, 1, .inl 0, [1543]) ::
  (77, .ifCond .eq 6, 3, 83, 0, 0, .inl 0, []) ::
  (80, .goto 55, 3, 135, 0, 0, .inl 0, []) :: s_X9_worth_83
def s_X9_worth_47 : List mE := (47, .iload_n 2, 1, 2, 0, 0, .inl 0, []) ::
  (48, .aload_n 0, 1, 0, 0, 0, .inl 0, []) ::
  (49, .getfield 315, 3, 8, 33, 0, .inl 0, [1229]) ::
  (52, .if_icmp .ge 95, 3, 147, 0, 0, .inl 0, []) ::
  (55, .aload_n 0, 1, 0, 0, 0, .inl 0, []) ::
  (56, .getfield 60, 3, 8, 32, 3, .inr (.inr (17, 8, 17)), [1228]) ::
  (59, .iload_n 2, 1, 2, 0, 0, .inl 0, []) ::
  (60, .lconst 0, 1, 0, 0, 0, .inr (.inl 0), []) ::
  (61, .lastore, 1, 0, 0, 0, .inl 0, []) ::
  (62, .iconst 0, 1, 0, 0, 0, .inl (nI 0), []) ::
  (63, .istore_n 3, 1, 3, 0, 0, .inl 0, []) :: s_X9_worth_64
def s_X9_worth_21 : List mE := (21, .aload_n 0, 1, 0, 0, 0, .inl 0, []) ::
  (22, .iload_n 1, 1, 1, 0, 0, .inl 0, []) ::
  (23, .invokevirtual 312, 3, 197, 2, 0, .inl 0, [1637, 8]) ::
  (26, .aload_n 0, 1, 0, 0, 0, .inl 0, []) ::
  (27, .aload_n 0, 1, 0, 0, 0, .inl 0, []) ::
  (28, .invokevirtual 219, 3, 253, 1, 1, .inl 0, [1472, 8]) ::
  (31, .putfield 315, 3, 8, 33, 0, .inl 0, [1229]) ::
  (34, .aload_n 0, 1, 0, 0, 0, .inl 0, []) ::
  (35, .aload_n 0, 1, 0, 0, 0, .inl 0, []) ::
  (36, .getfield 315, 3, 8, 33, 0, .inl 0, [1229]) ::
  (39, .invokestatic 318, 3, 210, 1, 2, .inl 0, [1641]) ::
  (42, .putfield 321, 3, 8, 34, 1, .inl 0, [1230]) ::
  (45, .iconst 0, 1, 0, 0, 0, .inl (nI 0), []) ::
  (46, .istore_n 2, 1, 2, 0, 0, .inl 0, []) :: s_X9_worth_47
def s_X9_worth_19 : List mE := (19, .iconst (-1), 1, 0, 0, 0, .inl (-1), []) ::
  (20, .ireturn, 1, 0, 0, 0, .inl 0, []) :: s_X9_worth_21
def s_X9_worth_0 : List mE := (0, .aload_n 0, 1, 0, 0, 0, .inl 0, []) ::
  (1, .iconst 0, 1, 0, 0, 0, .inl (nI 0), []) ::
  (2, .putfield 76, 3, 8, 0, 0, .inl 0, [1196]) ::
  (5, .iload_n 1, 1, 1, 0, 0, .inl 0, []) ::
  (6, .invokestatic 303, 3, 176, 1, 1, .inl 0, [1614]) ::
  (9, .ifCond .eq 10, 3, 19, 0, 0, .inl 0, []) ::
  (12, .aload_n 0, 1, 0, 0, 0, .inl 0, []) ::
  (13, .invokevirtual 219, 3, 253, 1, 1, .inl 0, [1472, 8]) ::
  (16, .ifCond .ne 5, 3, 21, 0, 0, .inl 0, []) :: s_X9_worth_19
def k_X9_worth : List mE := s_X9_worth_0
set_option maxRecDepth 100000 in
theorem t_X9_worth_0 : dropTo 0 k_X9_worth = s_X9_worth_0 := rfl
set_option maxRecDepth 100000 in
theorem t_X9_worth_19 : dropTo 19 k_X9_worth = s_X9_worth_19 := rfl
set_option maxRecDepth 100000 in
theorem t_X9_worth_21 : dropTo 21 k_X9_worth = s_X9_worth_21 := rfl
set_option maxRecDepth 100000 in
theorem t_X9_worth_47 : dropTo 47 k_X9_worth = s_X9_worth_47 := rfl
set_option maxRecDepth 100000 in
theorem t_X9_worth_64 : dropTo 64 k_X9_worth = s_X9_worth_64 := rfl
set_option maxRecDepth 100000 in
theorem t_X9_worth_83 : dropTo 83 k_X9_worth = s_X9_worth_83 := rfl
set_option maxRecDepth 100000 in
theorem t_X9_worth_135 : dropTo 135 k_X9_worth = s_X9_worth_135 := rfl
set_option maxRecDepth 100000 in
theorem t_X9_worth_141 : dropTo 141 k_X9_worth = s_X9_worth_141 := rfl
set_option maxRecDepth 100000 in
theorem t_X9_worth_147 : dropTo 147 k_X9_worth = s_X9_worth_147 := rfl
theorem ok_X9_worth : mOkF m_X9_worth k_X9_worth = true := by decide +kernel
theorem cm_X9_worth : mChkM m_X9_worth = true := by decide +kernel
def s_X9_worthOf_107 : List mE := (107, .lload_n 3, 1, 3, 0, 0, .inl 0, []) ::
  (108, .ldiv, 1, 0, 0, 0, .inl 0, []) ::
  (109, .lreturn, 1, 0, 0, 0, .inl 0, []) :: []
def s_X9_worthOf_103 : List mE := (103, .aload_n 0, 1, 0, 0, 0, .inl 0, []) ::
  (104, .getfield 321, 3, 8, 34, 1, .inl 0, [1230]) :: s_X9_worthOf_107
def s_X9_worthOf_90 : List mE := (90, .iload_n 2, 1, 2, 0, 0, .inl 0, []) ::
  (91, .ifCond .ne 12, 3, 103, 0, 0, .inl 0, []) ::
  (94, .aload_n 0, 1, 0, 0, 0, .inl 0, []) ::
  (95, .getfield 60, 3, 8, 32, 3, .inr (.inr (17, 8, 17)), [1228]) ::
  (98, .iload_n 1, 1, 1, 0, 0, .inl 0, []) ::
  (99, .laload, 1, 0, 0, 0, .inl 0, []) ::
  (100, .goto 7, 3, 107, 0, 0, .inl 0, []) :: s_X9_worthOf_103
def s_X9_worthOf_67 : List mE := (67, .lload 5, 2, 5, 0, 0, .inl 0, []) ::
  (69, .lconst 0, 1, 0, 0, 0, .inr (.inl 0), []) ::
  (70, .lcmp, 1, 0, 0, 0, .inl 0, []) ::
  (71, .ifCond .le 19, 3, 90, 0, 0, .inl 0, []) ::
  (74, .lload_n 3, 1, 3, 0, 0, .inl 0, []) ::
  (75, .lload 5, 2, 5, 0, 0, .inl 0, []) ::
  (77, .lrem, 1, 0, 0, 0, .inl 0, []) ::
  (78, .lstore 7, 2, 7, 0, 0, .inl 0, []) ::
  (80, .lload 5, 2, 5, 0, 0, .inl 0, []) ::
  (82, .lstore_n 3, 1, 3, 0, 0, .inl 0, []) ::
  (83, .lload 7, 2, 7, 0, 0, .inl 0, []) ::
  (85, .lstore 5, 2, 5, 0, 0, .inl 0, []) ::
  (87, .goto (-20), 3, 67, 0, 0, .inl 0, []) :: s_X9_worthOf_90
def s_X9_worthOf_60 : List mE := (60, .lstore_n 3, 1, 3, 0, 0, .inl 0, []) ::
  (61, .aload_n 0, 1, 0, 0, 0, .inl 0, []) ::
  (62, .getfield 321, 3, 8, 34, 1, .inl 0, [1230]) ::
  (65, .lstore 5, 2, 5, 0, 0, .inl 0, []) :: s_X9_worthOf_67
def s_X9_worthOf_54 : List mE := (54, .aload_n 0, 1, 0, 0, 0, .inl 0, []) ::
  (55, .getfield 60, 3, 8, 32, 3, .inr (.inr (17, 8, 17)), [1228]) ::
  (58, .iload_n 1, 1, 1, 0, 0, .inl 0, []) ::
  (59, .laload, 1, 0, 0, 0, .inl 0, []) :: s_X9_worthOf_60
def s_X9_worthOf_28 : List mE := (28, .aload_n 0, 1, 0, 0, 0, .inl 0, []) ::
  (29, .iconst 0, 1, 0, 0, 0, .inl (nI 0), []) ::
  (30, .putfield 76, 3, 8, 0, 0, .inl 0, [1196]) ::
  (33, .aload_n 0, 1, 0, 0, 0, .inl 0, []) ::
  (34, .getfield 60, 3, 8, 32, 3, .inr (.inr (17, 8, 17)), [1228]) ::
  (37, .iload_n 1, 1, 1, 0, 0, .inl 0, []) ::
  (38, .laload, 1, 0, 0, 0, .inl 0, []) ::
  (39, .lconst 0, 1, 0, 0, 0, .inr (.inl 0), []) ::
  (40, .lcmp, 1, 0, 0, 0, .inl 0, []) ::
  (41, .ifCond .ge 13, 3, 54, 0, 0, .inl 0, []) ::
  (44, .aload_n 0, 1, 0, 0, 0, .inl 0, []) ::
  (45, .getfield 60, 3, 8, 32, 3, .inr (.inr (17, 8, 17)), [1228]) ::
  (48, .iload_n 1, 1, 1, 0, 0, .inl 0, []) ::
  (49, .laload, 1, 0, 0, 0, .inl 0, []) ::
  (50, .lneg, 1, 0, 0, 0, .inl 0, []) ::
  (51, .goto 9, 3, 60, 0, 0, .inl 0, []) :: s_X9_worthOf_54
def s_X9_worthOf_21 : List mE := (21, .aload_n 0, 1, 0, 0, 0, .inl 0, []) ::
  (22, .invokevirtual 228, 3, 235, 1, 1, .inl 0, [1476, 8]) ::
  (25, .pop, 1, 0, 0, 0, .inl 0, []) ::
  (26, .lconst 0, 1, 0, 0, 0, .inr (.inl 0), []) ::
  (27, .lreturn, 1, 0, 0, 0, .inl 0, []) :: s_X9_worthOf_28
def s_X9_worthOf_0 : List mE := (0, .iload_n 1, 1, 1, 0, 0, .inl 0, []) ::
  (1, .ifCond .lt 20, 3, 21, 0, 0, .inl 0, []) ::
  (4, .iload_n 1, 1, 1, 0, 0, .inl 0, []) ::
  (5, .aload_n 0, 1, 0, 0, 0, .inl 0, []) ::
  (6, .getfield 315, 3, 8, 33, 0, .inl 0, [1229]) ::
  (9, .if_icmp .ge 12, 3, 21, 0, 0, .inl 0, []) ::
  (12, .iload_n 2, 1, 2, 0, 0, .inl 0, []) ::
  (13, .iconst 0, 1, 0, 0, 0, .inl (nI 0), []) ::
  (14, .iconst 1, 1, 0, 0, 0, .inl (nI 1), []) ::
  (15, .invokestatic 143, 3, 177, 3, 1, .inl 0, [1414]) ::
  (18, .ifCond .ne 10, 3, 28, 0, 0, .inl 0, []) :: s_X9_worthOf_21
def k_X9_worthOf : List mE := s_X9_worthOf_0
set_option maxRecDepth 100000 in
theorem t_X9_worthOf_0 : dropTo 0 k_X9_worthOf = s_X9_worthOf_0 := rfl
set_option maxRecDepth 100000 in
theorem t_X9_worthOf_21 : dropTo 21 k_X9_worthOf = s_X9_worthOf_21 := rfl
set_option maxRecDepth 100000 in
theorem t_X9_worthOf_28 : dropTo 28 k_X9_worthOf = s_X9_worthOf_28 := rfl
set_option maxRecDepth 100000 in
theorem t_X9_worthOf_54 : dropTo 54 k_X9_worthOf = s_X9_worthOf_54 := rfl
set_option maxRecDepth 100000 in
theorem t_X9_worthOf_60 : dropTo 60 k_X9_worthOf = s_X9_worthOf_60 := rfl
set_option maxRecDepth 100000 in
theorem t_X9_worthOf_67 : dropTo 67 k_X9_worthOf = s_X9_worthOf_67 := rfl
set_option maxRecDepth 100000 in
theorem t_X9_worthOf_90 : dropTo 90 k_X9_worthOf = s_X9_worthOf_90 := rfl
set_option maxRecDepth 100000 in
theorem t_X9_worthOf_103 : dropTo 103 k_X9_worthOf = s_X9_worthOf_103 := rfl
set_option maxRecDepth 100000 in
theorem t_X9_worthOf_107 : dropTo 107 k_X9_worthOf = s_X9_worthOf_107 := rfl
theorem ok_X9_worthOf : mOkF m_X9_worthOf k_X9_worthOf = true := by decide +kernel
theorem cm_X9_worthOf : mChkM m_X9_worthOf = true := by decide +kernel
def s_X9_write_94 : List mE := (94, .aload_n 0, 1, 0, 0, 0, .inl 0, []) ::
  (95, .getfield 343, 3, 8, 38, 0, .inl 0, [1234]) ::
  (98, .ireturn, 1, 0, 0, 0, .inl 0, []) :: []
def s_X9_write_21 : List mE := (21, .iload_n 1, 1, 1, 0, 0, .inl 0, []) ::
  (22, .aload_n 0, 1, 0, 0, 0, .inl 0, []) ::
  (23, .invokevirtual 219, 3, 253, 1, 1, .inl 0, [1472, 8]) ::
  (26, .if_icmp .ge 68, 3, 94, 0, 0, .inl 0, []) ::
  (29, .aload_n 0, 1, 0, 0, 0, .inl 0, []) ::
  (30, .aload_n 0, 1, 0, 0, 0, .inl 0, []) ::
  (31, .getfield 25, 3, 8, 18, 3, .inr (.inr (17, 14, 6)), [1214]) ::
  (34, .bipush 6, 2, 0, 0, 0, .inl (nI 6), []) ::
  (36, .iload_n 1, 1, 1, 0, 0, .inl 0, []) ::
  (37, .iadd, 1, 0, 0, 0, .inl 0, []) ::
  (38, .laload, 1, 0, 0, 0, .inl 0, []) ::
  (39, .invokevirtual 349, 3, 214, 2, 0, .inl 0, [1727, 8]) ::
  (42, .aload_n 0, 1, 0, 0, 0, .inl 0, []) ::
  (43, .bipush 32, 2, 0, 0, 0, .inl (nI 32), []) ::
  (45, .invokevirtual 346, 3, 213, 2, 0, .inl 0, [1731, 8]) ::
  (48, .aload_n 0, 1, 0, 0, 0, .inl 0, []) ::
  (49, .aload_n 0, 1, 0, 0, 0, .inl 0, []) ::
  (50, .getfield 13, 3, 8, 14, 3, .inr (.inr (16, 925, 2)), [1210]) ::
  (53, .sipush 833, 3, 0, 0, 0, .inl (nI 833), []) ::
  (56, .iload_n 1, 1, 1, 0, 0, .inl 0, []) ::
  (57, .iadd, 1, 0, 0, 0, .inl 0, []) ::
  (58, .iaload, 1, 0, 0, 0, .inl 0, []) ::
  (59, .invokevirtual 353, 3, 215, 2, 0, .inl 0, [1735, 8]) ::
  (62, .aload_n 0, 1, 0, 0, 0, .inl 0, []) ::
  (63, .bipush 32, 2, 0, 0, 0, .inl (nI 32), []) ::
  (65, .invokevirtual 346, 3, 213, 2, 0, .inl 0, [1731, 8]) ::
  (68, .aload_n 0, 1, 0, 0, 0, .inl 0, []) ::
  (69, .aload_n 0, 1, 0, 0, 0, .inl 0, []) ::
  (70, .getfield 13, 3, 8, 14, 3, .inr (.inr (16, 925, 2)), [1210]) ::
  (73, .sipush 849, 3, 0, 0, 0, .inl (nI 849), []) ::
  (76, .iload_n 1, 1, 1, 0, 0, .inl 0, []) ::
  (77, .iadd, 1, 0, 0, 0, .inl 0, []) ::
  (78, .iaload, 1, 0, 0, 0, .inl 0, []) ::
  (79, .invokevirtual 353, 3, 215, 2, 0, .inl 0, [1735, 8]) ::
  (82, .aload_n 0, 1, 0, 0, 0, .inl 0, []) ::
  (83, .bipush 59, 2, 0, 0, 0, .inl (nI 59), []) ::
  (85, .invokevirtual 346, 3, 213, 2, 0, .inl 0, [1731, 8]) ::
  (88, .iinc 1 1, 3, 1, 0, 0, .inl (nI 1), []) ::
  (91, .goto (-70), 3, 21, 0, 0, .inl 0, []) :: s_X9_write_94
def s_X9_write_14 : List mE := (14, .aload_n 0, 1, 0, 0, 0, .inl 0, []) ::
  (15, .iconst 0, 1, 0, 0, 0, .inl (nI 0), []) ::
  (16, .putfield 343, 3, 8, 38, 0, .inl 0, [1234]) ::
  (19, .iconst 0, 1, 0, 0, 0, .inl (nI 0), []) ::
  (20, .istore_n 1, 1, 1, 0, 0, .inl 0, []) :: s_X9_write_21
def s_X9_write_0 : List mE := (0, .aload_n 0, 1, 0, 0, 0, .inl 0, []) ::
  (1, .iconst 0, 1, 0, 0, 0, .inl (nI 0), []) ::
  (2, .putfield 76, 3, 8, 0, 0, .inl 0, [1196]) ::
  (5, .aload_n 0, 1, 0, 0, 0, .inl 0, []) ::
  (6, .invokevirtual 288, 3, 180, 1, 1, .inl 0, [1516, 8]) ::
  (9, .ifCond .ne 5, 3, 14, 0, 0, .inl 0, []) ::
  (12, .iconst (-1), 1, 0, 0, 0, .inl (-1), []) ::
  (13, .ireturn, 1, 0, 0, 0, .inl 0, []) :: s_X9_write_14
def k_X9_write : List mE := s_X9_write_0
set_option maxRecDepth 100000 in
theorem t_X9_write_0 : dropTo 0 k_X9_write = s_X9_write_0 := rfl
set_option maxRecDepth 100000 in
theorem t_X9_write_14 : dropTo 14 k_X9_write = s_X9_write_14 := rfl
set_option maxRecDepth 100000 in
theorem t_X9_write_21 : dropTo 21 k_X9_write = s_X9_write_21 := rfl
set_option maxRecDepth 100000 in
theorem t_X9_write_94 : dropTo 94 k_X9_write = s_X9_write_94 := rfl
theorem ok_X9_write : mOkF m_X9_write k_X9_write = true := by decide +kernel
theorem cm_X9_write : mChkM m_X9_write = true := by decide +kernel
