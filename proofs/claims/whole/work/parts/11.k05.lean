def s_X9_kindled_0 : List mE := (0, .aload_n 0, 1, 0, 0, 0, .inl 0, []) ::
  (1, .iconst 0, 1, 0, 0, 0, .inl (nI 0), []) ::
  (2, .putfield 76, 3, 8, 0, 0, .inl 0, [1196]) ::
  (5, .aload_n 0, 1, 0, 0, 0, .inl 0, []) ::
  (6, .getfield 63, 3, 8, 35, 0, .inl 0, [1231]) ::
  (9, .ireturn, 1, 0, 0, 0, .inl 0, []) :: []
def k_X9_kindled : List mE := s_X9_kindled_0
set_option maxRecDepth 100000 in
theorem t_X9_kindled_0 : dropTo 0 k_X9_kindled = s_X9_kindled_0 := rfl
theorem ok_X9_kindled : mOkF m_X9_kindled k_X9_kindled = true := by decide +kernel
theorem cm_X9_kindled : mChkM m_X9_kindled = true := by decide +kernel
def s_X9_kindles_158 : List mE := (158, .iconst 1, 1, 0, 0, 0, .inl (nI 1), []) ::
  (159, .ireturn, 1, 1, 0, 0, .inl 0, []) :: []
def s_X9_kindles_152 : List mE := (152, .iinc 4 1, 3, 4, 0, 0, .inl (nI 1), []) ::
  (155, .goto (-37), 3, 118, 0, 0, .inl 0, []) :: s_X9_kindles_158
def s_X9_kindles_118 : List mE := (118, .iload 4, 2, 4, 0, 0, .inl 0, []) ::
  (120, .aload_n 0, 1, 0, 0, 0, .inl 0, []) ::
  (121, .invokevirtual 219, 3, 253, 1, 1, .inl 0, [1472, 8]) ::
  (124, .if_icmp .ge 34, 3, 158, 0, 0, .inl 0, []) ::
  (127, .iload_n 2, 1, 2, 0, 0, .inl 0, []) ::
  (128, .iload 4, 2, 4, 0, 0, .inl 0, []) ::
  (130, .invokestatic 250, 3, 169, 2, 1, .inl 0, [1543]) ::
  (133, .ifCond .eq 19, 3, 152, 0, 0, .inl 0, []) ::
  (136, .aload_n 0, 1, 0, 0, 0, .inl 0, []) ::
  (137, .getfield 42, 3, 8, 23, 3, .inr (.inr (16, 296, 11)), [1219]) ::
  (140, .sipush 212, 3, 0, 0, 0, .inl (nI 212), []) ::
  (143, .iload 4, 2, 4, 0, 0, .inl 0, []) ::
  (145, .iadd, 1, 0, 0, 0, .inl 0, []) ::
  (146, .iaload, 1, 0, 0, 0, .inl 0, []) ::
  (147, .ifCond .ne 5, 3, 152, 0, 0, .inl 0, []) ::
  (150, .iconst 0, 1, 0, 0, 0, .inl (nI 0), []) ::
  (151, .ireturn, 1, 1, 0, 0, .inl 0, []) :: s_X9_kindles_152
def s_X9_kindles_115 : List mE := (115, .iconst 0, 1, 0, 0, 0, .inl (nI 0), []) ::
  (116, .istore 4, 2, 4, 0, 0, .inl 0, []) :: s_X9_kindles_118
def s_X9_kindles_94 : List mE := (94, .iload 4, 2, 4, 0, 0, .inl 0, []) ::
  (96, .iload_n 3, 1, 3, 0, 0, .inl 0, []) ::
  (97, .if_icmp .ge 18, 3, 115, 0, 0, .inl 0, []) ::
  (100, .aload_n 0, 1, 0, 0, 0, .inl 0, []) ::
  (101, .aload_n 0, 1, 0, 0, 0, .inl 0, []) ::
  (102, .getfield 42, 3, 8, 23, 3, .inr (.inr (16, 296, 11)), [1219]) ::
  (105, .iconst 0, 1, 0, 0, 0, .inl (nI 0), []) ::
  (106, .invokevirtual 278, 3, 171, 3, 0, .inl 0, [1520, 8]) ::
  (109, .iinc 4 1, 3, 4, 0, 0, .inl (nI 1), []) ::
  (112, .goto (-18), 3, 94, 0, 0, .inl 0, []) :: s_X9_kindles_115
def s_X9_kindles_91 : List mE := (91, .iconst 0, 1, 0, 0, 0, .inl (nI 0), []) ::
  (92, .istore 4, 2, 4, 0, 0, .inl 0, []) :: s_X9_kindles_94
def s_X9_kindles_85 : List mE := (85, .iinc 4 1, 3, 4, 0, 0, .inl (nI 1), []) ::
  (88, .goto (-72), 3, 16, 0, 0, .inl 0, []) :: s_X9_kindles_91
def s_X9_kindles_78 : List mE := (78, .iastore, 1, 0, 0, 0, .inl 0, []) ::
  (79, .iinc 5 1, 3, 5, 0, 0, .inl (nI 1), []) ::
  (82, .goto (-54), 3, 28, 0, 0, .inl 0, []) :: s_X9_kindles_85
def s_X9_kindles_77 : List mE := (77, .iconst 0, 1, 0, 0, 0, .inl (nI 0), []) :: s_X9_kindles_78
def s_X9_kindles_28 : List mE := (28, .iload 5, 2, 5, 0, 0, .inl 0, []) ::
  (30, .aload_n 0, 1, 0, 0, 0, .inl 0, []) ::
  (31, .invokevirtual 222, 3, 165, 1, 1, .inl 0, [1484, 8]) ::
  (34, .if_icmp .ge 51, 3, 85, 0, 0, .inl 0, []) ::
  (37, .aload_n 0, 1, 0, 0, 0, .inl 0, []) ::
  (38, .getfield 42, 3, 8, 23, 3, .inr (.inr (16, 296, 11)), [1219]) ::
  (41, .iconst 2, 1, 0, 0, 0, .inl (nI 2), []) ::
  (42, .iload 4, 2, 4, 0, 0, .inl 0, []) ::
  (44, .iload 5, 2, 5, 0, 0, .inl 0, []) ::
  (46, .invokestatic 182, 3, 148, 2, 1, .inl 0, [1437]) ::
  (49, .iadd, 1, 0, 0, 0, .inl 0, []) ::
  (50, .iload_n 1, 1, 1, 0, 0, .inl 0, []) ::
  (51, .iload 4, 2, 4, 0, 0, .inl 0, []) ::
  (53, .invokestatic 250, 3, 169, 2, 1, .inl 0, [1543]) ::
  (56, .ifCond .eq 21, 3, 77, 0, 0, .inl 0, []) ::
  (59, .aload_n 0, 1, 0, 0, 0, .inl 0, []) ::
  (60, .getfield 39, 3, 8, 22, 3, .inr (.inr (16, 278, 10)), [1218]) ::
  (63, .bipush 38, 2, 0, 0, 0, .inl (nI 38), []) ::
  (65, .iload 4, 2, 4, 0, 0, .inl 0, []) ::
  (67, .iload 5, 2, 5, 0, 0, .inl 0, []) ::
  (69, .invokestatic 182, 3, 148, 2, 1, .inl 0, [1437]) ::
  (72, .iadd, 1, 0, 0, 0, .inl 0, []) ::
  (73, .iaload, 1, 0, 0, 0, .inl 0, []) ::
  (74, .goto 4, 3, 78, 0, 0, .inl 0, []) :: s_X9_kindles_77
def s_X9_kindles_16 : List mE := (16, .iload 4, 2, 4, 0, 0, .inl 0, []) ::
  (18, .aload_n 0, 1, 0, 0, 0, .inl 0, []) ::
  (19, .invokevirtual 219, 3, 253, 1, 1, .inl 0, [1472, 8]) ::
  (22, .if_icmp .ge 69, 3, 91, 0, 0, .inl 0, []) ::
  (25, .iconst 0, 1, 0, 0, 0, .inl (nI 0), []) ::
  (26, .istore 5, 2, 5, 0, 0, .inl 0, []) :: s_X9_kindles_28
def s_X9_kindles_0 : List mE := (0, .aload_n 0, 1, 0, 0, 0, .inl 0, []) ::
  (1, .invokevirtual 285, 3, 196, 1, 0, .inl 0, [1504, 8]) ::
  (4, .aload_n 0, 1, 0, 0, 0, .inl 0, []) ::
  (5, .aload_n 0, 1, 0, 0, 0, .inl 0, []) ::
  (6, .getfield 42, 3, 8, 23, 3, .inr (.inr (16, 296, 11)), [1219]) ::
  (9, .iconst 0, 1, 0, 0, 0, .inl (nI 0), []) ::
  (10, .invokevirtual 274, 3, 242, 3, 0, .inl 0, [1508, 8]) ::
  (13, .iconst 0, 1, 0, 0, 0, .inl (nI 0), []) ::
  (14, .istore 4, 2, 4, 0, 0, .inl 0, []) :: s_X9_kindles_16
def k_X9_kindles : List mE := s_X9_kindles_0
set_option maxRecDepth 100000 in
theorem t_X9_kindles_0 : dropTo 0 k_X9_kindles = s_X9_kindles_0 := rfl
set_option maxRecDepth 100000 in
theorem t_X9_kindles_16 : dropTo 16 k_X9_kindles = s_X9_kindles_16 := rfl
set_option maxRecDepth 100000 in
theorem t_X9_kindles_28 : dropTo 28 k_X9_kindles = s_X9_kindles_28 := rfl
set_option maxRecDepth 100000 in
theorem t_X9_kindles_77 : dropTo 77 k_X9_kindles = s_X9_kindles_77 := rfl
set_option maxRecDepth 100000 in
theorem t_X9_kindles_78 : dropTo 78 k_X9_kindles = s_X9_kindles_78 := rfl
set_option maxRecDepth 100000 in
theorem t_X9_kindles_85 : dropTo 85 k_X9_kindles = s_X9_kindles_85 := rfl
set_option maxRecDepth 100000 in
theorem t_X9_kindles_91 : dropTo 91 k_X9_kindles = s_X9_kindles_91 := rfl
set_option maxRecDepth 100000 in
theorem t_X9_kindles_94 : dropTo 94 k_X9_kindles = s_X9_kindles_94 := rfl
set_option maxRecDepth 100000 in
theorem t_X9_kindles_115 : dropTo 115 k_X9_kindles = s_X9_kindles_115 := rfl
set_option maxRecDepth 100000 in
theorem t_X9_kindles_118 : dropTo 118 k_X9_kindles = s_X9_kindles_118 := rfl
set_option maxRecDepth 100000 in
theorem t_X9_kindles_152 : dropTo 152 k_X9_kindles = s_X9_kindles_152 := rfl
set_option maxRecDepth 100000 in
theorem t_X9_kindles_158 : dropTo 158 k_X9_kindles = s_X9_kindles_158 := rfl
theorem ok_X9_kindles : mOkF m_X9_kindles k_X9_kindles = true := by decide +kernel
theorem cm_X9_kindles : mChkM m_X9_kindles = true := by decide +kernel
def s_X9_lacks_32 : List mE := (32, .ireturn, 1, 0, 0, 0, .inl 0, []) :: []
def s_X9_lacks_31 : List mE := (31, .iconst (-1), 1, 0, 0, 0, .inl (-1), []) :: s_X9_lacks_32
def s_X9_lacks_0 : List mE := (0, .aload_n 0, 1, 0, 0, 0, .inl 0, []) ::
  (1, .iconst 0, 1, 0, 0, 0, .inl (nI 0), []) ::
  (2, .putfield 76, 3, 8, 0, 0, .inl 0, [1196]) ::
  (5, .aload_n 0, 1, 0, 0, 0, .inl 0, []) ::
  (6, .iload_n 1, 1, 1, 0, 0, .inl 0, []) ::
  (7, .iload_n 2, 1, 2, 0, 0, .inl 0, []) ::
  (8, .invokevirtual 291, 3, 188, 3, 1, .inl 0, [1562, 8]) ::
  (11, .ifCond .eq 20, 3, 31, 0, 0, .inl 0, []) ::
  (14, .aload_n 0, 1, 0, 0, 0, .inl 0, []) ::
  (15, .getfield 13, 3, 8, 14, 3, .inr (.inr (16, 925, 2)), [1210]) ::
  (18, .sipush 767, 3, 0, 0, 0, .inl (nI 767), []) ::
  (21, .iload_n 1, 1, 1, 0, 0, .inl 0, []) ::
  (22, .iload_n 2, 1, 2, 0, 0, .inl 0, []) ::
  (23, .invokestatic 182, 3, 148, 2, 1, .inl 0, [1437]) ::
  (26, .iadd, 1, 0, 0, 0, .inl 0, []) ::
  (27, .iaload, 1, 0, 0, 0, .inl 0, []) ::
  (28, .goto 4, 3, 32, 0, 0, .inl 0, []) :: s_X9_lacks_31
def k_X9_lacks : List mE := s_X9_lacks_0
set_option maxRecDepth 100000 in
theorem t_X9_lacks_0 : dropTo 0 k_X9_lacks = s_X9_lacks_0 := rfl
set_option maxRecDepth 100000 in
theorem t_X9_lacks_31 : dropTo 31 k_X9_lacks = s_X9_lacks_31 := rfl
set_option maxRecDepth 100000 in
theorem t_X9_lacks_32 : dropTo 32 k_X9_lacks = s_X9_lacks_32 := rfl
theorem ok_X9_lacks : mOkF m_X9_lacks k_X9_lacks = true := by decide +kernel
theorem cm_X9_lacks : mChkM m_X9_lacks = true := by decide +kernel
def s_X9_layRule_27 : List mE := (27, .aload_n 0, 1, 0, 0, 0, .inl 0, []) ::
  (28, .iconst 0, 1, 0, 0, 0, .inl (nI 0), []) ::
  (29, .putfield 237, 3, 8, 27, 0, .inl 0, [1223]) ::
  (32, .aload_n 0, 1, 0, 0, 0, .inl 0, []) ::
  (33, .iconst (-1), 1, 0, 0, 0, .inl (-1), []) ::
  (34, .putfield 240, 3, 8, 28, 0, .inl 0, [1224]) ::
  (37, .aload_n 0, 1, 0, 0, 0, .inl 0, []) ::
  (38, .iconst 0, 1, 0, 0, 0, .inl (nI 0), []) ::
  (39, .putfield 243, 3, 8, 29, 2, .inl 0, [1225]) ::
  (42, .return_, 1, 0, 0, 0, .inl 0, []) :: []
def s_X9_layRule_2 : List mE := (2, .iload_n 1, 1, 1, 0, 0, .inl 0, []) ::
  (3, .sipush 278, 3, 0, 0, 0, .inl (nI 278), []) ::
  (6, .if_icmp .ge 21, 3, 27, 0, 0, .inl 0, []) ::
  (9, .aload_n 0, 1, 0, 0, 0, .inl 0, []) ::
  (10, .getfield 39, 3, 8, 22, 3, .inr (.inr (16, 278, 10)), [1218]) ::
  (13, .iload_n 1, 1, 1, 0, 0, .inl 0, []) ::
  (14, .aload_n 0, 1, 0, 0, 0, .inl 0, []) ::
  (15, .getfield 13, 3, 8, 14, 3, .inr (.inr (16, 925, 2)), [1210]) ::
  (18, .iload_n 1, 1, 1, 0, 0, .inl 0, []) ::
  (19, .iaload, 1, 0, 0, 0, .inl 0, []) ::
  (20, .iastore, 1, 0, 0, 0, .inl 0, []) ::
  (21, .iinc 1 1, 3, 1, 0, 0, .inl (nI 1), []) ::
  (24, .goto (-22), 3, 2, 0, 0, .inl 0, []) :: s_X9_layRule_27
def s_X9_layRule_0 : List mE := (0, .iconst 0, 1, 0, 0, 0, .inl (nI 0), []) ::
  (1, .istore_n 1, 1, 1, 0, 0, .inl 0, []) :: s_X9_layRule_2
def k_X9_layRule : List mE := s_X9_layRule_0
set_option maxRecDepth 100000 in
theorem t_X9_layRule_0 : dropTo 0 k_X9_layRule = s_X9_layRule_0 := rfl
set_option maxRecDepth 100000 in
theorem t_X9_layRule_2 : dropTo 2 k_X9_layRule = s_X9_layRule_2 := rfl
set_option maxRecDepth 100000 in
theorem t_X9_layRule_27 : dropTo 27 k_X9_layRule = s_X9_layRule_27 := rfl
theorem ok_X9_layRule : mOkF m_X9_layRule k_X9_layRule = true := by decide +kernel
theorem cm_X9_layRule : mChkM m_X9_layRule = true := by decide +kernel
def s_X9_layValues_28 : List mE := (28, .return_, 1, 0, 0, 0, .inl 0, []) :: []
def s_X9_layValues_2 : List mE := (2, .aload_n 0, 1, 0, 0, 0, .inl 0, []) ::
  (3, .iload_n 2, 1, 2, 0, 0, .inl 0, []) ::
  (4, .invokevirtual 300, 3, 181, 2, 1, .inl 0, [1610, 8]) ::
  (7, .ifCond .eq 21, 3, 28, 0, 0, .inl 0, []) ::
  (10, .aload_n 0, 1, 0, 0, 0, .inl 0, []) ::
  (11, .getfield 57, 3, 8, 31, 3, .inr (.inr (16, 256, 16)), [1227]) ::
  (14, .iload_n 2, 1, 2, 0, 0, .inl 0, []) ::
  (15, .aload_n 0, 1, 0, 0, 0, .inl 0, []) ::
  (16, .iload_n 2, 1, 2, 0, 0, .inl 0, []) ::
  (17, .iload_n 1, 1, 1, 0, 0, .inl 0, []) ::
  (18, .invokevirtual 306, 3, 204, 3, 1, .inl 0, [1617, 8]) ::
  (21, .iastore, 1, 0, 0, 0, .inl 0, []) ::
  (22, .iinc 2 1, 3, 2, 0, 0, .inl (nI 1), []) ::
  (25, .goto (-23), 3, 2, 0, 0, .inl 0, []) :: s_X9_layValues_28
def s_X9_layValues_0 : List mE := (0, .iconst 0, 1, 0, 0, 0, .inl (nI 0), []) ::
  (1, .istore_n 2, 1, 2, 0, 0, .inl 0, []) :: s_X9_layValues_2
def k_X9_layValues : List mE := s_X9_layValues_0
set_option maxRecDepth 100000 in
theorem t_X9_layValues_0 : dropTo 0 k_X9_layValues = s_X9_layValues_0 := rfl
set_option maxRecDepth 100000 in
theorem t_X9_layValues_2 : dropTo 2 k_X9_layValues = s_X9_layValues_2 := rfl
set_option maxRecDepth 100000 in
theorem t_X9_layValues_28 : dropTo 28 k_X9_layValues = s_X9_layValues_28 := rfl
theorem ok_X9_layValues : mOkF m_X9_layValues k_X9_layValues = true := by decide +kernel
theorem cm_X9_layValues : mChkM m_X9_layValues = true := by decide +kernel
def s_X9_lays_0 : List mE := (0, .iconst 4, 1, 0, 0, 0, .inl (nI 4), []) ::
  (1, .aload_n 0, 1, 0, 0, 0, .inl 0, []) ::
  (2, .getfield 362, 3, 8, 41, 0, .inl 0, [1237]) ::
  (5, .imul, 1, 0, 0, 0, .inl 0, []) ::
  (6, .istore 5, 2, 5, 0, 0, .inl 0, []) ::
  (8, .aload_n 0, 1, 0, 0, 0, .inl 0, []) ::
  (9, .getfield 73, 3, 8, 40, 3, .inr (.inr (16, 240, 20)), [1236]) ::
  (12, .iload 5, 2, 5, 0, 0, .inl 0, []) ::
  (14, .iload_n 1, 1, 1, 0, 0, .inl 0, []) ::
  (15, .iastore, 1, 0, 0, 0, .inl 0, []) ::
  (16, .aload_n 0, 1, 0, 0, 0, .inl 0, []) ::
  (17, .getfield 73, 3, 8, 40, 3, .inr (.inr (16, 240, 20)), [1236]) ::
  (20, .iload 5, 2, 5, 0, 0, .inl 0, []) ::
  (22, .iconst 1, 1, 0, 0, 0, .inl (nI 1), []) ::
  (23, .iadd, 1, 0, 0, 0, .inl 0, []) ::
  (24, .iload_n 2, 1, 2, 0, 0, .inl 0, []) ::
  (25, .iastore, 1, 0, 0, 0, .inl 0, []) ::
  (26, .aload_n 0, 1, 0, 0, 0, .inl 0, []) ::
  (27, .getfield 73, 3, 8, 40, 3, .inr (.inr (16, 240, 20)), [1236]) ::
  (30, .iload 5, 2, 5, 0, 0, .inl 0, []) ::
  (32, .iconst 2, 1, 0, 0, 0, .inl (nI 2), []) ::
  (33, .iadd, 1, 0, 0, 0, .inl 0, []) ::
  (34, .iload_n 3, 1, 3, 0, 0, .inl 0, []) ::
  (35, .iastore, 1, 0, 0, 0, .inl 0, []) ::
  (36, .aload_n 0, 1, 0, 0, 0, .inl 0, []) ::
  (37, .getfield 73, 3, 8, 40, 3, .inr (.inr (16, 240, 20)), [1236]) ::
  (40, .iload 5, 2, 5, 0, 0, .inl 0, []) ::
  (42, .iconst 3, 1, 0, 0, 0, .inl (nI 3), []) ::
  (43, .iadd, 1, 0, 0, 0, .inl 0, []) ::
  (44, .iload 4, 2, 4, 0, 0, .inl 0, []) ::
  (46, .iastore, 1, 0, 0, 0, .inl 0, []) ::
  (47, .aload_n 0, 1, 0, 0, 0, .inl 0, []) ::
  (48, .dup, 1, 0, 0, 0, .inl 0, []) ::
  (49, .getfield 362, 3, 8, 41, 0, .inl 0, [1237]) ::
  (52, .iconst 1, 1, 0, 0, 0, .inl (nI 1), []) ::
  (53, .iadd, 1, 0, 0, 0, .inl 0, []) ::
  (54, .putfield 362, 3, 8, 41, 0, .inl 0, [1237]) ::
  (57, .aload_n 0, 1, 0, 0, 0, .inl 0, []) ::
  (58, .getfield 362, 3, 8, 41, 0, .inl 0, [1237]) ::
  (61, .iconst 1, 1, 0, 0, 0, .inl (nI 1), []) ::
  (62, .isub, 1, 0, 0, 0, .inl 0, []) ::
  (63, .ireturn, 1, 0, 0, 0, .inl 0, []) :: []
def k_X9_lays : List mE := s_X9_lays_0
set_option maxRecDepth 100000 in
theorem t_X9_lays_0 : dropTo 0 k_X9_lays = s_X9_lays_0 := rfl
theorem ok_X9_lays : mOkF m_X9_lays k_X9_lays = true := by decide +kernel
theorem cm_X9_lays : mChkM m_X9_lays = true := by decide +kernel
def s_X9_less_10 : List mE := (10, .ireturn, 1, 0, 0, 0, .inl 0, []) :: []
def s_X9_less_9 : List mE := (9, .iload_n 1, 1, 1, 0, 0, .inl 0, []) :: s_X9_less_10
def s_X9_less_0 : List mE := (0, .iload_n 0, 1, 0, 0, 0, .inl 0, []) ::
  (1, .iload_n 1, 1, 1, 0, 0, .inl 0, []) ::
  (2, .if_icmp .ge 7, 3, 9, 0, 0, .inl 0, []) ::
  (5, .iload_n 0, 1, 0, 0, 0, .inl 0, []) ::
  (6, .goto 4, 3, 10, 0, 0, .inl 0, []) :: s_X9_less_9
def k_X9_less : List mE := s_X9_less_0
set_option maxRecDepth 100000 in
theorem t_X9_less_0 : dropTo 0 k_X9_less = s_X9_less_0 := rfl
set_option maxRecDepth 100000 in
theorem t_X9_less_9 : dropTo 9 k_X9_less = s_X9_less_9 := rfl
set_option maxRecDepth 100000 in
theorem t_X9_less_10 : dropTo 10 k_X9_less = s_X9_less_10 := rfl
theorem ok_X9_less : mOkF m_X9_less k_X9_less = true := by decide +kernel
theorem cm_X9_less : mChkM m_X9_less = true := by decide +kernel
def s_X9_longer_107 : List mE := (107, .iload_n 3, 1, 3, 0, 0, .inl 0, []) ::
  (108, .ireturn, 1, 0, 0, 0, .inl 0, []) :: []
def s_X9_longer_101 : List mE := (101, .iinc 5 1, 3, 5, 0, 0, .inl (nI 1), []) ::
  (104, .goto (-72), 3, 32, 0, 0, .inl 0, []) :: s_X9_longer_107
def s_X9_longer_94 : List mE := (94, .iload 5, 2, 5, 0, 0, .inl 0, []) ::
  (96, .istore_n 3, 1, 3, 0, 0, .inl 0, []) ::
  (97, .iload 6, 2, 6, 0, 0, .inl 0, []) ::
  (99, .istore 4, 2, 4, 0, 0, .inl 0, []) :: s_X9_longer_101
def s_X9_longer_32 : List mE := (32, .iload 5, 2, 5, 0, 0, .inl 0, []) ::
  (34, .aload_n 0, 1, 0, 0, 0, .inl 0, []) ::
  (35, .invokevirtual 219, 3, 253, 1, 1, .inl 0, [1472, 8]) ::
  (38, .if_icmp .ge 69, 3, 107, 0, 0, .inl 0, []) ::
  (41, .aload_n 0, 1, 0, 0, 0, .inl 0, []) ::
  (42, .invokevirtual 285, 3, 196, 1, 0, .inl 0, [1504, 8]) ::
  (45, .aload_n 0, 1, 0, 0, 0, .inl 0, []) ::
  (46, .getfield 39, 3, 8, 22, 3, .inr (.inr (16, 278, 10)), [1218]) ::
  (49, .bipush 22, 2, 0, 0, 0, .inl (nI 22), []) ::
  (51, .iload 5, 2, 5, 0, 0, .inl 0, []) ::
  (53, .iadd, 1, 0, 0, 0, .inl 0, []) ::
  (54, .bipush 11, 2, 0, 0, 0, .inl (nI 11), []) ::
  (56, .aload_n 0, 1, 0, 0, 0, .inl 0, []) ::
  (57, .getfield 39, 3, 8, 22, 3, .inr (.inr (16, 278, 10)), [1218]) ::
  (60, .bipush 22, 2, 0, 0, 0, .inl (nI 22), []) ::
  (62, .iload 5, 2, 5, 0, 0, .inl 0, []) ::
  (64, .iadd, 1, 0, 0, 0, .inl 0, []) ::
  (65, .iaload, 1, 0, 0, 0, .inl 0, []) ::
  (66, .iload_n 1, 1, 1, 0, 0, .inl 0, []) ::
  (67, .iadd, 1, 0, 0, 0, .inl 0, []) ::
  (68, .invokestatic 247, 3, 199, 2, 1, .inl 0, [1528]) ::
  (71, .iastore, 1, 0, 0, 0, .inl 0, []) ::
  (72, .aload_n 0, 1, 0, 0, 0, .inl 0, []) ::
  (73, .iload_n 2, 1, 2, 0, 0, .inl 0, []) ::
  (74, .invokevirtual 297, 3, 238, 2, 1, .inl 0, [1621, 8]) ::
  (77, .istore 6, 2, 6, 0, 0, .inl 0, []) ::
  (79, .iload_n 3, 1, 3, 0, 0, .inl 0, []) ::
  (80, .iconst (-1), 1, 0, 0, 0, .inl (-1), []) ::
  (81, .if_icmp .eq 13, 3, 94, 0, 0, .inl 0, []) ::
  (84, .iload 6, 2, 6, 0, 0, .inl 0, []) ::
  (86, .iload 4, 2, 4, 0, 0, .inl 0, []) ::
  (88, .if_icmp .gt 6, 3, 94, 0, 0, .inl 0, []) ::
  (91, .goto 10, 3, 101, 0, 0, .inl 0, []) :: s_X9_longer_94
def s_X9_longer_24 : List mE := (24, .iconst (-1), 1, 0, 0, 0, .inl (-1), []) ::
  (25, .istore_n 3, 1, 3, 0, 0, .inl 0, []) ::
  (26, .iconst 0, 1, 0, 0, 0, .inl (nI 0), []) ::
  (27, .istore 4, 2, 4, 0, 0, .inl 0, []) ::
  (29, .iconst 0, 1, 0, 0, 0, .inl (nI 0), []) ::
  (30, .istore 5, 2, 5, 0, 0, .inl 0, []) :: s_X9_longer_32
def s_X9_longer_22 : List mE := (22, .iconst (-1), 1, 0, 0, 0, .inl (-1), []) ::
  (23, .ireturn, 1, 0, 0, 0, .inl 0, []) :: s_X9_longer_24
def s_X9_longer_0 : List mE := (0, .aload_n 0, 1, 0, 0, 0, .inl 0, []) ::
  (1, .iconst 0, 1, 0, 0, 0, .inl (nI 0), []) ::
  (2, .putfield 76, 3, 8, 0, 0, .inl 0, [1196]) ::
  (5, .iload_n 1, 1, 1, 0, 0, .inl 0, []) ::
  (6, .iconst 1, 1, 0, 0, 0, .inl (nI 1), []) ::
  (7, .bipush 11, 2, 0, 0, 0, .inl (nI 11), []) ::
  (9, .invokestatic 143, 3, 177, 3, 1, .inl 0, [1414]) ::
  (12, .ifCond .eq 10, 3, 22, 0, 0, .inl 0, []) ::
  (15, .iload_n 2, 1, 2, 0, 0, .inl 0, []) ::
  (16, .invokestatic 303, 3, 176, 1, 1, .inl 0, [1614]) ::
  (19, .ifCond .ne 5, 3, 24, 0, 0, .inl 0, []) :: s_X9_longer_22
def k_X9_longer : List mE := s_X9_longer_0
set_option maxRecDepth 100000 in
theorem t_X9_longer_0 : dropTo 0 k_X9_longer = s_X9_longer_0 := rfl
set_option maxRecDepth 100000 in
theorem t_X9_longer_22 : dropTo 22 k_X9_longer = s_X9_longer_22 := rfl
set_option maxRecDepth 100000 in
theorem t_X9_longer_24 : dropTo 24 k_X9_longer = s_X9_longer_24 := rfl
set_option maxRecDepth 100000 in
theorem t_X9_longer_32 : dropTo 32 k_X9_longer = s_X9_longer_32 := rfl
set_option maxRecDepth 100000 in
theorem t_X9_longer_94 : dropTo 94 k_X9_longer = s_X9_longer_94 := rfl
set_option maxRecDepth 100000 in
theorem t_X9_longer_101 : dropTo 101 k_X9_longer = s_X9_longer_101 := rfl
set_option maxRecDepth 100000 in
theorem t_X9_longer_107 : dropTo 107 k_X9_longer = s_X9_longer_107 := rfl
theorem ok_X9_longer : mOkF m_X9_longer k_X9_longer = true := by decide +kernel
theorem cm_X9_longer : mChkM m_X9_longer = true := by decide +kernel
def s_X9_lose_55 : List mE := (55, .aload_n 0, 1, 0, 0, 0, .inl 0, []) ::
  (56, .getfield 48, 3, 8, 25, 3, .inr (.inr (16, 6, 13)), [1221]) ::
  (59, .iload_n 3, 1, 3, 0, 0, .inl 0, []) ::
  (60, .iconst 0, 1, 0, 0, 0, .inl (nI 0), []) ::
  (61, .iastore, 1, 0, 0, 0, .inl 0, []) ::
  (62, .aload_n 0, 1, 0, 0, 0, .inl 0, []) ::
  (63, .getfield 51, 3, 8, 26, 3, .inr (.inr (16, 6, 14)), [1222]) ::
  (66, .iload_n 3, 1, 3, 0, 0, .inl 0, []) ::
  (67, .iconst 0, 1, 0, 0, 0, .inl (nI 0), []) ::
  (68, .iastore, 1, 0, 0, 0, .inl 0, []) ::
  (69, .return_, 1, 0, 0, 0, .inl 0, []) :: []
def s_X9_lose_0 : List mE := (0, .aload_n 0, 1, 0, 0, 0, .inl 0, []) ::
  (1, .getfield 45, 3, 8, 24, 3, .inr (.inr (16, 6, 12)), [1220]) ::
  (4, .iload_n 3, 1, 3, 0, 0, .inl 0, []) ::
  (5, .iaload, 1, 0, 0, 0, .inl 0, []) ::
  (6, .aload_n 0, 1, 0, 0, 0, .inl 0, []) ::
  (7, .getfield 39, 3, 8, 22, 3, .inr (.inr (16, 278, 10)), [1218]) ::
  (10, .bipush 8, 2, 0, 0, 0, .inl (nI 8), []) ::
  (12, .iload_n 3, 1, 3, 0, 0, .inl 0, []) ::
  (13, .iadd, 1, 0, 0, 0, .inl 0, []) ::
  (14, .iaload, 1, 0, 0, 0, .inl 0, []) ::
  (15, .invokestatic 247, 3, 199, 2, 1, .inl 0, [1528]) ::
  (18, .istore 4, 2, 4, 0, 0, .inl 0, []) ::
  (20, .aload_n 0, 1, 0, 0, 0, .inl 0, []) ::
  (21, .getfield 45, 3, 8, 24, 3, .inr (.inr (16, 6, 12)), [1220]) ::
  (24, .iload_n 3, 1, 3, 0, 0, .inl 0, []) ::
  (25, .dup2, 1, 0, 0, 0, .inl 0, []) ::
  (26, .iaload, 1, 0, 0, 0, .inl 0, []) ::
  (27, .iload 4, 2, 4, 0, 0, .inl 0, []) ::
  (29, .isub, 1, 0, 0, 0, .inl 0, []) ::
  (30, .iastore, 1, 0, 0, 0, .inl 0, []) ::
  (31, .aload_n 1, 1, 1, 0, 0, .inl 0, []) ::
  (32, .iload_n 2, 1, 2, 0, 0, .inl 0, []) ::
  (33, .sipush 284, 3, 0, 0, 0, .inl (nI 284), []) ::
  (36, .iadd, 1, 0, 0, 0, .inl 0, []) ::
  (37, .iload_n 3, 1, 3, 0, 0, .inl 0, []) ::
  (38, .iadd, 1, 0, 0, 0, .inl 0, []) ::
  (39, .dup2, 1, 0, 0, 0, .inl 0, []) ::
  (40, .iaload, 1, 0, 0, 0, .inl 0, []) ::
  (41, .iload 4, 2, 4, 0, 0, .inl 0, []) ::
  (43, .iadd, 1, 0, 0, 0, .inl 0, []) ::
  (44, .iastore, 1, 0, 0, 0, .inl 0, []) ::
  (45, .aload_n 0, 1, 0, 0, 0, .inl 0, []) ::
  (46, .getfield 45, 3, 8, 24, 3, .inr (.inr (16, 6, 12)), [1220]) ::
  (49, .iload_n 3, 1, 3, 0, 0, .inl 0, []) ::
  (50, .iaload, 1, 0, 0, 0, .inl 0, []) ::
  (51, .ifCond .le 4, 3, 55, 0, 0, .inl 0, []) ::
  (54, .return_, 1, 0, 0, 0, .inl 0, []) :: s_X9_lose_55
def k_X9_lose : List mE := s_X9_lose_0
set_option maxRecDepth 100000 in
theorem t_X9_lose_0 : dropTo 0 k_X9_lose = s_X9_lose_0 := rfl
set_option maxRecDepth 100000 in
theorem t_X9_lose_55 : dropTo 55 k_X9_lose = s_X9_lose_55 := rfl
theorem ok_X9_lose : mOkF m_X9_lose k_X9_lose = true := by decide +kernel
theorem cm_X9_lose : mChkM m_X9_lose = true := by decide +kernel
def s_X9_loss_26 : List mE := (26, .ireturn, 1, 0, 0, 0, .inl 0, []) :: []
def s_X9_loss_25 : List mE := (25, .iconst (-1), 1, 0, 0, 0, .inl (-1), []) :: s_X9_loss_26
def s_X9_loss_0 : List mE := (0, .aload_n 0, 1, 0, 0, 0, .inl 0, []) ::
  (1, .iconst 0, 1, 0, 0, 0, .inl (nI 0), []) ::
  (2, .putfield 76, 3, 8, 0, 0, .inl 0, [1196]) ::
  (5, .aload_n 0, 1, 0, 0, 0, .inl 0, []) ::
  (6, .iload_n 1, 1, 1, 0, 0, .inl 0, []) ::
  (7, .invokevirtual 234, 3, 175, 2, 1, .inl 0, [1492, 8]) ::
  (10, .ifCond .eq 15, 3, 25, 0, 0, .inl 0, []) ::
  (13, .aload_n 0, 1, 0, 0, 0, .inl 0, []) ::
  (14, .getfield 13, 3, 8, 14, 3, .inr (.inr (16, 925, 2)), [1210]) ::
  (17, .bipush 8, 2, 0, 0, 0, .inl (nI 8), []) ::
  (19, .iload_n 1, 1, 1, 0, 0, .inl 0, []) ::
  (20, .iadd, 1, 0, 0, 0, .inl 0, []) ::
  (21, .iaload, 1, 0, 0, 0, .inl 0, []) ::
  (22, .goto 4, 3, 26, 0, 0, .inl 0, []) :: s_X9_loss_25
def k_X9_loss : List mE := s_X9_loss_0
set_option maxRecDepth 100000 in
theorem t_X9_loss_0 : dropTo 0 k_X9_loss = s_X9_loss_0 := rfl
set_option maxRecDepth 100000 in
theorem t_X9_loss_25 : dropTo 25 k_X9_loss = s_X9_loss_25 := rfl
set_option maxRecDepth 100000 in
theorem t_X9_loss_26 : dropTo 26 k_X9_loss = s_X9_loss_26 := rfl
theorem ok_X9_loss : mOkF m_X9_loss k_X9_loss = true := by decide +kernel
theorem cm_X9_loss : mChkM m_X9_loss = true := by decide +kernel
def s_X9_made_27 : List mE := (27, .ireturn, 1, 0, 0, 0, .inl 0, []) :: []
def s_X9_made_26 : List mE := (26, .iconst (-1), 1, 0, 0, 0, .inl (-1), []) :: s_X9_made_27
def s_X9_made_0 : List mE := (0, .aload_n 0, 1, 0, 0, 0, .inl 0, []) ::
  (1, .iconst 0, 1, 0, 0, 0, .inl (nI 0), []) ::
  (2, .putfield 76, 3, 8, 0, 0, .inl 0, [1196]) ::
  (5, .aload_n 0, 1, 0, 0, 0, .inl 0, []) ::
  (6, .invokevirtual 288, 3, 180, 1, 1, .inl 0, [1516, 8]) ::
  (9, .ifCond .eq 17, 3, 26, 0, 0, .inl 0, []) ::
  (12, .aload_n 0, 1, 0, 0, 0, .inl 0, []) ::
  (13, .aload_n 0, 1, 0, 0, 0, .inl 0, []) ::
  (14, .getfield 13, 3, 8, 14, 3, .inr (.inr (16, 925, 2)), [1210]) ::
  (17, .sipush 621, 3, 0, 0, 0, .inl (nI 621), []) ::
  (20, .invokevirtual 281, 3, 205, 3, 1, .inl 0, [1586, 8]) ::
  (23, .goto 4, 3, 27, 0, 0, .inl 0, []) :: s_X9_made_26
def k_X9_made : List mE := s_X9_made_0
set_option maxRecDepth 100000 in
theorem t_X9_made_0 : dropTo 0 k_X9_made = s_X9_made_0 := rfl
set_option maxRecDepth 100000 in
theorem t_X9_made_26 : dropTo 26 k_X9_made = s_X9_made_26 := rfl
set_option maxRecDepth 100000 in
theorem t_X9_made_27 : dropTo 27 k_X9_made = s_X9_made_27 := rfl
theorem ok_X9_made : mOkF m_X9_made k_X9_made = true := by decide +kernel
theorem cm_X9_made : mChkM m_X9_made = true := by decide +kernel
def s_X9_madeBy_0 : List mE := (0, .aload_n 0, 1, 0, 0, 0, .inl 0, []) ::
  (1, .invokevirtual 285, 3, 196, 1, 0, .inl 0, [1504, 8]) ::
  (4, .aload_n 0, 1, 0, 0, 0, .inl 0, []) ::
  (5, .iconst 1, 1, 0, 0, 0, .inl (nI 1), []) ::
  (6, .aload_n 0, 1, 0, 0, 0, .inl 0, []) ::
  (7, .invokevirtual 219, 3, 253, 1, 1, .inl 0, [1472, 8]) ::
  (10, .ishl, 1, 0, 0, 0, .inl 0, []) ::
  (11, .iconst 1, 1, 0, 0, 0, .inl (nI 1), []) ::
  (12, .isub, 1, 0, 0, 0, .inl 0, []) ::
  (13, .iload_n 1, 1, 1, 0, 0, .inl 0, []) ::
  (14, .iconst (-1), 1, 0, 0, 0, .inl (-1), []) ::
  (15, .ixor, 1, 0, 0, 0, .inl 0, []) ::
  (16, .iand, 1, 0, 0, 0, .inl 0, []) ::
  (17, .putfield 237, 3, 8, 27, 0, .inl 0, [1223]) ::
  (20, .aload_n 0, 1, 0, 0, 0, .inl 0, []) ::
  (21, .iload_n 2, 1, 2, 0, 0, .inl 0, []) ::
  (22, .invokevirtual 297, 3, 238, 2, 1, .inl 0, [1621, 8]) ::
  (25, .ireturn, 1, 0, 0, 0, .inl 0, []) :: []
def k_X9_madeBy : List mE := s_X9_madeBy_0
set_option maxRecDepth 100000 in
theorem t_X9_madeBy_0 : dropTo 0 k_X9_madeBy = s_X9_madeBy_0 := rfl
theorem ok_X9_madeBy : mOkF m_X9_madeBy k_X9_madeBy = true := by decide +kernel
theorem cm_X9_madeBy : mChkM m_X9_madeBy = true := by decide +kernel
def s_X9_madeIn_31 : List mE := (31, .iload_n 3, 1, 3, 0, 0, .inl 0, []) ::
  (32, .ireturn, 1, 0, 0, 0, .inl 0, []) :: []
def s_X9_madeIn_5 : List mE := (5, .iload 4, 2, 4, 0, 0, .inl 0, []) ::
  (7, .bipush 8, 2, 0, 0, 0, .inl (nI 8), []) ::
  (9, .if_icmp .ge 22, 3, 31, 0, 0, .inl 0, []) ::
  (12, .iload_n 3, 1, 3, 0, 0, .inl 0, []) ::
  (13, .aload_n 1, 1, 1, 0, 0, .inl 0, []) ::
  (14, .iload_n 2, 1, 2, 0, 0, .inl 0, []) ::
  (15, .sipush 228, 3, 0, 0, 0, .inl (nI 228), []) ::
  (18, .iadd, 1, 0, 0, 0, .inl 0, []) ::
  (19, .iload 4, 2, 4, 0, 0, .inl 0, []) ::
  (21, .iadd, 1, 0, 0, 0, .inl 0, []) ::
  (22, .iaload, 1, 0, 0, 0, .inl 0, []) ::
  (23, .iadd, 1, 0, 0, 0, .inl 0, []) ::
  (24, .istore_n 3, 1, 3, 0, 0, .inl 0, []) ::
  (25, .iinc 4 1, 3, 4, 0, 0, .inl (nI 1), []) ::
  (28, .goto (-23), 3, 5, 0, 0, .inl 0, []) :: s_X9_madeIn_31
def s_X9_madeIn_0 : List mE := (0, .iconst 0, 1, 0, 0, 0, .inl (nI 0), []) ::
  (1, .istore_n 3, 1, 3, 0, 0, .inl 0, []) ::
  (2, .iconst 0, 1, 0, 0, 0, .inl (nI 0), []) ::
  (3, .istore 4, 2, 4, 0, 0, .inl 0, []) :: s_X9_madeIn_5
def k_X9_madeIn : List mE := s_X9_madeIn_0
set_option maxRecDepth 100000 in
theorem t_X9_madeIn_0 : dropTo 0 k_X9_madeIn = s_X9_madeIn_0 := rfl
set_option maxRecDepth 100000 in
theorem t_X9_madeIn_5 : dropTo 5 k_X9_madeIn = s_X9_madeIn_5 := rfl
set_option maxRecDepth 100000 in
theorem t_X9_madeIn_31 : dropTo 31 k_X9_madeIn = s_X9_madeIn_31 := rfl
theorem ok_X9_madeIn : mOkF m_X9_madeIn k_X9_madeIn = true := by decide +kernel
theorem cm_X9_madeIn : mChkM m_X9_madeIn = true := by decide +kernel
def s_X9_mayGo_136 : List mE := (136, .iload 5, 2, 5, 0, 0, .inl 0, []) ::
  (138, .ireturn, 1, 1, 0, 0, .inl 0, []) :: []
def s_X9_mayGo_130 : List mE := (130, .iinc 6 1, 3, 6, 0, 0, .inl (nI 1), []) ::
  (133, .goto (-63), 3, 70, 0, 0, .inl 0, []) :: s_X9_mayGo_136
def s_X9_mayGo_113 : List mE := (113, .aload_n 1, 1, 1, 0, 0, .inl 0, []) ::
  (114, .iload_n 2, 1, 2, 0, 0, .inl 0, []) ::
  (115, .sipush 146, 3, 0, 0, 0, .inl (nI 146), []) ::
  (118, .iadd, 1, 0, 0, 0, .inl 0, []) ::
  (119, .iload 7, 2, 7, 0, 0, .inl 0, []) ::
  (121, .iadd, 1, 0, 0, 0, .inl 0, []) ::
  (122, .dup2, 1, 0, 0, 0, .inl 0, []) ::
  (123, .iaload, 1, 0, 0, 0, .inl 0, []) ::
  (124, .iconst 1, 1, 0, 0, 0, .inl (nI 1), []) ::
  (125, .iadd, 1, 0, 0, 0, .inl 0, []) ::
  (126, .iastore, 1, 0, 0, 0, .inl 0, []) ::
  (127, .iconst 0, 1, 0, 0, 0, .inl (nI 0), []) ::
  (128, .istore 5, 2, 5, 0, 0, .inl 0, []) :: s_X9_mayGo_130
def s_X9_mayGo_70 : List mE := (70, .iload 6, 2, 6, 0, 0, .inl 0, []) ::
  (72, .aload_n 0, 1, 0, 0, 0, .inl 0, []) ::
  (73, .getfield 39, 3, 8, 22, 3, .inr (.inr (16, 278, 10)), [1218]) ::
  (76, .iconst 0, 1, 0, 0, 0, .inl (nI 0), []) ::
  (77, .iaload, 1, 0, 0, 0, .inl 0, []) ::
  (78, .if_icmp .ge 58, 3, 136, 0, 0, .inl 0, []) ::
  (81, .iload_n 3, 1, 3, 0, 0, .inl 0, []) ::
  (82, .iload 6, 2, 6, 0, 0, .inl 0, []) ::
  (84, .invokestatic 182, 3, 148, 2, 1, .inl 0, [1437]) ::
  (87, .istore 7, 2, 7, 0, 0, .inl 0, []) ::
  (89, .aload_n 1, 1, 1, 0, 0, .inl 0, []) ::
  (90, .iload_n 2, 1, 2, 0, 0, .inl 0, []) ::
  (91, .iconst 2, 1, 0, 0, 0, .inl (nI 2), []) ::
  (92, .iadd, 1, 0, 0, 0, .inl 0, []) ::
  (93, .iload 7, 2, 7, 0, 0, .inl 0, []) ::
  (95, .iadd, 1, 0, 0, 0, .inl 0, []) ::
  (96, .iaload, 1, 0, 0, 0, .inl 0, []) ::
  (97, .aload_n 0, 1, 0, 0, 0, .inl 0, []) ::
  (98, .getfield 39, 3, 8, 22, 3, .inr (.inr (16, 278, 10)), [1218]) ::
  (101, .bipush 38, 2, 0, 0, 0, .inl (nI 38), []) ::
  (103, .iload 7, 2, 7, 0, 0, .inl 0, []) ::
  (105, .iadd, 1, 0, 0, 0, .inl 0, []) ::
  (106, .iaload, 1, 0, 0, 0, .inl 0, []) ::
  (107, .if_icmp .lt 6, 3, 113, 0, 0, .inl 0, []) ::
  (110, .goto 20, 3, 130, 0, 0, .inl 0, []) :: s_X9_mayGo_113
def s_X9_mayGo_64 : List mE := (64, .iconst 1, 1, 0, 0, 0, .inl (nI 1), []) ::
  (65, .istore 5, 2, 5, 0, 0, .inl 0, []) ::
  (67, .iconst 0, 1, 0, 0, 0, .inl (nI 0), []) ::
  (68, .istore 6, 2, 6, 0, 0, .inl 0, []) :: s_X9_mayGo_70
def s_X9_mayGo_62 : List mE := (62, .iconst 0, 1, 0, 0, 0, .inl (nI 0), []) ::
  (63, .ireturn, 1, 1, 0, 0, .inl 0, []) :: s_X9_mayGo_64
def s_X9_mayGo_0 : List mE := (0, .iload 4, 2, 4, 0, 0, .inl 0, []) ::
  (2, .bipush 12, 2, 0, 0, 0, .inl (nI 12), []) ::
  (4, .irem, 1, 0, 0, 0, .inl 0, []) ::
  (5, .aload_n 0, 1, 0, 0, 0, .inl 0, []) ::
  (6, .getfield 39, 3, 8, 22, 3, .inr (.inr (16, 278, 10)), [1218]) ::
  (9, .bipush 14, 2, 0, 0, 0, .inl (nI 14), []) ::
  (11, .iload_n 3, 1, 3, 0, 0, .inl 0, []) ::
  (12, .iadd, 1, 0, 0, 0, .inl 0, []) ::
  (13, .iaload, 1, 0, 0, 0, .inl 0, []) ::
  (14, .aload_n 0, 1, 0, 0, 0, .inl 0, []) ::
  (15, .getfield 39, 3, 8, 22, 3, .inr (.inr (16, 278, 10)), [1218]) ::
  (18, .bipush 22, 2, 0, 0, 0, .inl (nI 22), []) ::
  (20, .iload_n 3, 1, 3, 0, 0, .inl 0, []) ::
  (21, .iadd, 1, 0, 0, 0, .inl 0, []) ::
  (22, .iaload, 1, 0, 0, 0, .inl 0, []) ::
  (23, .invokestatic 143, 3, 177, 3, 1, .inl 0, [1414]) ::
  (26, .ifCond .eq 36, 3, 62, 0, 0, .inl 0, []) ::
  (29, .aload_n 0, 1, 0, 0, 0, .inl 0, []) ::
  (30, .getfield 237, 3, 8, 27, 0, .inl 0, [1223]) ::
  (33, .iload_n 3, 1, 3, 0, 0, .inl 0, []) ::
  (34, .invokestatic 250, 3, 169, 2, 1, .inl 0, [1543]) ::
  (37, .ifCond .ne 25, 3, 62, 0, 0, .inl 0, []) ::
  (40, .iload 4, 2, 4, 0, 0, .inl 0, []) ::
  (42, .bipush 12, 2, 0, 0, 0, .inl (nI 12), []) ::
  (44, .idiv, 1, 0, 0, 0, .inl 0, []) ::
  (45, .aload_n 0, 1, 0, 0, 0, .inl 0, []) ::
  (46, .getfield 240, 3, 8, 28, 0, .inl 0, [1224]) ::
  (49, .if_icmp .eq 13, 3, 62, 0, 0, .inl 0, []) ::
  (52, .aload_n 0, 1, 0, 0, 0, .inl 0, []) ::
  (53, .iload_n 3, 1, 3, 0, 0, .inl 0, []) ::
  (54, .iload 4, 2, 4, 0, 0, .inl 0, []) ::
  (56, .invokevirtual 253, 3, 185, 3, 1, .inl 0, [1546, 8]) ::
  (59, .ifCond .eq 5, 3, 64, 0, 0, .inl 0, []) :: s_X9_mayGo_62
def k_X9_mayGo : List mE := s_X9_mayGo_0
set_option maxRecDepth 100000 in
theorem t_X9_mayGo_0 : dropTo 0 k_X9_mayGo = s_X9_mayGo_0 := rfl
set_option maxRecDepth 100000 in
theorem t_X9_mayGo_62 : dropTo 62 k_X9_mayGo = s_X9_mayGo_62 := rfl
set_option maxRecDepth 100000 in
theorem t_X9_mayGo_64 : dropTo 64 k_X9_mayGo = s_X9_mayGo_64 := rfl
set_option maxRecDepth 100000 in
theorem t_X9_mayGo_70 : dropTo 70 k_X9_mayGo = s_X9_mayGo_70 := rfl
set_option maxRecDepth 100000 in
theorem t_X9_mayGo_113 : dropTo 113 k_X9_mayGo = s_X9_mayGo_113 := rfl
set_option maxRecDepth 100000 in
theorem t_X9_mayGo_130 : dropTo 130 k_X9_mayGo = s_X9_mayGo_130 := rfl
set_option maxRecDepth 100000 in
theorem t_X9_mayGo_136 : dropTo 136 k_X9_mayGo = s_X9_mayGo_136 := rfl
theorem ok_X9_mayGo : mOkF m_X9_mayGo k_X9_mayGo = true := by decide +kernel
theorem cm_X9_mayGo : mChkM m_X9_mayGo = true := by decide +kernel
def s_X9_needed_49 : List mE := (49, .ireturn, 1, 0, 0, 0, .inl 0, []) :: []
def s_X9_needed_48 : List mE := (48, .iconst (-1), 1, 0, 0, 0, .inl (-1), []) :: s_X9_needed_49
def s_X9_needed_0 : List mE := (0, .aload_n 0, 1, 0, 0, 0, .inl 0, []) ::
  (1, .iconst 0, 1, 0, 0, 0, .inl (nI 0), []) ::
  (2, .putfield 76, 3, 8, 0, 0, .inl 0, [1196]) ::
  (5, .aload_n 0, 1, 0, 0, 0, .inl 0, []) ::
  (6, .iload_n 1, 1, 1, 0, 0, .inl 0, []) ::
  (7, .invokevirtual 225, 3, 190, 2, 1, .inl 0, [1468, 8]) ::
  (10, .ifCond .eq 38, 3, 48, 0, 0, .inl 0, []) ::
  (13, .iload_n 2, 1, 2, 0, 0, .inl 0, []) ::
  (14, .invokestatic 303, 3, 176, 1, 1, .inl 0, [1614]) ::
  (17, .ifCond .eq 31, 3, 48, 0, 0, .inl 0, []) ::
  (20, .aload_n 0, 1, 0, 0, 0, .inl 0, []) ::
  (21, .aload_n 0, 1, 0, 0, 0, .inl 0, []) ::
  (22, .invokevirtual 309, 3, 137, 1, 1, .inl 0, [1629, 8]) ::
  (25, .iload_n 2, 1, 2, 0, 0, .inl 0, []) ::
  (26, .invokevirtual 306, 3, 204, 3, 1, .inl 0, [1617, 8]) ::
  (29, .aload_n 0, 1, 0, 0, 0, .inl 0, []) ::
  (30, .aload_n 0, 1, 0, 0, 0, .inl 0, []) ::
  (31, .invokevirtual 309, 3, 137, 1, 1, .inl 0, [1629, 8]) ::
  (34, .iconst 1, 1, 0, 0, 0, .inl (nI 1), []) ::
  (35, .iload_n 1, 1, 1, 0, 0, .inl 0, []) ::
  (36, .ishl, 1, 0, 0, 0, .inl 0, []) ::
  (37, .iconst (-1), 1, 0, 0, 0, .inl (-1), []) ::
  (38, .ixor, 1, 0, 0, 0, .inl 0, []) ::
  (39, .iand, 1, 0, 0, 0, .inl 0, []) ::
  (40, .iload_n 2, 1, 2, 0, 0, .inl 0, []) ::
  (41, .invokevirtual 306, 3, 204, 3, 1, .inl 0, [1617, 8]) ::
  (44, .isub, 1, 0, 0, 0, .inl 0, []) ::
  (45, .goto 4, 3, 49, 0, 0, .inl 0, []) :: s_X9_needed_48
def k_X9_needed : List mE := s_X9_needed_0
set_option maxRecDepth 100000 in
theorem t_X9_needed_0 : dropTo 0 k_X9_needed = s_X9_needed_0 := rfl
set_option maxRecDepth 100000 in
theorem t_X9_needed_48 : dropTo 48 k_X9_needed = s_X9_needed_48 := rfl
set_option maxRecDepth 100000 in
theorem t_X9_needed_49 : dropTo 49 k_X9_needed = s_X9_needed_49 := rfl
theorem ok_X9_needed : mOkF m_X9_needed k_X9_needed = true := by decide +kernel
theorem cm_X9_needed : mChkM m_X9_needed = true := by decide +kernel
def s_X9_on_72 : List mE := (72, .iload_n 2, 1, 2, 0, 0, .inl 0, []) ::
  (73, .ireturn, 1, 0, 0, 0, .inl 0, []) :: []
def s_X9_on_36 : List mE := (36, .iload_n 2, 1, 2, 0, 0, .inl 0, []) ::
  (37, .iload_n 1, 1, 1, 0, 0, .inl 0, []) ::
  (38, .if_icmp .ge 34, 3, 72, 0, 0, .inl 0, []) ::
  (41, .aload_n 0, 1, 0, 0, 0, .inl 0, []) ::
  (42, .getfield 13, 3, 8, 14, 3, .inr (.inr (16, 925, 2)), [1210]) ::
  (45, .sipush 622, 3, 0, 0, 0, .inl (nI 622), []) ::
  (48, .iaload, 1, 0, 0, 0, .inl 0, []) ::
  (49, .sipush 200, 3, 0, 0, 0, .inl (nI 200), []) ::
  (52, .if_icmp .ge 20, 3, 72, 0, 0, .inl 0, []) ::
  (55, .aload_n 0, 1, 0, 0, 0, .inl 0, []) ::
  (56, .aload_n 0, 1, 0, 0, 0, .inl 0, []) ::
  (57, .getfield 13, 3, 8, 14, 3, .inr (.inr (16, 925, 2)), [1210]) ::
  (60, .sipush 621, 3, 0, 0, 0, .inl (nI 621), []) ::
  (63, .invokevirtual 278, 3, 171, 3, 0, .inl 0, [1520, 8]) ::
  (66, .iinc 2 1, 3, 2, 0, 0, .inl (nI 1), []) ::
  (69, .goto (-33), 3, 36, 0, 0, .inl 0, []) :: s_X9_on_72
def s_X9_on_25 : List mE := (25, .aload_n 0, 1, 0, 0, 0, .inl 0, []) ::
  (26, .invokevirtual 285, 3, 196, 1, 0, .inl 0, [1504, 8]) ::
  (29, .aload_n 0, 1, 0, 0, 0, .inl 0, []) ::
  (30, .iconst 1, 1, 0, 0, 0, .inl (nI 1), []) ::
  (31, .putfield 243, 3, 8, 29, 2, .inl 0, [1225]) ::
  (34, .iconst 0, 1, 0, 0, 0, .inl (nI 0), []) ::
  (35, .istore_n 2, 1, 2, 0, 0, .inl 0, []) :: s_X9_on_36
def s_X9_on_23 : List mE := (23, .iconst (-1), 1, 0, 0, 0, .inl (-1), []) ::
  (24, .ireturn, 1, 0, 0, 0, .inl 0, []) :: s_X9_on_25
def s_X9_on_0 : List mE := (0, .aload_n 0, 1, 0, 0, 0, .inl 0, []) ::
  (1, .iconst 0, 1, 0, 0, 0, .inl (nI 0), []) ::
  (2, .putfield 76, 3, 8, 0, 0, .inl 0, [1196]) ::
  (5, .aload_n 0, 1, 0, 0, 0, .inl 0, []) ::
  (6, .invokevirtual 288, 3, 180, 1, 1, .inl 0, [1516, 8]) ::
  (9, .ifCond .eq 14, 3, 23, 0, 0, .inl 0, []) ::
  (12, .iload_n 1, 1, 1, 0, 0, .inl 0, []) ::
  (13, .iconst 0, 1, 0, 0, 0, .inl (nI 0), []) ::
  (14, .sipush 200, 3, 0, 0, 0, .inl (nI 200), []) ::
  (17, .invokestatic 143, 3, 177, 3, 1, .inl 0, [1414]) ::
  (20, .ifCond .ne 5, 3, 25, 0, 0, .inl 0, []) :: s_X9_on_23
def k_X9_on : List mE := s_X9_on_0
set_option maxRecDepth 100000 in
theorem t_X9_on_0 : dropTo 0 k_X9_on = s_X9_on_0 := rfl
set_option maxRecDepth 100000 in
theorem t_X9_on_23 : dropTo 23 k_X9_on = s_X9_on_23 := rfl
set_option maxRecDepth 100000 in
theorem t_X9_on_25 : dropTo 25 k_X9_on = s_X9_on_25 := rfl
set_option maxRecDepth 100000 in
theorem t_X9_on_36 : dropTo 36 k_X9_on = s_X9_on_36 := rfl
set_option maxRecDepth 100000 in
theorem t_X9_on_72 : dropTo 72 k_X9_on = s_X9_on_72 := rfl
theorem ok_X9_on : mOkF m_X9_on k_X9_on = true := by decide +kernel
theorem cm_X9_on : mChkM m_X9_on = true := by decide +kernel
def s_X9_order_110 : List mE := (110, .iconst (-1), 1, 0, 0, 0, .inl (-1), []) ::
  (111, .ireturn, 1, 0, 0, 0, .inl 0, []) :: []
def s_X9_order_104 : List mE := (104, .iinc 4 1, 3, 4, 0, 0, .inl (nI 1), []) ::
  (107, .goto (-82), 3, 25, 0, 0, .inl 0, []) :: s_X9_order_110
def s_X9_order_98 : List mE := (98, .iinc 5 1, 3, 5, 0, 0, .inl (nI 1), []) ::
  (101, .goto (-56), 3, 45, 0, 0, .inl 0, []) :: s_X9_order_104
def s_X9_order_95 : List mE := (95, .iinc 2 1, 3, 2, 0, 0, .inl (nI 1), []) :: s_X9_order_98
def s_X9_order_80 : List mE := (80, .iload_n 3, 1, 3, 0, 0, .inl 0, []) ::
  (81, .iconst 1, 1, 0, 0, 0, .inl (nI 1), []) ::
  (82, .iload 5, 2, 5, 0, 0, .inl 0, []) ::
  (84, .ishl, 1, 0, 0, 0, .inl 0, []) ::
  (85, .ior, 1, 0, 0, 0, .inl 0, []) ::
  (86, .istore_n 3, 1, 3, 0, 0, .inl 0, []) ::
  (87, .iload_n 2, 1, 2, 0, 0, .inl 0, []) ::
  (88, .iload_n 1, 1, 1, 0, 0, .inl 0, []) ::
  (89, .if_icmp .ne 6, 3, 95, 0, 0, .inl 0, []) ::
  (92, .iload 5, 2, 5, 0, 0, .inl 0, []) ::
  (94, .ireturn, 1, 0, 0, 0, .inl 0, []) :: s_X9_order_95
def s_X9_order_45 : List mE := (45, .iload 5, 2, 5, 0, 0, .inl 0, []) ::
  (47, .aload_n 0, 1, 0, 0, 0, .inl 0, []) ::
  (48, .invokevirtual 219, 3, 253, 1, 1, .inl 0, [1472, 8]) ::
  (51, .if_icmp .ge 53, 3, 104, 0, 0, .inl 0, []) ::
  (54, .iload_n 3, 1, 3, 0, 0, .inl 0, []) ::
  (55, .iload 5, 2, 5, 0, 0, .inl 0, []) ::
  (57, .invokestatic 250, 3, 169, 2, 1, .inl 0, [1543]) ::
  (60, .ifCond .ne 38, 3, 98, 0, 0, .inl 0, []) ::
  (63, .aload_n 0, 1, 0, 0, 0, .inl 0, []) ::
  (64, .getfield 42, 3, 8, 23, 3, .inr (.inr (16, 296, 11)), [1219]) ::
  (67, .sipush 212, 3, 0, 0, 0, .inl (nI 212), []) ::
  (70, .iload 5, 2, 5, 0, 0, .inl 0, []) ::
  (72, .iadd, 1, 0, 0, 0, .inl 0, []) ::
  (73, .iaload, 1, 0, 0, 0, .inl 0, []) ::
  (74, .ifCond .ne 6, 3, 80, 0, 0, .inl 0, []) ::
  (77, .goto 21, 3, 98, 0, 0, .inl 0, []) :: s_X9_order_80
def s_X9_order_25 : List mE := (25, .iload 4, 2, 4, 0, 0, .inl 0, []) ::
  (27, .sipush 200, 3, 0, 0, 0, .inl (nI 200), []) ::
  (30, .if_icmp .ge 80, 3, 110, 0, 0, .inl 0, []) ::
  (33, .aload_n 0, 1, 0, 0, 0, .inl 0, []) ::
  (34, .aload_n 0, 1, 0, 0, 0, .inl 0, []) ::
  (35, .getfield 42, 3, 8, 23, 3, .inr (.inr (16, 296, 11)), [1219]) ::
  (38, .iconst 0, 1, 0, 0, 0, .inl (nI 0), []) ::
  (39, .invokevirtual 278, 3, 171, 3, 0, .inl 0, [1520, 8]) ::
  (42, .iconst 0, 1, 0, 0, 0, .inl (nI 0), []) ::
  (43, .istore 5, 2, 5, 0, 0, .inl 0, []) :: s_X9_order_45
def s_X9_order_0 : List mE := (0, .aload_n 0, 1, 0, 0, 0, .inl 0, []) ::
  (1, .iconst 0, 1, 0, 0, 0, .inl (nI 0), []) ::
  (2, .putfield 76, 3, 8, 0, 0, .inl 0, [1196]) ::
  (5, .aload_n 0, 1, 0, 0, 0, .inl 0, []) ::
  (6, .invokevirtual 285, 3, 196, 1, 0, .inl 0, [1504, 8]) ::
  (9, .aload_n 0, 1, 0, 0, 0, .inl 0, []) ::
  (10, .aload_n 0, 1, 0, 0, 0, .inl 0, []) ::
  (11, .getfield 42, 3, 8, 23, 3, .inr (.inr (16, 296, 11)), [1219]) ::
  (14, .iconst 0, 1, 0, 0, 0, .inl (nI 0), []) ::
  (15, .invokevirtual 274, 3, 242, 3, 0, .inl 0, [1508, 8]) ::
  (18, .iconst 0, 1, 0, 0, 0, .inl (nI 0), []) ::
  (19, .istore_n 2, 1, 2, 0, 0, .inl 0, []) ::
  (20, .iconst 0, 1, 0, 0, 0, .inl (nI 0), []) ::
  (21, .istore_n 3, 1, 3, 0, 0, .inl 0, []) ::
  (22, .iconst 0, 1, 0, 0, 0, .inl (nI 0), []) ::
  (23, .istore 4, 2, 4, 0, 0, .inl 0, []) :: s_X9_order_25
def k_X9_order : List mE := s_X9_order_0
set_option maxRecDepth 100000 in
theorem t_X9_order_0 : dropTo 0 k_X9_order = s_X9_order_0 := rfl
set_option maxRecDepth 100000 in
theorem t_X9_order_25 : dropTo 25 k_X9_order = s_X9_order_25 := rfl
set_option maxRecDepth 100000 in
theorem t_X9_order_45 : dropTo 45 k_X9_order = s_X9_order_45 := rfl
set_option maxRecDepth 100000 in
theorem t_X9_order_80 : dropTo 80 k_X9_order = s_X9_order_80 := rfl
set_option maxRecDepth 100000 in
theorem t_X9_order_95 : dropTo 95 k_X9_order = s_X9_order_95 := rfl
set_option maxRecDepth 100000 in
theorem t_X9_order_98 : dropTo 98 k_X9_order = s_X9_order_98 := rfl
set_option maxRecDepth 100000 in
theorem t_X9_order_104 : dropTo 104 k_X9_order = s_X9_order_104 := rfl
set_option maxRecDepth 100000 in
theorem t_X9_order_110 : dropTo 110 k_X9_order = s_X9_order_110 := rfl
theorem ok_X9_order : mOkF m_X9_order k_X9_order = true := by decide +kernel
theorem cm_X9_order : mChkM m_X9_order = true := by decide +kernel
def s_X9_orders_20 : List mE := (20, .lload_n 1, 1, 1, 0, 0, .inl 0, []) ::
  (21, .lreturn, 1, 0, 0, 0, .inl 0, []) :: []
def s_X9_orders_4 : List mE := (4, .iload_n 3, 1, 3, 0, 0, .inl 0, []) ::
  (5, .iload_n 0, 1, 0, 0, 0, .inl 0, []) ::
  (6, .if_icmp .gt 14, 3, 20, 0, 0, .inl 0, []) ::
  (9, .lload_n 1, 1, 1, 0, 0, .inl 0, []) ::
  (10, .iload_n 3, 1, 3, 0, 0, .inl 0, []) ::
  (11, .i2l, 1, 0, 0, 0, .inl 0, []) ::
  (12, .lmul, 1, 0, 0, 0, .inl 0, []) ::
  (13, .lstore_n 1, 1, 1, 0, 0, .inl 0, []) ::
  (14, .iinc 3 1, 3, 3, 0, 0, .inl (nI 1), []) ::
  (17, .goto (-13), 3, 4, 0, 0, .inl 0, []) :: s_X9_orders_20
def s_X9_orders_0 : List mE := (0, .lconst 1, 1, 0, 0, 0, .inr (.inl 1), []) ::
  (1, .lstore_n 1, 1, 1, 0, 0, .inl 0, []) ::
  (2, .iconst 2, 1, 0, 0, 0, .inl (nI 2), []) ::
  (3, .istore_n 3, 1, 3, 0, 0, .inl 0, []) :: s_X9_orders_4
def k_X9_orders : List mE := s_X9_orders_0
set_option maxRecDepth 100000 in
theorem t_X9_orders_0 : dropTo 0 k_X9_orders = s_X9_orders_0 := rfl
set_option maxRecDepth 100000 in
theorem t_X9_orders_4 : dropTo 4 k_X9_orders = s_X9_orders_4 := rfl
set_option maxRecDepth 100000 in
theorem t_X9_orders_20 : dropTo 20 k_X9_orders = s_X9_orders_20 := rfl
theorem ok_X9_orders : mOkF m_X9_orders k_X9_orders = true := by decide +kernel
theorem cm_X9_orders : mChkM m_X9_orders = true := by decide +kernel
def s_X9_parts_109 : List mE := (109, .iload_n 3, 1, 3, 0, 0, .inl 0, []) ::
  (110, .ireturn, 1, 0, 0, 0, .inl 0, []) :: []
def s_X9_parts_76 : List mE := (76, .iload 4, 2, 4, 0, 0, .inl 0, []) ::
  (78, .aload_n 0, 1, 0, 0, 0, .inl 0, []) ::
  (79, .invokevirtual 219, 3, 253, 1, 1, .inl 0, [1472, 8]) ::
  (82, .if_icmp .ge 27, 3, 109, 0, 0, .inl 0, []) ::
  (85, .iload_n 3, 1, 3, 0, 0, .inl 0, []) ::
  (86, .aload_n 0, 1, 0, 0, 0, .inl 0, []) ::
  (87, .getfield 13, 3, 8, 14, 3, .inr (.inr (16, 925, 2)), [1210]) ::
  (90, .sipush 623, 3, 0, 0, 0, .inl (nI 623), []) ::
  (93, .iload 4, 2, 4, 0, 0, .inl 0, []) ::
  (95, .iload_n 1, 1, 1, 0, 0, .inl 0, []) ::
  (96, .invokestatic 182, 3, 148, 2, 1, .inl 0, [1437]) ::
  (99, .iadd, 1, 0, 0, 0, .inl 0, []) ::
  (100, .iaload, 1, 0, 0, 0, .inl 0, []) ::
  (101, .iadd, 1, 0, 0, 0, .inl 0, []) ::
  (102, .istore_n 3, 1, 3, 0, 0, .inl 0, []) ::
  (103, .iinc 4 1, 3, 4, 0, 0, .inl (nI 1), []) ::
  (106, .goto (-30), 3, 76, 0, 0, .inl 0, []) :: s_X9_parts_109
def s_X9_parts_71 : List mE := (71, .iconst 0, 1, 0, 0, 0, .inl (nI 0), []) ::
  (72, .istore_n 3, 1, 3, 0, 0, .inl 0, []) ::
  (73, .iconst 0, 1, 0, 0, 0, .inl (nI 0), []) ::
  (74, .istore 4, 2, 4, 0, 0, .inl 0, []) :: s_X9_parts_76
def s_X9_parts_54 : List mE := (54, .iload_n 2, 1, 2, 0, 0, .inl 0, []) ::
  (55, .bipush 7, 2, 0, 0, 0, .inl (nI 7), []) ::
  (57, .if_icmp .ne 14, 3, 71, 0, 0, .inl 0, []) ::
  (60, .aload_n 0, 1, 0, 0, 0, .inl 0, []) ::
  (61, .getfield 13, 3, 8, 14, 3, .inr (.inr (16, 925, 2)), [1210]) ::
  (64, .sipush 815, 3, 0, 0, 0, .inl (nI 815), []) ::
  (67, .iload_n 1, 1, 1, 0, 0, .inl 0, []) ::
  (68, .iadd, 1, 0, 0, 0, .inl 0, []) ::
  (69, .iaload, 1, 0, 0, 0, .inl 0, []) ::
  (70, .ireturn, 1, 0, 0, 0, .inl 0, []) :: s_X9_parts_71
def s_X9_parts_32 : List mE := (32, .iload_n 2, 1, 2, 0, 0, .inl 0, []) ::
  (33, .bipush 6, 2, 0, 0, 0, .inl (nI 6), []) ::
  (35, .if_icmp .ge 19, 3, 54, 0, 0, .inl 0, []) ::
  (38, .aload_n 0, 1, 0, 0, 0, .inl 0, []) ::
  (39, .getfield 13, 3, 8, 14, 3, .inr (.inr (16, 925, 2)), [1210]) ::
  (42, .sipush 881, 3, 0, 0, 0, .inl (nI 881), []) ::
  (45, .bipush 6, 2, 0, 0, 0, .inl (nI 6), []) ::
  (47, .iload_n 2, 1, 2, 0, 0, .inl 0, []) ::
  (48, .imul, 1, 0, 0, 0, .inl 0, []) ::
  (49, .iadd, 1, 0, 0, 0, .inl 0, []) ::
  (50, .iload_n 1, 1, 1, 0, 0, .inl 0, []) ::
  (51, .iadd, 1, 0, 0, 0, .inl 0, []) ::
  (52, .iaload, 1, 0, 0, 0, .inl 0, []) ::
  (53, .ireturn, 1, 0, 0, 0, .inl 0, []) :: s_X9_parts_54
def s_X9_parts_30 : List mE := (30, .iconst (-1), 1, 0, 0, 0, .inl (-1), []) ::
  (31, .ireturn, 1, 0, 0, 0, .inl 0, []) :: s_X9_parts_32
def s_X9_parts_0 : List mE := (0, .aload_n 0, 1, 0, 0, 0, .inl 0, []) ::
  (1, .iconst 0, 1, 0, 0, 0, .inl (nI 0), []) ::
  (2, .putfield 76, 3, 8, 0, 0, .inl 0, [1196]) ::
  (5, .aload_n 0, 1, 0, 0, 0, .inl 0, []) ::
  (6, .invokevirtual 288, 3, 180, 1, 1, .inl 0, [1516, 8]) ::
  (9, .ifCond .eq 21, 3, 30, 0, 0, .inl 0, []) ::
  (12, .aload_n 0, 1, 0, 0, 0, .inl 0, []) ::
  (13, .iload_n 1, 1, 1, 0, 0, .inl 0, []) ::
  (14, .invokevirtual 234, 3, 175, 2, 1, .inl 0, [1492, 8]) ::
  (17, .ifCond .eq 13, 3, 30, 0, 0, .inl 0, []) ::
  (20, .iload_n 2, 1, 2, 0, 0, .inl 0, []) ::
  (21, .iconst 0, 1, 0, 0, 0, .inl (nI 0), []) ::
  (22, .bipush 7, 2, 0, 0, 0, .inl (nI 7), []) ::
  (24, .invokestatic 143, 3, 177, 3, 1, .inl 0, [1414]) ::
  (27, .ifCond .ne 5, 3, 32, 0, 0, .inl 0, []) :: s_X9_parts_30
def k_X9_parts : List mE := s_X9_parts_0
set_option maxRecDepth 100000 in
theorem t_X9_parts_0 : dropTo 0 k_X9_parts = s_X9_parts_0 := rfl
set_option maxRecDepth 100000 in
theorem t_X9_parts_30 : dropTo 30 k_X9_parts = s_X9_parts_30 := rfl
set_option maxRecDepth 100000 in
theorem t_X9_parts_32 : dropTo 32 k_X9_parts = s_X9_parts_32 := rfl
set_option maxRecDepth 100000 in
theorem t_X9_parts_54 : dropTo 54 k_X9_parts = s_X9_parts_54 := rfl
set_option maxRecDepth 100000 in
theorem t_X9_parts_71 : dropTo 71 k_X9_parts = s_X9_parts_71 := rfl
set_option maxRecDepth 100000 in
theorem t_X9_parts_76 : dropTo 76 k_X9_parts = s_X9_parts_76 := rfl
set_option maxRecDepth 100000 in
theorem t_X9_parts_109 : dropTo 109 k_X9_parts = s_X9_parts_109 := rfl
theorem ok_X9_parts : mOkF m_X9_parts k_X9_parts = true := by decide +kernel
theorem cm_X9_parts : mChkM m_X9_parts = true := by decide +kernel
def s_X9_plan_67 : List mE := (67, .aload_n 0, 1, 0, 0, 0, .inl 0, []) ::
  (68, .getfield 13, 3, 8, 14, 3, .inr (.inr (16, 925, 2)), [1210]) ::
  (71, .sipush 278, 3, 0, 0, 0, .inl (nI 278), []) ::
  (74, .aload_n 0, 1, 0, 0, 0, .inl 0, []) ::
  (75, .getfield 356, 3, 8, 39, 0, .inl 0, [1235]) ::
  (78, .iastore, 1, 0, 0, 0, .inl 0, []) ::
  (79, .aload_n 0, 1, 0, 0, 0, .inl 0, []) ::
  (80, .getfield 356, 3, 8, 39, 0, .inl 0, [1235]) ::
  (83, .ireturn, 1, 0, 0, 0, .inl 0, []) :: []
def s_X9_plan_35 : List mE := (35, .iload_n 1, 1, 1, 0, 0, .inl 0, []) ::
  (36, .iconst 5, 1, 0, 0, 0, .inl (nI 5), []) ::
  (37, .aload_n 0, 1, 0, 0, 0, .inl 0, []) ::
  (38, .getfield 356, 3, 8, 39, 0, .inl 0, [1235]) ::
  (41, .imul, 1, 0, 0, 0, .inl 0, []) ::
  (42, .if_icmp .ge 25, 3, 67, 0, 0, .inl 0, []) ::
  (45, .aload_n 0, 1, 0, 0, 0, .inl 0, []) ::
  (46, .getfield 13, 3, 8, 14, 3, .inr (.inr (16, 925, 2)), [1210]) ::
  (49, .sipush 279, 3, 0, 0, 0, .inl (nI 279), []) ::
  (52, .iload_n 1, 1, 1, 0, 0, .inl 0, []) ::
  (53, .iadd, 1, 0, 0, 0, .inl 0, []) ::
  (54, .aload_n 0, 1, 0, 0, 0, .inl 0, []) ::
  (55, .getfield 19, 3, 8, 16, 3, .inr (.inr (16, 100, 4)), [1212]) ::
  (58, .iload_n 1, 1, 1, 0, 0, .inl 0, []) ::
  (59, .iaload, 1, 0, 0, 0, .inl 0, []) ::
  (60, .iastore, 1, 0, 0, 0, .inl 0, []) ::
  (61, .iinc 1 1, 3, 1, 0, 0, .inl (nI 1), []) ::
  (64, .goto (-29), 3, 35, 0, 0, .inl 0, []) :: s_X9_plan_67
def s_X9_plan_33 : List mE := (33, .iconst 0, 1, 0, 0, 0, .inl (nI 0), []) ::
  (34, .istore_n 1, 1, 1, 0, 0, .inl 0, []) :: s_X9_plan_35
def s_X9_plan_12 : List mE := (12, .aload_n 0, 1, 0, 0, 0, .inl 0, []) ::
  (13, .getfield 98, 3, 8, 7, 0, .inl 0, [1203]) ::
  (16, .ifCond .eq 17, 3, 33, 0, 0, .inl 0, []) ::
  (19, .aload_n 0, 1, 0, 0, 0, .inl 0, []) ::
  (20, .invokevirtual 359, 3, 216, 1, 1, .inl 0, [1747, 8]) ::
  (23, .ifCond .ne (-11), 3, 12, 0, 0, .inl 0, []) ::
  (26, .iconst (-1), 1, 0, 0, 0, .inl (-1), []) ::
  (27, .aload_n 0, 1, 0, 0, 0, .inl 0, []) ::
  (28, .getfield 137, 3, 8, 11, 0, .inl 0, [1207]) ::
  (31, .isub, 1, 0, 0, 0, .inl 0, []) ::
  (32, .ireturn, 1, 0, 0, 0, .inl 0, []) :: s_X9_plan_33
def s_X9_plan_0 : List mE := (0, .aload_n 0, 1, 0, 0, 0, .inl 0, []) ::
  (1, .sipush 300, 3, 0, 0, 0, .inl (nI 300), []) ::
  (4, .invokevirtual 213, 3, 141, 2, 0, .inl 0, [1353, 8]) ::
  (7, .aload_n 0, 1, 0, 0, 0, .inl 0, []) ::
  (8, .iconst 0, 1, 0, 0, 0, .inl (nI 0), []) ::
  (9, .putfield 356, 3, 8, 39, 0, .inl 0, [1235]) :: s_X9_plan_12
def k_X9_plan : List mE := s_X9_plan_0
set_option maxRecDepth 100000 in
theorem t_X9_plan_0 : dropTo 0 k_X9_plan = s_X9_plan_0 := rfl
set_option maxRecDepth 100000 in
theorem t_X9_plan_12 : dropTo 12 k_X9_plan = s_X9_plan_12 := rfl
set_option maxRecDepth 100000 in
theorem t_X9_plan_33 : dropTo 33 k_X9_plan = s_X9_plan_33 := rfl
set_option maxRecDepth 100000 in
theorem t_X9_plan_35 : dropTo 35 k_X9_plan = s_X9_plan_35 := rfl
set_option maxRecDepth 100000 in
theorem t_X9_plan_67 : dropTo 67 k_X9_plan = s_X9_plan_67 := rfl
theorem ok_X9_plan : mOkF m_X9_plan k_X9_plan = true := by decide +kernel
theorem cm_X9_plan : mChkM m_X9_plan = true := by decide +kernel
def s_X9_put_0 : List mE := (0, .aload_n 0, 1, 0, 0, 0, .inl 0, []) ::
  (1, .getfield 67, 3, 8, 36, 3, .inr (.inr (16, 160, 18)), [1232]) ::
  (4, .aload_n 0, 1, 0, 0, 0, .inl 0, []) ::
  (5, .getfield 343, 3, 8, 38, 0, .inl 0, [1234]) ::
  (8, .iload_n 1, 1, 1, 0, 0, .inl 0, []) ::
  (9, .iastore, 1, 0, 0, 0, .inl 0, []) ::
  (10, .aload_n 0, 1, 0, 0, 0, .inl 0, []) ::
  (11, .dup, 1, 0, 0, 0, .inl 0, []) ::
  (12, .getfield 343, 3, 8, 38, 0, .inl 0, [1234]) ::
  (15, .iconst 1, 1, 0, 0, 0, .inl (nI 1), []) ::
  (16, .iadd, 1, 0, 0, 0, .inl 0, []) ::
  (17, .putfield 343, 3, 8, 38, 0, .inl 0, [1234]) ::
  (20, .return_, 1, 0, 0, 0, .inl 0, []) :: []
def k_X9_put : List mE := s_X9_put_0
set_option maxRecDepth 100000 in
theorem t_X9_put_0 : dropTo 0 k_X9_put = s_X9_put_0 := rfl
theorem ok_X9_put : mOkF m_X9_put k_X9_put = true := by decide +kernel
theorem cm_X9_put : mChkM m_X9_put = true := by decide +kernel
def s_X9_putName_69 : List mE := (69, .return_, 1, 0, 0, 0, .inl 0, []) :: []
def s_X9_putName_47 : List mE := (47, .iload 4, 2, 4, 0, 0, .inl 0, []) ::
  (49, .ifCond .lt 20, 3, 69, 0, 0, .inl 0, []) ::
  (52, .aload_n 0, 1, 0, 0, 0, .inl 0, []) ::
  (53, .aload_n 0, 1, 0, 0, 0, .inl 0, []) ::
  (54, .getfield 70, 3, 8, 37, 3, .inr (.inr (16, 6, 19)), [1233]) ::
  (57, .iload 4, 2, 4, 0, 0, .inl 0, []) ::
  (59, .iaload, 1, 0, 0, 0, .inl 0, []) ::
  (60, .invokevirtual 346, 3, 213, 2, 0, .inl 0, [1731, 8]) ::
  (63, .iinc 4 (-1), 3, 4, 0, 0, .inl (-1), []) ::
  (66, .goto (-19), 3, 47, 0, 0, .inl 0, []) :: s_X9_putName_69
def s_X9_putName_42 : List mE := (42, .iload_n 3, 1, 3, 0, 0, .inl 0, []) ::
  (43, .iconst 1, 1, 0, 0, 0, .inl (nI 1), []) ::
  (44, .isub, 1, 0, 0, 0, .inl 0, []) ::
  (45, .istore 4, 2, 4, 0, 0, .inl 0, []) :: s_X9_putName_47
def s_X9_putName_5 : List mE := (5, .lload 4, 2, 4, 0, 0, .inl 0, []) ::
  (7, .lconst 0, 1, 0, 0, 0, .inr (.inl 0), []) ::
  (8, .lcmp, 1, 0, 0, 0, .inl 0, []) ::
  (9, .ifCond .le 33, 3, 42, 0, 0, .inl 0, []) ::
  (12, .aload_n 0, 1, 0, 0, 0, .inl 0, []) ::
  (13, .getfield 70, 3, 8, 37, 3, .inr (.inr (16, 6, 19)), [1233]) ::
  (16, .iload_n 3, 1, 3, 0, 0, .inl 0, []) ::
  (17, .lload 4, 2, 4, 0, 0, .inl 0, []) ::
  (19, .ldc2_w 122, 3, 0, 0, 0, .inr (.inl 27), [1375]) ::
  (22, .lrem, 1, 0, 0, 0, .inl 0, []) ::
  (23, .l2i, 1, 0, 0, 0, .inl 0, []) ::
  (24, .bipush 96, 2, 0, 0, 0, .inl (nI 96), []) ::
  (26, .iadd, 1, 0, 0, 0, .inl 0, []) ::
  (27, .iastore, 1, 0, 0, 0, .inl 0, []) ::
  (28, .iinc 3 1, 3, 3, 0, 0, .inl (nI 1), []) ::
  (31, .lload 4, 2, 4, 0, 0, .inl 0, []) ::
  (33, .ldc2_w 122, 3, 0, 0, 0, .inr (.inl 27), [1375]) ::
  (36, .ldiv, 1, 0, 0, 0, .inl 0, []) ::
  (37, .lstore 4, 2, 4, 0, 0, .inl 0, []) ::
  (39, .goto (-34), 3, 5, 0, 0, .inl 0, []) :: s_X9_putName_42
def s_X9_putName_0 : List mE := (0, .iconst 0, 1, 0, 0, 0, .inl (nI 0), []) ::
  (1, .istore_n 3, 1, 3, 0, 0, .inl 0, []) ::
  (2, .lload_n 1, 1, 1, 0, 0, .inl 0, []) ::
  (3, .lstore 4, 2, 4, 0, 0, .inl 0, []) :: s_X9_putName_5
def k_X9_putName : List mE := s_X9_putName_0
set_option maxRecDepth 100000 in
theorem t_X9_putName_0 : dropTo 0 k_X9_putName = s_X9_putName_0 := rfl
set_option maxRecDepth 100000 in
theorem t_X9_putName_5 : dropTo 5 k_X9_putName = s_X9_putName_5 := rfl
set_option maxRecDepth 100000 in
theorem t_X9_putName_42 : dropTo 42 k_X9_putName = s_X9_putName_42 := rfl
set_option maxRecDepth 100000 in
theorem t_X9_putName_47 : dropTo 47 k_X9_putName = s_X9_putName_47 := rfl
set_option maxRecDepth 100000 in
theorem t_X9_putName_69 : dropTo 69 k_X9_putName = s_X9_putName_69 := rfl
theorem ok_X9_putName : mOkF m_X9_putName k_X9_putName = true := by decide +kernel
theorem cm_X9_putName : mChkM m_X9_putName = true := by decide +kernel
def s_X9_putNumber_35 : List mE := (35, .aload_n 0, 1, 0, 0, 0, .inl 0, []) ::
  (36, .bipush 48, 2, 0, 0, 0, .inl (nI 48), []) ::
  (38, .iload_n 1, 1, 1, 0, 0, .inl 0, []) ::
  (39, .bipush 10, 2, 0, 0, 0, .inl (nI 10), []) ::
  (41, .irem, 1, 0, 0, 0, .inl 0, []) ::
  (42, .iadd, 1, 0, 0, 0, .inl 0, []) ::
  (43, .invokevirtual 346, 3, 213, 2, 0, .inl 0, [1731, 8]) ::
  (46, .return_, 1, 0, 0, 0, .inl 0, []) :: []
def s_X9_putNumber_27 : List mE := (27, .iload_n 2, 1, 2, 0, 0, .inl 0, []) ::
  (28, .bipush 10, 2, 0, 0, 0, .inl (nI 10), []) ::
  (30, .idiv, 1, 0, 0, 0, .inl 0, []) ::
  (31, .istore_n 2, 1, 2, 0, 0, .inl 0, []) ::
  (32, .goto (-28), 3, 4, 0, 0, .inl 0, []) :: s_X9_putNumber_35
def s_X9_putNumber_4 : List mE := (4, .iload_n 2, 1, 2, 0, 0, .inl 0, []) ::
  (5, .iconst 1, 1, 0, 0, 0, .inl (nI 1), []) ::
  (6, .if_icmp .le 29, 3, 35, 0, 0, .inl 0, []) ::
  (9, .iload_n 1, 1, 1, 0, 0, .inl 0, []) ::
  (10, .iload_n 2, 1, 2, 0, 0, .inl 0, []) ::
  (11, .if_icmp .lt 16, 3, 27, 0, 0, .inl 0, []) ::
  (14, .aload_n 0, 1, 0, 0, 0, .inl 0, []) ::
  (15, .bipush 48, 2, 0, 0, 0, .inl (nI 48), []) ::
  (17, .iload_n 1, 1, 1, 0, 0, .inl 0, []) ::
  (18, .iload_n 2, 1, 2, 0, 0, .inl 0, []) ::
  (19, .idiv, 1, 0, 0, 0, .inl 0, []) ::
  (20, .bipush 10, 2, 0, 0, 0, .inl (nI 10), []) ::
  (22, .irem, 1, 0, 0, 0, .inl 0, []) ::
  (23, .iadd, 1, 0, 0, 0, .inl 0, []) ::
  (24, .invokevirtual 346, 3, 213, 2, 0, .inl 0, [1731, 8]) :: s_X9_putNumber_27
def s_X9_putNumber_0 : List mE := (0, .sipush 10000, 3, 0, 0, 0, .inl (nI 10000), []) ::
  (3, .istore_n 2, 1, 2, 0, 0, .inl 0, []) :: s_X9_putNumber_4
def k_X9_putNumber : List mE := s_X9_putNumber_0
set_option maxRecDepth 100000 in
theorem t_X9_putNumber_0 : dropTo 0 k_X9_putNumber = s_X9_putNumber_0 := rfl
set_option maxRecDepth 100000 in
theorem t_X9_putNumber_4 : dropTo 4 k_X9_putNumber = s_X9_putNumber_4 := rfl
set_option maxRecDepth 100000 in
theorem t_X9_putNumber_27 : dropTo 27 k_X9_putNumber = s_X9_putNumber_27 := rfl
set_option maxRecDepth 100000 in
theorem t_X9_putNumber_35 : dropTo 35 k_X9_putNumber = s_X9_putNumber_35 := rfl
theorem ok_X9_putNumber : mOkF m_X9_putNumber k_X9_putNumber = true := by decide +kernel
theorem cm_X9_putNumber : mChkM m_X9_putNumber = true := by decide +kernel
def s_X9_readAct_262 : List mE := (262, .aload_n 0, 1, 0, 0, 0, .inl 0, []) ::
  (263, .getfield 147, 3, 8, 13, 0, .inl 0, [1209]) ::
  (266, .iastore, 1, 0, 0, 0, .inl 0, []) ::
  (267, .aload_n 0, 1, 0, 0, 0, .inl 0, []) ::
  (268, .dup, 1, 0, 0, 0, .inl 0, []) ::
  (269, .getfield 356, 3, 8, 39, 0, .inl 0, [1235]) ::
  (272, .iconst 1, 1, 0, 0, 0, .inl (nI 1), []) ::
  (273, .iadd, 1, 0, 0, 0, .inl 0, []) ::
  (274, .putfield 356, 3, 8, 39, 0, .inl 0, [1235]) ::
  (277, .aload_n 0, 1, 0, 0, 0, .inl 0, []) ::
  (278, .invokevirtual 210, 3, 221, 1, 1, .inl 0, [1452, 8]) ::
  (281, .ireturn, 1, 1, 0, 0, .inl 0, []) :: []
def s_X9_readAct_259 : List mE := (259, .iload_n 2, 1, 2, 0, 0, .inl 0, []) ::
  (260, .iconst 4, 1, 0, 0, 0, .inl (nI 4), []) ::
  (261, .iadd, 1, 0, 0, 0, .inl 0, []) :: s_X9_readAct_262
def s_X9_readAct_245 : List mE := (245, .aload_n 0, 1, 0, 0, 0, .inl 0, []) ::
  (246, .getfield 19, 3, 8, 16, 3, .inr (.inr (16, 100, 4)), [1212]) ::
  (249, .iload_n 1, 1, 1, 0, 0, .inl 0, []) ::
  (250, .ifCond .eq 9, 3, 259, 0, 0, .inl 0, []) ::
  (253, .iload_n 2, 1, 2, 0, 0, .inl 0, []) ::
  (254, .iconst 3, 1, 0, 0, 0, .inl (nI 3), []) ::
  (255, .iadd, 1, 0, 0, 0, .inl 0, []) ::
  (256, .goto 6, 3, 262, 0, 0, .inl 0, []) :: s_X9_readAct_259
def s_X9_readAct_234 : List mE := (234, .sipush 199, 3, 0, 0, 0, .inl (nI 199), []) ::
  (237, .invokevirtual 171, 3, 229, 3, 1, .inl 0, [1410, 8]) ::
  (240, .ifCond .ne 5, 3, 245, 0, 0, .inl 0, []) ::
  (243, .iconst 0, 1, 0, 0, 0, .inl (nI 0), []) ::
  (244, .ireturn, 1, 1, 0, 0, .inl 0, []) :: s_X9_readAct_245
def s_X9_readAct_233 : List mE := (233, .iconst 0, 1, 0, 0, 0, .inl (nI 0), []) :: s_X9_readAct_234
def s_X9_readAct_216 : List mE := (216, .aload_n 0, 1, 0, 0, 0, .inl 0, []) ::
  (217, .getfield 147, 3, 8, 13, 0, .inl 0, [1209]) ::
  (220, .iastore, 1, 0, 0, 0, .inl 0, []) ::
  (221, .aload_n 0, 1, 0, 0, 0, .inl 0, []) ::
  (222, .iload_n 1, 1, 1, 0, 0, .inl 0, []) ::
  (223, .ifCond .eq 10, 3, 233, 0, 0, .inl 0, []) ::
  (226, .aload_n 0, 1, 0, 0, 0, .inl 0, []) ::
  (227, .getfield 147, 3, 8, 13, 0, .inl 0, [1209]) ::
  (230, .goto 4, 3, 234, 0, 0, .inl 0, []) :: s_X9_readAct_233
def s_X9_readAct_213 : List mE := (213, .iload_n 2, 1, 2, 0, 0, .inl 0, []) ::
  (214, .iconst 3, 1, 0, 0, 0, .inl (nI 3), []) ::
  (215, .iadd, 1, 0, 0, 0, .inl 0, []) :: s_X9_readAct_216
def s_X9_readAct_199 : List mE := (199, .aload_n 0, 1, 0, 0, 0, .inl 0, []) ::
  (200, .getfield 19, 3, 8, 16, 3, .inr (.inr (16, 100, 4)), [1212]) ::
  (203, .iload_n 1, 1, 1, 0, 0, .inl 0, []) ::
  (204, .ifCond .eq 9, 3, 213, 0, 0, .inl 0, []) ::
  (207, .iload_n 2, 1, 2, 0, 0, .inl 0, []) ::
  (208, .iconst 2, 1, 0, 0, 0, .inl (nI 2), []) ::
  (209, .iadd, 1, 0, 0, 0, .inl 0, []) ::
  (210, .goto 6, 3, 216, 0, 0, .inl 0, []) :: s_X9_readAct_213
def s_X9_readAct_197 : List mE := (197, .iconst 0, 1, 0, 0, 0, .inl (nI 0), []) ::
  (198, .ireturn, 1, 1, 0, 0, .inl 0, []) :: s_X9_readAct_199
def s_X9_readAct_187 : List mE := (187, .aload_n 0, 1, 0, 0, 0, .inl 0, []) ::
  (188, .iconst 1, 1, 0, 0, 0, .inl (nI 1), []) ::
  (189, .bipush 99, 2, 0, 0, 0, .inl (nI 99), []) ::
  (191, .invokevirtual 171, 3, 229, 3, 1, .inl 0, [1410, 8]) ::
  (194, .ifCond .ne 5, 3, 199, 0, 0, .inl 0, []) :: s_X9_readAct_197
def s_X9_readAct_169 : List mE := (169, .iload_n 1, 1, 1, 0, 0, .inl 0, []) ::
  (170, .ifCond .eq 17, 3, 187, 0, 0, .inl 0, []) ::
  (173, .aload_n 0, 1, 0, 0, 0, .inl 0, []) ::
  (174, .iconst 0, 1, 0, 0, 0, .inl (nI 0), []) ::
  (175, .sipush 199, 3, 0, 0, 0, .inl (nI 199), []) ::
  (178, .invokevirtual 171, 3, 229, 3, 1, .inl 0, [1410, 8]) ::
  (181, .ifCond .eq 16, 3, 197, 0, 0, .inl 0, []) ::
  (184, .goto 15, 3, 199, 0, 0, .inl 0, []) :: s_X9_readAct_187
def s_X9_readAct_153 : List mE := (153, .aload_n 0, 1, 0, 0, 0, .inl 0, []) ::
  (154, .getfield 19, 3, 8, 16, 3, .inr (.inr (16, 100, 4)), [1212]) ::
  (157, .iload_n 2, 1, 2, 0, 0, .inl 0, []) ::
  (158, .iconst 2, 1, 0, 0, 0, .inl (nI 2), []) ::
  (159, .iadd, 1, 0, 0, 0, .inl 0, []) ::
  (160, .aload_n 0, 1, 0, 0, 0, .inl 0, []) ::
  (161, .getfield 147, 3, 8, 13, 0, .inl 0, [1209]) ::
  (164, .iastore, 1, 0, 0, 0, .inl 0, []) ::
  (165, .aload_n 0, 1, 0, 0, 0, .inl 0, []) ::
  (166, .invokevirtual 150, 3, 162, 1, 0, .inl 0, [1361, 8]) :: s_X9_readAct_169
def s_X9_readAct_121 : List mE := (121, .aload_n 0, 1, 0, 0, 0, .inl 0, []) ::
  (122, .getfield 13, 3, 8, 14, 3, .inr (.inr (16, 925, 2)), [1210]) ::
  (125, .bipush 38, 2, 0, 0, 0, .inl (nI 38), []) ::
  (127, .aload_n 0, 1, 0, 0, 0, .inl 0, []) ::
  (128, .getfield 19, 3, 8, 16, 3, .inr (.inr (16, 100, 4)), [1212]) ::
  (131, .iload_n 2, 1, 2, 0, 0, .inl 0, []) ::
  (132, .iconst 1, 1, 0, 0, 0, .inl (nI 1), []) ::
  (133, .iadd, 1, 0, 0, 0, .inl 0, []) ::
  (134, .iaload, 1, 0, 0, 0, .inl 0, []) ::
  (135, .aload_n 0, 1, 0, 0, 0, .inl 0, []) ::
  (136, .getfield 147, 3, 8, 13, 0, .inl 0, [1209]) ::
  (139, .invokestatic 182, 3, 148, 2, 1, .inl 0, [1437]) ::
  (142, .iadd, 1, 0, 0, 0, .inl 0, []) ::
  (143, .iaload, 1, 0, 0, 0, .inl 0, []) ::
  (144, .ifCond .ne 9, 3, 153, 0, 0, .inl 0, []) ::
  (147, .aload_n 0, 1, 0, 0, 0, .inl 0, []) ::
  (148, .iconst 3, 1, 0, 0, 0, .inl (nI 3), []) ::
  (149, .invokevirtual 140, 3, 140, 2, 1, .inl 0, [1395, 8]) ::
  (152, .ireturn, 1, 1, 0, 0, .inl 0, []) :: s_X9_readAct_153
def s_X9_readAct_83 : List mE := (83, .iastore, 1, 0, 0, 0, .inl 0, []) ::
  (84, .aload_n 0, 1, 0, 0, 0, .inl 0, []) ::
  (85, .getfield 19, 3, 8, 16, 3, .inr (.inr (16, 100, 4)), [1212]) ::
  (88, .iload_n 2, 1, 2, 0, 0, .inl 0, []) ::
  (89, .iconst 1, 1, 0, 0, 0, .inl (nI 1), []) ::
  (90, .iadd, 1, 0, 0, 0, .inl 0, []) ::
  (91, .aload_n 0, 1, 0, 0, 0, .inl 0, []) ::
  (92, .getfield 147, 3, 8, 13, 0, .inl 0, [1209]) ::
  (95, .iastore, 1, 0, 0, 0, .inl 0, []) ::
  (96, .aload_n 0, 1, 0, 0, 0, .inl 0, []) ::
  (97, .invokevirtual 150, 3, 162, 1, 0, .inl 0, [1361, 8]) ::
  (100, .iload_n 1, 1, 1, 0, 0, .inl 0, []) ::
  (101, .ifCond .ne 68, 3, 169, 0, 0, .inl 0, []) ::
  (104, .aload_n 0, 1, 0, 0, 0, .inl 0, []) ::
  (105, .aload_n 0, 1, 0, 0, 0, .inl 0, []) ::
  (106, .getfield 25, 3, 8, 18, 3, .inr (.inr (17, 14, 6)), [1214]) ::
  (109, .aload_n 0, 1, 0, 0, 0, .inl 0, []) ::
  (110, .getfield 13, 3, 8, 14, 3, .inr (.inr (16, 925, 2)), [1210]) ::
  (113, .invokevirtual 179, 3, 186, 3, 1, .inl 0, [1433, 8]) ::
  (116, .ifCond .ne 5, 3, 121, 0, 0, .inl 0, []) ::
  (119, .iconst 0, 1, 0, 0, 0, .inl (nI 0), []) ::
  (120, .ireturn, 1, 1, 0, 0, .inl 0, []) :: s_X9_readAct_121
def s_X9_readAct_82 : List mE := (82, .iconst 1, 1, 0, 0, 0, .inl (nI 1), []) :: s_X9_readAct_83
def s_X9_readAct_69 : List mE := (69, .aload_n 0, 1, 0, 0, 0, .inl 0, []) ::
  (70, .getfield 19, 3, 8, 16, 3, .inr (.inr (16, 100, 4)), [1212]) ::
  (73, .iload_n 2, 1, 2, 0, 0, .inl 0, []) ::
  (74, .iload_n 1, 1, 1, 0, 0, .inl 0, []) ::
  (75, .ifCond .eq 7, 3, 82, 0, 0, .inl 0, []) ::
  (78, .iconst 0, 1, 0, 0, 0, .inl (nI 0), []) ::
  (79, .goto 4, 3, 83, 0, 0, .inl 0, []) :: s_X9_readAct_82
def s_X9_readAct_41 : List mE := (41, .iconst 5, 1, 0, 0, 0, .inl (nI 5), []) ::
  (42, .aload_n 0, 1, 0, 0, 0, .inl 0, []) ::
  (43, .getfield 356, 3, 8, 39, 0, .inl 0, [1235]) ::
  (46, .imul, 1, 0, 0, 0, .inl 0, []) ::
  (47, .istore_n 2, 1, 2, 0, 0, .inl 0, []) ::
  (48, .aload_n 0, 1, 0, 0, 0, .inl 0, []) ::
  (49, .invokevirtual 150, 3, 162, 1, 0, .inl 0, [1361, 8]) ::
  (52, .aload_n 0, 1, 0, 0, 0, .inl 0, []) ::
  (53, .aload_n 0, 1, 0, 0, 0, .inl 0, []) ::
  (54, .getfield 25, 3, 8, 18, 3, .inr (.inr (17, 14, 6)), [1214]) ::
  (57, .aload_n 0, 1, 0, 0, 0, .inl 0, []) ::
  (58, .getfield 13, 3, 8, 14, 3, .inr (.inr (16, 925, 2)), [1210]) ::
  (61, .invokevirtual 175, 3, 187, 3, 1, .inl 0, [1429, 8]) ::
  (64, .ifCond .ne 5, 3, 69, 0, 0, .inl 0, []) ::
  (67, .iconst 0, 1, 0, 0, 0, .inl (nI 0), []) ::
  (68, .ireturn, 1, 1, 0, 0, .inl 0, []) :: s_X9_readAct_69
def s_X9_readAct_26 : List mE := (26, .aload_n 0, 1, 0, 0, 0, .inl 0, []) ::
  (27, .getfield 356, 3, 8, 39, 0, .inl 0, [1235]) ::
  (30, .bipush 20, 2, 0, 0, 0, .inl (nI 20), []) ::
  (32, .if_icmp .ne 9, 3, 41, 0, 0, .inl 0, []) ::
  (35, .aload_n 0, 1, 0, 0, 0, .inl 0, []) ::
  (36, .iconst 4, 1, 0, 0, 0, .inl (nI 4), []) ::
  (37, .invokevirtual 140, 3, 140, 2, 1, .inl 0, [1395, 8]) ::
  (40, .ireturn, 1, 1, 0, 0, .inl 0, []) :: s_X9_readAct_41
def s_X9_readAct_0 : List mE := (0, .aload_n 0, 1, 0, 0, 0, .inl 0, []) ::
  (1, .bipush 7, 2, 0, 0, 0, .inl (nI 7), []) ::
  (3, .invokevirtual 189, 3, 189, 2, 1, .inl 0, [1381, 8]) ::
  (6, .istore_n 1, 1, 1, 0, 0, .inl 0, []) ::
  (7, .iload_n 1, 1, 1, 0, 0, .inl 0, []) ::
  (8, .ifCond .ne 18, 3, 26, 0, 0, .inl 0, []) ::
  (11, .aload_n 0, 1, 0, 0, 0, .inl 0, []) ::
  (12, .bipush 8, 2, 0, 0, 0, .inl (nI 8), []) ::
  (14, .invokevirtual 189, 3, 189, 2, 1, .inl 0, [1381, 8]) ::
  (17, .ifCond .ne 9, 3, 26, 0, 0, .inl 0, []) ::
  (20, .aload_n 0, 1, 0, 0, 0, .inl 0, []) ::
  (21, .iconst 1, 1, 0, 0, 0, .inl (nI 1), []) ::
  (22, .invokevirtual 140, 3, 140, 2, 1, .inl 0, [1395, 8]) ::
  (25, .ireturn, 1, 1, 0, 0, .inl 0, []) :: s_X9_readAct_26
def k_X9_readAct : List mE := s_X9_readAct_0
set_option maxRecDepth 100000 in
theorem t_X9_readAct_0 : dropTo 0 k_X9_readAct = s_X9_readAct_0 := rfl
set_option maxRecDepth 100000 in
theorem t_X9_readAct_26 : dropTo 26 k_X9_readAct = s_X9_readAct_26 := rfl
set_option maxRecDepth 100000 in
theorem t_X9_readAct_41 : dropTo 41 k_X9_readAct = s_X9_readAct_41 := rfl
set_option maxRecDepth 100000 in
theorem t_X9_readAct_69 : dropTo 69 k_X9_readAct = s_X9_readAct_69 := rfl
set_option maxRecDepth 100000 in
theorem t_X9_readAct_82 : dropTo 82 k_X9_readAct = s_X9_readAct_82 := rfl
set_option maxRecDepth 100000 in
theorem t_X9_readAct_83 : dropTo 83 k_X9_readAct = s_X9_readAct_83 := rfl
set_option maxRecDepth 100000 in
theorem t_X9_readAct_121 : dropTo 121 k_X9_readAct = s_X9_readAct_121 := rfl
set_option maxRecDepth 100000 in
theorem t_X9_readAct_153 : dropTo 153 k_X9_readAct = s_X9_readAct_153 := rfl
set_option maxRecDepth 100000 in
theorem t_X9_readAct_169 : dropTo 169 k_X9_readAct = s_X9_readAct_169 := rfl
set_option maxRecDepth 100000 in
theorem t_X9_readAct_187 : dropTo 187 k_X9_readAct = s_X9_readAct_187 := rfl
set_option maxRecDepth 100000 in
theorem t_X9_readAct_197 : dropTo 197 k_X9_readAct = s_X9_readAct_197 := rfl
set_option maxRecDepth 100000 in
theorem t_X9_readAct_199 : dropTo 199 k_X9_readAct = s_X9_readAct_199 := rfl
set_option maxRecDepth 100000 in
theorem t_X9_readAct_213 : dropTo 213 k_X9_readAct = s_X9_readAct_213 := rfl
set_option maxRecDepth 100000 in
theorem t_X9_readAct_216 : dropTo 216 k_X9_readAct = s_X9_readAct_216 := rfl
set_option maxRecDepth 100000 in
theorem t_X9_readAct_233 : dropTo 233 k_X9_readAct = s_X9_readAct_233 := rfl
set_option maxRecDepth 100000 in
theorem t_X9_readAct_234 : dropTo 234 k_X9_readAct = s_X9_readAct_234 := rfl
set_option maxRecDepth 100000 in
theorem t_X9_readAct_245 : dropTo 245 k_X9_readAct = s_X9_readAct_245 := rfl
set_option maxRecDepth 100000 in
theorem t_X9_readAct_259 : dropTo 259 k_X9_readAct = s_X9_readAct_259 := rfl
set_option maxRecDepth 100000 in
theorem t_X9_readAct_262 : dropTo 262 k_X9_readAct = s_X9_readAct_262 := rfl
theorem ok_X9_readAct : mOkF m_X9_readAct k_X9_readAct = true := by decide +kernel
theorem cm_X9_readAct : mChkM m_X9_readAct = true := by decide +kernel
def s_X9_readAnd_51 : List mE := (51, .aload_n 0, 1, 0, 0, 0, .inl 0, []) ::
  (52, .iload_n 1, 1, 1, 0, 0, .inl 0, []) ::
  (53, .putfield 368, 3, 8, 44, 0, .inl 0, [1240]) ::
  (56, .iconst 1, 1, 0, 0, 0, .inl (nI 1), []) ::
  (57, .ireturn, 1, 1, 0, 0, .inl 0, []) :: []
def s_X9_readAnd_36 : List mE := (36, .aload_n 0, 1, 0, 0, 0, .inl 0, []) ::
  (37, .iconst 2, 1, 0, 0, 0, .inl (nI 2), []) ::
  (38, .iload_n 1, 1, 1, 0, 0, .inl 0, []) ::
  (39, .aload_n 0, 1, 0, 0, 0, .inl 0, []) ::
  (40, .getfield 368, 3, 8, 44, 0, .inl 0, [1240]) ::
  (43, .iconst 0, 1, 0, 0, 0, .inl (nI 0), []) ::
  (44, .invokevirtual 371, 3, 198, 5, 1, .inl 0, [1775, 8]) ::
  (47, .istore_n 1, 1, 1, 0, 0, .inl 0, []) ::
  (48, .goto (-34), 3, 14, 0, 0, .inl 0, []) :: s_X9_readAnd_51
def s_X9_readAnd_14 : List mE := (14, .aload_n 0, 1, 0, 0, 0, .inl 0, []) ::
  (15, .bipush 10, 2, 0, 0, 0, .inl (nI 10), []) ::
  (17, .invokevirtual 189, 3, 189, 2, 1, .inl 0, [1381, 8]) ::
  (20, .ifCond .eq 31, 3, 51, 0, 0, .inl 0, []) ::
  (23, .aload_n 0, 1, 0, 0, 0, .inl 0, []) ::
  (24, .invokevirtual 150, 3, 162, 1, 0, .inl 0, [1361, 8]) ::
  (27, .aload_n 0, 1, 0, 0, 0, .inl 0, []) ::
  (28, .invokevirtual 375, 3, 230, 1, 1, .inl 0, [1763, 8]) ::
  (31, .ifCond .ne 5, 3, 36, 0, 0, .inl 0, []) ::
  (34, .iconst 0, 1, 0, 0, 0, .inl (nI 0), []) ::
  (35, .ireturn, 1, 1, 0, 0, .inl 0, []) :: s_X9_readAnd_36
def s_X9_readAnd_9 : List mE := (9, .aload_n 0, 1, 0, 0, 0, .inl 0, []) ::
  (10, .getfield 368, 3, 8, 44, 0, .inl 0, [1240]) ::
  (13, .istore_n 1, 1, 1, 0, 0, .inl 0, []) :: s_X9_readAnd_14
def s_X9_readAnd_0 : List mE := (0, .aload_n 0, 1, 0, 0, 0, .inl 0, []) ::
  (1, .invokevirtual 375, 3, 230, 1, 1, .inl 0, [1763, 8]) ::
  (4, .ifCond .ne 5, 3, 9, 0, 0, .inl 0, []) ::
  (7, .iconst 0, 1, 0, 0, 0, .inl (nI 0), []) ::
  (8, .ireturn, 1, 1, 0, 0, .inl 0, []) :: s_X9_readAnd_9
def k_X9_readAnd : List mE := s_X9_readAnd_0
set_option maxRecDepth 100000 in
theorem t_X9_readAnd_0 : dropTo 0 k_X9_readAnd = s_X9_readAnd_0 := rfl
set_option maxRecDepth 100000 in
theorem t_X9_readAnd_9 : dropTo 9 k_X9_readAnd = s_X9_readAnd_9 := rfl
set_option maxRecDepth 100000 in
theorem t_X9_readAnd_14 : dropTo 14 k_X9_readAnd = s_X9_readAnd_14 := rfl
set_option maxRecDepth 100000 in
theorem t_X9_readAnd_36 : dropTo 36 k_X9_readAnd = s_X9_readAnd_36 := rfl
set_option maxRecDepth 100000 in
theorem t_X9_readAnd_51 : dropTo 51 k_X9_readAnd = s_X9_readAnd_51 := rfl
theorem ok_X9_readAnd : mOkF m_X9_readAnd k_X9_readAnd = true := by decide +kernel
theorem cm_X9_readAnd : mChkM m_X9_readAnd = true := by decide +kernel
def s_X9_readBracket_24 : List mE := (24, .aload_n 0, 1, 0, 0, 0, .inl 0, []) ::
  (25, .invokevirtual 150, 3, 162, 1, 0, .inl 0, [1361, 8]) ::
  (28, .iconst 1, 1, 0, 0, 0, .inl (nI 1), []) ::
  (29, .ireturn, 1, 1, 0, 0, .inl 0, []) :: []
def s_X9_readBracket_9 : List mE := (9, .aload_n 0, 1, 0, 0, 0, .inl 0, []) ::
  (10, .bipush 41, 2, 0, 0, 0, .inl (nI 41), []) ::
  (12, .invokevirtual 153, 3, 182, 2, 1, .inl 0, [1456, 8]) ::
  (15, .ifCond .ne 9, 3, 24, 0, 0, .inl 0, []) ::
  (18, .aload_n 0, 1, 0, 0, 0, .inl 0, []) ::
  (19, .iconst 1, 1, 0, 0, 0, .inl (nI 1), []) ::
  (20, .invokevirtual 140, 3, 140, 2, 1, .inl 0, [1395, 8]) ::
  (23, .ireturn, 1, 1, 0, 0, .inl 0, []) :: s_X9_readBracket_24
def s_X9_readBracket_0 : List mE := (0, .aload_n 0, 1, 0, 0, 0, .inl 0, []) ::
  (1, .invokevirtual 396, 3, 231, 1, 1, .inl 0, [1755, 8]) ::
  (4, .ifCond .ne 5, 3, 9, 0, 0, .inl 0, []) ::
  (7, .iconst 0, 1, 0, 0, 0, .inl (nI 0), []) ::
  (8, .ireturn, 1, 1, 0, 0, .inl 0, []) :: s_X9_readBracket_9
def k_X9_readBracket : List mE := s_X9_readBracket_0
set_option maxRecDepth 100000 in
theorem t_X9_readBracket_0 : dropTo 0 k_X9_readBracket = s_X9_readBracket_0 := rfl
set_option maxRecDepth 100000 in
theorem t_X9_readBracket_9 : dropTo 9 k_X9_readBracket = s_X9_readBracket_9 := rfl
set_option maxRecDepth 100000 in
theorem t_X9_readBracket_24 : dropTo 24 k_X9_readBracket = s_X9_readBracket_24 := rfl
theorem ok_X9_readBracket : mOkF m_X9_readBracket k_X9_readBracket = true := by decide +kernel
theorem cm_X9_readBracket : mChkM m_X9_readBracket = true := by decide +kernel
def s_X9_readCell_75 : List mE := (75, .aload_n 0, 1, 0, 0, 0, .inl 0, []) ::
  (76, .invokevirtual 150, 3, 162, 1, 0, .inl 0, [1361, 8]) ::
  (79, .iload_n 3, 1, 3, 0, 0, .inl 0, []) ::
  (80, .ireturn, 1, 0, 0, 0, .inl 0, []) :: []
def s_X9_readCell_47 : List mE := (47, .iload_n 2, 1, 2, 0, 0, .inl 0, []) ::
  (48, .aload_n 0, 1, 0, 0, 0, .inl 0, []) ::
  (49, .getfield 147, 3, 8, 13, 0, .inl 0, [1209]) ::
  (52, .invokestatic 182, 3, 148, 2, 1, .inl 0, [1437]) ::
  (55, .istore_n 3, 1, 3, 0, 0, .inl 0, []) ::
  (56, .aload_n 0, 1, 0, 0, 0, .inl 0, []) ::
  (57, .getfield 16, 3, 8, 15, 3, .inr (.inr (16, 278, 3)), [1211]) ::
  (60, .iload_n 1, 1, 1, 0, 0, .inl 0, []) ::
  (61, .iload_n 3, 1, 3, 0, 0, .inl 0, []) ::
  (62, .iadd, 1, 0, 0, 0, .inl 0, []) ::
  (63, .iaload, 1, 0, 0, 0, .inl 0, []) ::
  (64, .ifCond .le 11, 3, 75, 0, 0, .inl 0, []) ::
  (67, .aload_n 0, 1, 0, 0, 0, .inl 0, []) ::
  (68, .iconst 3, 1, 0, 0, 0, .inl (nI 3), []) ::
  (69, .invokevirtual 140, 3, 140, 2, 1, .inl 0, [1395, 8]) ::
  (72, .pop, 1, 0, 0, 0, .inl 0, []) ::
  (73, .iconst (-1), 1, 0, 0, 0, .inl (-1), []) ::
  (74, .ireturn, 1, 0, 0, 0, .inl 0, []) :: s_X9_readCell_75
def s_X9_readCell_21 : List mE := (21, .aload_n 0, 1, 0, 0, 0, .inl 0, []) ::
  (22, .getfield 147, 3, 8, 13, 0, .inl 0, [1209]) ::
  (25, .istore_n 2, 1, 2, 0, 0, .inl 0, []) ::
  (26, .aload_n 0, 1, 0, 0, 0, .inl 0, []) ::
  (27, .invokevirtual 150, 3, 162, 1, 0, .inl 0, [1361, 8]) ::
  (30, .aload_n 0, 1, 0, 0, 0, .inl 0, []) ::
  (31, .aload_n 0, 1, 0, 0, 0, .inl 0, []) ::
  (32, .getfield 29, 3, 8, 19, 3, .inr (.inr (17, 14, 7)), [1215]) ::
  (35, .aload_n 0, 1, 0, 0, 0, .inl 0, []) ::
  (36, .getfield 16, 3, 8, 15, 3, .inr (.inr (16, 278, 3)), [1211]) ::
  (39, .invokevirtual 179, 3, 186, 3, 1, .inl 0, [1433, 8]) ::
  (42, .ifCond .ne 5, 3, 47, 0, 0, .inl 0, []) ::
  (45, .iconst (-1), 1, 0, 0, 0, .inl (-1), []) ::
  (46, .ireturn, 1, 0, 0, 0, .inl 0, []) :: s_X9_readCell_47
def s_X9_readCell_0 : List mE := (0, .aload_n 0, 1, 0, 0, 0, .inl 0, []) ::
  (1, .invokevirtual 150, 3, 162, 1, 0, .inl 0, [1361, 8]) ::
  (4, .aload_n 0, 1, 0, 0, 0, .inl 0, []) ::
  (5, .aload_n 0, 1, 0, 0, 0, .inl 0, []) ::
  (6, .getfield 29, 3, 8, 19, 3, .inr (.inr (17, 14, 7)), [1215]) ::
  (9, .aload_n 0, 1, 0, 0, 0, .inl 0, []) ::
  (10, .getfield 16, 3, 8, 15, 3, .inr (.inr (16, 278, 3)), [1211]) ::
  (13, .invokevirtual 175, 3, 187, 3, 1, .inl 0, [1429, 8]) ::
  (16, .ifCond .ne 5, 3, 21, 0, 0, .inl 0, []) ::
  (19, .iconst (-1), 1, 0, 0, 0, .inl (-1), []) ::
  (20, .ireturn, 1, 0, 0, 0, .inl 0, []) :: s_X9_readCell_21
def k_X9_readCell : List mE := s_X9_readCell_0
set_option maxRecDepth 100000 in
theorem t_X9_readCell_0 : dropTo 0 k_X9_readCell = s_X9_readCell_0 := rfl
set_option maxRecDepth 100000 in
theorem t_X9_readCell_21 : dropTo 21 k_X9_readCell = s_X9_readCell_21 := rfl
set_option maxRecDepth 100000 in
theorem t_X9_readCell_47 : dropTo 47 k_X9_readCell = s_X9_readCell_47 := rfl
set_option maxRecDepth 100000 in
theorem t_X9_readCell_75 : dropTo 75 k_X9_readCell = s_X9_readCell_75 := rfl
theorem ok_X9_readCell : mOkF m_X9_readCell k_X9_readCell = true := by decide +kernel
theorem cm_X9_readCell : mChkM m_X9_readCell = true := by decide +kernel
def s_X9_readCompare_55 : List mE := (55, .aload_n 0, 1, 0, 0, 0, .inl 0, []) ::
  (56, .aload_n 0, 1, 0, 0, 0, .inl 0, []) ::
  (57, .bipush 50, 2, 0, 0, 0, .inl (nI 50), []) ::
  (59, .iload_n 1, 1, 1, 0, 0, .inl 0, []) ::
  (60, .iadd, 1, 0, 0, 0, .inl 0, []) ::
  (61, .iconst 0, 1, 0, 0, 0, .inl (nI 0), []) ::
  (62, .aload_n 0, 1, 0, 0, 0, .inl 0, []) ::
  (63, .getfield 147, 3, 8, 13, 0, .inl 0, [1209]) ::
  (66, .iload_n 2, 1, 2, 0, 0, .inl 0, []) ::
  (67, .invokevirtual 371, 3, 198, 5, 1, .inl 0, [1775, 8]) ::
  (70, .putfield 368, 3, 8, 44, 0, .inl 0, [1240]) ::
  (73, .iconst 1, 1, 0, 0, 0, .inl (nI 1), []) ::
  (74, .ireturn, 1, 1, 0, 0, .inl 0, []) :: []
def s_X9_readCompare_33 : List mE := (33, .aload_n 0, 1, 0, 0, 0, .inl 0, []) ::
  (34, .getfield 108, 3, 8, 9, 0, .inl 0, [1205]) ::
  (37, .istore_n 2, 1, 2, 0, 0, .inl 0, []) ::
  (38, .aload_n 0, 1, 0, 0, 0, .inl 0, []) ::
  (39, .invokevirtual 150, 3, 162, 1, 0, .inl 0, [1361, 8]) ::
  (42, .aload_n 0, 1, 0, 0, 0, .inl 0, []) ::
  (43, .iconst 0, 1, 0, 0, 0, .inl (nI 0), []) ::
  (44, .sipush 999, 3, 0, 0, 0, .inl (nI 999), []) ::
  (47, .invokevirtual 171, 3, 229, 3, 1, .inl 0, [1410, 8]) ::
  (50, .ifCond .ne 5, 3, 55, 0, 0, .inl 0, []) ::
  (53, .iconst 0, 1, 0, 0, 0, .inl (nI 0), []) ::
  (54, .ireturn, 1, 1, 0, 0, .inl 0, []) :: s_X9_readCompare_55
def s_X9_readCompare_0 : List mE := (0, .aload_n 0, 1, 0, 0, 0, .inl 0, []) ::
  (1, .bipush 60, 2, 0, 0, 0, .inl (nI 60), []) ::
  (3, .invokevirtual 153, 3, 182, 2, 1, .inl 0, [1456, 8]) ::
  (6, .ifCond .ne 27, 3, 33, 0, 0, .inl 0, []) ::
  (9, .aload_n 0, 1, 0, 0, 0, .inl 0, []) ::
  (10, .bipush 61, 2, 0, 0, 0, .inl (nI 61), []) ::
  (12, .invokevirtual 153, 3, 182, 2, 1, .inl 0, [1456, 8]) ::
  (15, .ifCond .ne 18, 3, 33, 0, 0, .inl 0, []) ::
  (18, .aload_n 0, 1, 0, 0, 0, .inl 0, []) ::
  (19, .bipush 62, 2, 0, 0, 0, .inl (nI 62), []) ::
  (21, .invokevirtual 153, 3, 182, 2, 1, .inl 0, [1456, 8]) ::
  (24, .ifCond .ne 9, 3, 33, 0, 0, .inl 0, []) ::
  (27, .aload_n 0, 1, 0, 0, 0, .inl 0, []) ::
  (28, .iconst 1, 1, 0, 0, 0, .inl (nI 1), []) ::
  (29, .invokevirtual 140, 3, 140, 2, 1, .inl 0, [1395, 8]) ::
  (32, .ireturn, 1, 1, 0, 0, .inl 0, []) :: s_X9_readCompare_33
def k_X9_readCompare : List mE := s_X9_readCompare_0
set_option maxRecDepth 100000 in
theorem t_X9_readCompare_0 : dropTo 0 k_X9_readCompare = s_X9_readCompare_0 := rfl
set_option maxRecDepth 100000 in
theorem t_X9_readCompare_33 : dropTo 33 k_X9_readCompare = s_X9_readCompare_33 := rfl
set_option maxRecDepth 100000 in
theorem t_X9_readCompare_55 : dropTo 55 k_X9_readCompare = s_X9_readCompare_55 := rfl
theorem ok_X9_readCompare : mOkF m_X9_readCompare k_X9_readCompare = true := by decide +kernel
theorem cm_X9_readCompare : mChkM m_X9_readCompare = true := by decide +kernel
def s_X9_readEnd_15 : List mE := (15, .aload_n 0, 1, 0, 0, 0, .inl 0, []) ::
  (16, .invokevirtual 150, 3, 162, 1, 0, .inl 0, [1361, 8]) ::
  (19, .iconst 1, 1, 0, 0, 0, .inl (nI 1), []) ::
  (20, .ireturn, 1, 1, 0, 0, .inl 0, []) :: []
def s_X9_readEnd_0 : List mE := (0, .aload_n 0, 1, 0, 0, 0, .inl 0, []) ::
  (1, .bipush 59, 2, 0, 0, 0, .inl (nI 59), []) ::
  (3, .invokevirtual 153, 3, 182, 2, 1, .inl 0, [1456, 8]) ::
  (6, .ifCond .ne 9, 3, 15, 0, 0, .inl 0, []) ::
  (9, .aload_n 0, 1, 0, 0, 0, .inl 0, []) ::
  (10, .iconst 1, 1, 0, 0, 0, .inl (nI 1), []) ::
  (11, .invokevirtual 140, 3, 140, 2, 1, .inl 0, [1395, 8]) ::
  (14, .ireturn, 1, 1, 0, 0, .inl 0, []) :: s_X9_readEnd_15
def k_X9_readEnd : List mE := s_X9_readEnd_0
set_option maxRecDepth 100000 in
theorem t_X9_readEnd_0 : dropTo 0 k_X9_readEnd = s_X9_readEnd_0 := rfl
set_option maxRecDepth 100000 in
theorem t_X9_readEnd_15 : dropTo 15 k_X9_readEnd = s_X9_readEnd_15 := rfl
theorem ok_X9_readEnd : mOkF m_X9_readEnd k_X9_readEnd = true := by decide +kernel
theorem cm_X9_readEnd : mChkM m_X9_readEnd = true := by decide +kernel
def s_X9_readGood_43 : List mE := (43, .aload_n 0, 1, 0, 0, 0, .inl 0, []) ::
  (44, .getfield 16, 3, 8, 15, 3, .inr (.inr (16, 278, 3)), [1211]) ::
  (47, .bipush 8, 2, 0, 0, 0, .inl (nI 8), []) ::
  (49, .iload_n 1, 1, 1, 0, 0, .inl 0, []) ::
  (50, .iadd, 1, 0, 0, 0, .inl 0, []) ::
  (51, .aload_n 0, 1, 0, 0, 0, .inl 0, []) ::
  (52, .getfield 147, 3, 8, 13, 0, .inl 0, [1209]) ::
  (55, .iastore, 1, 0, 0, 0, .inl 0, []) ::
  (56, .aload_n 0, 1, 0, 0, 0, .inl 0, []) ::
  (57, .getfield 16, 3, 8, 15, 3, .inr (.inr (16, 278, 3)), [1211]) ::
  (60, .iconst 0, 1, 0, 0, 0, .inl (nI 0), []) ::
  (61, .dup2, 1, 0, 0, 0, .inl 0, []) ::
  (62, .iaload, 1, 0, 0, 0, .inl 0, []) ::
  (63, .iconst 1, 1, 0, 0, 0, .inl (nI 1), []) ::
  (64, .iadd, 1, 0, 0, 0, .inl 0, []) ::
  (65, .iastore, 1, 0, 0, 0, .inl 0, []) ::
  (66, .iconst 1, 1, 0, 0, 0, .inl (nI 1), []) ::
  (67, .ireturn, 1, 1, 0, 0, .inl 0, []) :: []
def s_X9_readGood_41 : List mE := (41, .iconst 0, 1, 0, 0, 0, .inl (nI 0), []) ::
  (42, .ireturn, 1, 1, 0, 0, .inl 0, []) :: s_X9_readGood_43
def s_X9_readGood_19 : List mE := (19, .aload_n 0, 1, 0, 0, 0, .inl 0, []) ::
  (20, .invokevirtual 150, 3, 162, 1, 0, .inl 0, [1361, 8]) ::
  (23, .aload_n 0, 1, 0, 0, 0, .inl 0, []) ::
  (24, .iload_n 1, 1, 1, 0, 0, .inl 0, []) ::
  (25, .invokevirtual 168, 3, 227, 2, 1, .inl 0, [1399, 8]) ::
  (28, .ifCond .eq 13, 3, 41, 0, 0, .inl 0, []) ::
  (31, .aload_n 0, 1, 0, 0, 0, .inl 0, []) ::
  (32, .iconst 0, 1, 0, 0, 0, .inl (nI 0), []) ::
  (33, .bipush 9, 2, 0, 0, 0, .inl (nI 9), []) ::
  (35, .invokevirtual 171, 3, 229, 3, 1, .inl 0, [1410, 8]) ::
  (38, .ifCond .ne 5, 3, 43, 0, 0, .inl 0, []) :: s_X9_readGood_41
def s_X9_readGood_0 : List mE := (0, .aload_n 0, 1, 0, 0, 0, .inl 0, []) ::
  (1, .getfield 16, 3, 8, 15, 3, .inr (.inr (16, 278, 3)), [1211]) ::
  (4, .iconst 0, 1, 0, 0, 0, .inl (nI 0), []) ::
  (5, .iaload, 1, 0, 0, 0, .inl 0, []) ::
  (6, .istore_n 1, 1, 1, 0, 0, .inl 0, []) ::
  (7, .iload_n 1, 1, 1, 0, 0, .inl 0, []) ::
  (8, .bipush 6, 2, 0, 0, 0, .inl (nI 6), []) ::
  (10, .if_icmp .ne 9, 3, 19, 0, 0, .inl 0, []) ::
  (13, .aload_n 0, 1, 0, 0, 0, .inl 0, []) ::
  (14, .iconst 4, 1, 0, 0, 0, .inl (nI 4), []) ::
  (15, .invokevirtual 140, 3, 140, 2, 1, .inl 0, [1395, 8]) ::
  (18, .ireturn, 1, 1, 0, 0, .inl 0, []) :: s_X9_readGood_19
def k_X9_readGood : List mE := s_X9_readGood_0
set_option maxRecDepth 100000 in
theorem t_X9_readGood_0 : dropTo 0 k_X9_readGood = s_X9_readGood_0 := rfl
set_option maxRecDepth 100000 in
theorem t_X9_readGood_19 : dropTo 19 k_X9_readGood = s_X9_readGood_19 := rfl
set_option maxRecDepth 100000 in
theorem t_X9_readGood_41 : dropTo 41 k_X9_readGood = s_X9_readGood_41 := rfl
set_option maxRecDepth 100000 in
theorem t_X9_readGood_43 : dropTo 43 k_X9_readGood = s_X9_readGood_43 := rfl
theorem ok_X9_readGood : mOkF m_X9_readGood k_X9_readGood = true := by decide +kernel
theorem cm_X9_readGood : mChkM m_X9_readGood = true := by decide +kernel
def s_X9_readJoined_15 : List mE := (15, .aload_n 0, 1, 0, 0, 0, .inl 0, []) ::
  (16, .getfield 16, 3, 8, 15, 3, .inr (.inr (16, 278, 3)), [1211]) ::
  (19, .iconst 2, 1, 0, 0, 0, .inl (nI 2), []) ::
  (20, .iconst 1, 1, 0, 0, 0, .inl (nI 1), []) ::
  (21, .iastore, 1, 0, 0, 0, .inl 0, []) ::
  (22, .aload_n 0, 1, 0, 0, 0, .inl 0, []) ::
  (23, .invokevirtual 150, 3, 162, 1, 0, .inl 0, [1361, 8]) ::
  (26, .iconst 1, 1, 0, 0, 0, .inl (nI 1), []) ::
  (27, .ireturn, 1, 1, 0, 0, .inl 0, []) :: []
def s_X9_readJoined_0 : List mE := (0, .aload_n 0, 1, 0, 0, 0, .inl 0, []) ::
  (1, .getfield 16, 3, 8, 15, 3, .inr (.inr (16, 278, 3)), [1211]) ::
  (4, .iconst 2, 1, 0, 0, 0, .inl (nI 2), []) ::
  (5, .iaload, 1, 0, 0, 0, .inl 0, []) ::
  (6, .ifCond .le 9, 3, 15, 0, 0, .inl 0, []) ::
  (9, .aload_n 0, 1, 0, 0, 0, .inl 0, []) ::
  (10, .iconst 3, 1, 0, 0, 0, .inl (nI 3), []) ::
  (11, .invokevirtual 140, 3, 140, 2, 1, .inl 0, [1395, 8]) ::
  (14, .ireturn, 1, 1, 0, 0, .inl 0, []) :: s_X9_readJoined_15
def k_X9_readJoined : List mE := s_X9_readJoined_0
set_option maxRecDepth 100000 in
theorem t_X9_readJoined_0 : dropTo 0 k_X9_readJoined = s_X9_readJoined_0 := rfl
set_option maxRecDepth 100000 in
theorem t_X9_readJoined_15 : dropTo 15 k_X9_readJoined = s_X9_readJoined_15 := rfl
theorem ok_X9_readJoined : mOkF m_X9_readJoined k_X9_readJoined = true := by decide +kernel
theorem cm_X9_readJoined : mChkM m_X9_readJoined = true := by decide +kernel
def s_X9_readLine_142 : List mE := (142, .ireturn, 1, 1, 0, 0, .inl 0, []) :: []
def s_X9_readLine_141 : List mE := (141, .iconst 0, 1, 0, 0, 0, .inl (nI 0), []) :: s_X9_readLine_142
def s_X9_readLine_126 : List mE := (126, .iload_n 1, 1, 1, 0, 0, .inl 0, []) ::
  (127, .ifCond .eq 14, 3, 141, 0, 0, .inl 0, []) ::
  (130, .aload_n 0, 1, 0, 0, 0, .inl 0, []) ::
  (131, .invokevirtual 210, 3, 221, 1, 1, .inl 0, [1452, 8]) ::
  (134, .ifCond .eq 7, 3, 141, 0, 0, .inl 0, []) ::
  (137, .iconst 1, 1, 0, 0, 0, .inl (nI 1), []) ::
  (138, .goto 4, 3, 142, 0, 0, .inl 0, []) :: s_X9_readLine_141
def s_X9_readLine_125 : List mE := (125, .istore_n 1, 1, 1, 0, 0, .inl 0, []) :: s_X9_readLine_126
def s_X9_readLine_120 : List mE := (120, .aload_n 0, 1, 0, 0, 0, .inl 0, []) ::
  (121, .iconst 1, 1, 0, 0, 0, .inl (nI 1), []) ::
  (122, .invokevirtual 140, 3, 140, 2, 1, .inl 0, [1395, 8]) :: s_X9_readLine_125
def s_X9_readLine_104 : List mE := (104, .aload_n 0, 1, 0, 0, 0, .inl 0, []) ::
  (105, .bipush 6, 2, 0, 0, 0, .inl (nI 6), []) ::
  (107, .invokevirtual 189, 3, 189, 2, 1, .inl 0, [1381, 8]) ::
  (110, .ifCond .eq 10, 3, 120, 0, 0, .inl 0, []) ::
  (113, .aload_n 0, 1, 0, 0, 0, .inl 0, []) ::
  (114, .invokevirtual 207, 3, 223, 1, 1, .inl 0, [1448, 8]) ::
  (117, .goto 8, 3, 125, 0, 0, .inl 0, []) :: s_X9_readLine_120
def s_X9_readLine_84 : List mE := (84, .aload_n 0, 1, 0, 0, 0, .inl 0, []) ::
  (85, .iconst 5, 1, 0, 0, 0, .inl (nI 5), []) ::
  (86, .invokevirtual 189, 3, 189, 2, 1, .inl 0, [1381, 8]) ::
  (89, .ifCond .eq 15, 3, 104, 0, 0, .inl 0, []) ::
  (92, .aload_n 0, 1, 0, 0, 0, .inl 0, []) ::
  (93, .sipush 230, 3, 0, 0, 0, .inl (nI 230), []) ::
  (96, .iconst 5, 1, 0, 0, 0, .inl (nI 5), []) ::
  (97, .invokevirtual 201, 3, 232, 3, 1, .inl 0, [1440, 8]) ::
  (100, .istore_n 1, 1, 1, 0, 0, .inl 0, []) ::
  (101, .goto 25, 3, 126, 0, 0, .inl 0, []) :: s_X9_readLine_104
def s_X9_readLine_68 : List mE := (68, .aload_n 0, 1, 0, 0, 0, .inl 0, []) ::
  (69, .iconst 4, 1, 0, 0, 0, .inl (nI 4), []) ::
  (70, .invokevirtual 189, 3, 189, 2, 1, .inl 0, [1381, 8]) ::
  (73, .ifCond .eq 11, 3, 84, 0, 0, .inl 0, []) ::
  (76, .aload_n 0, 1, 0, 0, 0, .inl 0, []) ::
  (77, .invokevirtual 204, 3, 225, 1, 1, .inl 0, [1444, 8]) ::
  (80, .istore_n 1, 1, 1, 0, 0, .inl 0, []) ::
  (81, .goto 45, 3, 126, 0, 0, .inl 0, []) :: s_X9_readLine_84
def s_X9_readLine_48 : List mE := (48, .aload_n 0, 1, 0, 0, 0, .inl 0, []) ::
  (49, .iconst 3, 1, 0, 0, 0, .inl (nI 3), []) ::
  (50, .invokevirtual 189, 3, 189, 2, 1, .inl 0, [1381, 8]) ::
  (53, .ifCond .eq 15, 3, 68, 0, 0, .inl 0, []) ::
  (56, .aload_n 0, 1, 0, 0, 0, .inl 0, []) ::
  (57, .sipush 182, 3, 0, 0, 0, .inl (nI 182), []) ::
  (60, .iconst 4, 1, 0, 0, 0, .inl (nI 4), []) ::
  (61, .invokevirtual 201, 3, 232, 3, 1, .inl 0, [1440, 8]) ::
  (64, .istore_n 1, 1, 1, 0, 0, .inl 0, []) ::
  (65, .goto 61, 3, 126, 0, 0, .inl 0, []) :: s_X9_readLine_68
def s_X9_readLine_32 : List mE := (32, .aload_n 0, 1, 0, 0, 0, .inl 0, []) ::
  (33, .iconst 2, 1, 0, 0, 0, .inl (nI 2), []) ::
  (34, .invokevirtual 189, 3, 189, 2, 1, .inl 0, [1381, 8]) ::
  (37, .ifCond .eq 11, 3, 48, 0, 0, .inl 0, []) ::
  (40, .aload_n 0, 1, 0, 0, 0, .inl 0, []) ::
  (41, .invokevirtual 198, 3, 233, 1, 1, .inl 0, [1421, 8]) ::
  (44, .istore_n 1, 1, 1, 0, 0, .inl 0, []) ::
  (45, .goto 81, 3, 126, 0, 0, .inl 0, []) :: s_X9_readLine_48
def s_X9_readLine_16 : List mE := (16, .aload_n 0, 1, 0, 0, 0, .inl 0, []) ::
  (17, .iconst 1, 1, 0, 0, 0, .inl (nI 1), []) ::
  (18, .invokevirtual 189, 3, 189, 2, 1, .inl 0, [1381, 8]) ::
  (21, .ifCond .eq 11, 3, 32, 0, 0, .inl 0, []) ::
  (24, .aload_n 0, 1, 0, 0, 0, .inl 0, []) ::
  (25, .invokevirtual 195, 3, 234, 1, 1, .inl 0, [1417, 8]) ::
  (28, .istore_n 1, 1, 1, 0, 0, .inl 0, []) ::
  (29, .goto 97, 3, 126, 0, 0, .inl 0, []) :: s_X9_readLine_32
def s_X9_readLine_0 : List mE := (0, .aload_n 0, 1, 0, 0, 0, .inl 0, []) ::
  (1, .iconst 0, 1, 0, 0, 0, .inl (nI 0), []) ::
  (2, .invokevirtual 189, 3, 189, 2, 1, .inl 0, [1381, 8]) ::
  (5, .ifCond .eq 11, 3, 16, 0, 0, .inl 0, []) ::
  (8, .aload_n 0, 1, 0, 0, 0, .inl 0, []) ::
  (9, .invokevirtual 192, 3, 222, 1, 1, .inl 0, [1391, 8]) ::
  (12, .istore_n 1, 1, 1, 0, 0, .inl 0, []) ::
  (13, .goto 113, 3, 126, 0, 0, .inl 0, []) :: s_X9_readLine_16
def k_X9_readLine : List mE := s_X9_readLine_0
set_option maxRecDepth 100000 in
theorem t_X9_readLine_0 : dropTo 0 k_X9_readLine = s_X9_readLine_0 := rfl
set_option maxRecDepth 100000 in
theorem t_X9_readLine_16 : dropTo 16 k_X9_readLine = s_X9_readLine_16 := rfl
set_option maxRecDepth 100000 in
theorem t_X9_readLine_32 : dropTo 32 k_X9_readLine = s_X9_readLine_32 := rfl
set_option maxRecDepth 100000 in
theorem t_X9_readLine_48 : dropTo 48 k_X9_readLine = s_X9_readLine_48 := rfl
set_option maxRecDepth 100000 in
theorem t_X9_readLine_68 : dropTo 68 k_X9_readLine = s_X9_readLine_68 := rfl
set_option maxRecDepth 100000 in
theorem t_X9_readLine_84 : dropTo 84 k_X9_readLine = s_X9_readLine_84 := rfl
set_option maxRecDepth 100000 in
theorem t_X9_readLine_104 : dropTo 104 k_X9_readLine = s_X9_readLine_104 := rfl
set_option maxRecDepth 100000 in
theorem t_X9_readLine_120 : dropTo 120 k_X9_readLine = s_X9_readLine_120 := rfl
set_option maxRecDepth 100000 in
theorem t_X9_readLine_125 : dropTo 125 k_X9_readLine = s_X9_readLine_125 := rfl
set_option maxRecDepth 100000 in
theorem t_X9_readLine_126 : dropTo 126 k_X9_readLine = s_X9_readLine_126 := rfl
set_option maxRecDepth 100000 in
theorem t_X9_readLine_141 : dropTo 141 k_X9_readLine = s_X9_readLine_141 := rfl
set_option maxRecDepth 100000 in
theorem t_X9_readLine_142 : dropTo 142 k_X9_readLine = s_X9_readLine_142 := rfl
theorem ok_X9_readLine : mOkF m_X9_readLine k_X9_readLine = true := by decide +kernel
theorem cm_X9_readLine : mChkM m_X9_readLine = true := by decide +kernel
def s_X9_readMakes_60 : List mE := (60, .aload_n 0, 1, 0, 0, 0, .inl 0, []) ::
  (61, .getfield 16, 3, 8, 15, 3, .inr (.inr (16, 278, 3)), [1211]) ::
  (64, .bipush 30, 2, 0, 0, 0, .inl (nI 30), []) ::
  (66, .iload_n 1, 1, 1, 0, 0, .inl 0, []) ::
  (67, .iadd, 1, 0, 0, 0, .inl 0, []) ::
  (68, .aload_n 0, 1, 0, 0, 0, .inl 0, []) ::
  (69, .getfield 147, 3, 8, 13, 0, .inl 0, [1209]) ::
  (72, .iastore, 1, 0, 0, 0, .inl 0, []) ::
  (73, .iconst 1, 1, 0, 0, 0, .inl (nI 1), []) ::
  (74, .ireturn, 1, 1, 0, 0, .inl 0, []) :: []
def s_X9_readMakes_44 : List mE := (44, .aload_n 0, 1, 0, 0, 0, .inl 0, []) ::
  (45, .invokevirtual 150, 3, 162, 1, 0, .inl 0, [1361, 8]) ::
  (48, .aload_n 0, 1, 0, 0, 0, .inl 0, []) ::
  (49, .iconst 1, 1, 0, 0, 0, .inl (nI 1), []) ::
  (50, .bipush 99, 2, 0, 0, 0, .inl (nI 99), []) ::
  (52, .invokevirtual 171, 3, 229, 3, 1, .inl 0, [1410, 8]) ::
  (55, .ifCond .ne 5, 3, 60, 0, 0, .inl 0, []) ::
  (58, .iconst 0, 1, 0, 0, 0, .inl (nI 0), []) ::
  (59, .ireturn, 1, 1, 0, 0, .inl 0, []) :: s_X9_readMakes_60
def s_X9_readMakes_21 : List mE := (21, .aload_n 0, 1, 0, 0, 0, .inl 0, []) ::
  (22, .getfield 147, 3, 8, 13, 0, .inl 0, [1209]) ::
  (25, .istore_n 1, 1, 1, 0, 0, .inl 0, []) ::
  (26, .aload_n 0, 1, 0, 0, 0, .inl 0, []) ::
  (27, .getfield 16, 3, 8, 15, 3, .inr (.inr (16, 278, 3)), [1211]) ::
  (30, .bipush 30, 2, 0, 0, 0, .inl (nI 30), []) ::
  (32, .iload_n 1, 1, 1, 0, 0, .inl 0, []) ::
  (33, .iadd, 1, 0, 0, 0, .inl 0, []) ::
  (34, .iaload, 1, 0, 0, 0, .inl 0, []) ::
  (35, .ifCond .le 9, 3, 44, 0, 0, .inl 0, []) ::
  (38, .aload_n 0, 1, 0, 0, 0, .inl 0, []) ::
  (39, .iconst 3, 1, 0, 0, 0, .inl (nI 3), []) ::
  (40, .invokevirtual 140, 3, 140, 2, 1, .inl 0, [1395, 8]) ::
  (43, .ireturn, 1, 1, 0, 0, .inl 0, []) :: s_X9_readMakes_44
def s_X9_readMakes_0 : List mE := (0, .aload_n 0, 1, 0, 0, 0, .inl 0, []) ::
  (1, .invokevirtual 150, 3, 162, 1, 0, .inl 0, [1361, 8]) ::
  (4, .aload_n 0, 1, 0, 0, 0, .inl 0, []) ::
  (5, .aload_n 0, 1, 0, 0, 0, .inl 0, []) ::
  (6, .getfield 29, 3, 8, 19, 3, .inr (.inr (17, 14, 7)), [1215]) ::
  (9, .aload_n 0, 1, 0, 0, 0, .inl 0, []) ::
  (10, .getfield 16, 3, 8, 15, 3, .inr (.inr (16, 278, 3)), [1211]) ::
  (13, .invokevirtual 175, 3, 187, 3, 1, .inl 0, [1429, 8]) ::
  (16, .ifCond .ne 5, 3, 21, 0, 0, .inl 0, []) ::
  (19, .iconst 0, 1, 0, 0, 0, .inl (nI 0), []) ::
  (20, .ireturn, 1, 1, 0, 0, .inl 0, []) :: s_X9_readMakes_21
def k_X9_readMakes : List mE := s_X9_readMakes_0
set_option maxRecDepth 100000 in
theorem t_X9_readMakes_0 : dropTo 0 k_X9_readMakes = s_X9_readMakes_0 := rfl
set_option maxRecDepth 100000 in
theorem t_X9_readMakes_21 : dropTo 21 k_X9_readMakes = s_X9_readMakes_21 := rfl
set_option maxRecDepth 100000 in
theorem t_X9_readMakes_44 : dropTo 44 k_X9_readMakes = s_X9_readMakes_44 := rfl
set_option maxRecDepth 100000 in
theorem t_X9_readMakes_60 : dropTo 60 k_X9_readMakes = s_X9_readMakes_60 := rfl
theorem ok_X9_readMakes : mOkF m_X9_readMakes k_X9_readMakes = true := by decide +kernel
theorem cm_X9_readMakes : mChkM m_X9_readMakes = true := by decide +kernel
def s_X9_readNamed_41 : List mE := (41, .aload_n 0, 1, 0, 0, 0, .inl 0, []) ::
  (42, .aload_n 0, 1, 0, 0, 0, .inl 0, []) ::
  (43, .bipush 50, 2, 0, 0, 0, .inl (nI 50), []) ::
  (45, .iload_n 1, 1, 1, 0, 0, .inl 0, []) ::
  (46, .iadd, 1, 0, 0, 0, .inl 0, []) ::
  (47, .aload_n 0, 1, 0, 0, 0, .inl 0, []) ::
  (48, .getfield 147, 3, 8, 13, 0, .inl 0, [1209]) ::
  (51, .iconst 0, 1, 0, 0, 0, .inl (nI 0), []) ::
  (52, .iconst 0, 1, 0, 0, 0, .inl (nI 0), []) ::
  (53, .invokevirtual 371, 3, 198, 5, 1, .inl 0, [1775, 8]) ::
  (56, .putfield 368, 3, 8, 44, 0, .inl 0, [1240]) ::
  (59, .aload_n 0, 1, 0, 0, 0, .inl 0, []) ::
  (60, .invokevirtual 150, 3, 162, 1, 0, .inl 0, [1361, 8]) ::
  (63, .iconst 1, 1, 0, 0, 0, .inl (nI 1), []) ::
  (64, .ireturn, 1, 1, 0, 0, .inl 0, []) :: []
def s_X9_readNamed_39 : List mE := (39, .iconst 0, 1, 0, 0, 0, .inl (nI 0), []) ::
  (40, .ireturn, 1, 1, 0, 0, .inl 0, []) :: s_X9_readNamed_41
def s_X9_readNamed_24 : List mE := (24, .aload_n 0, 1, 0, 0, 0, .inl 0, []) ::
  (25, .aload_n 0, 1, 0, 0, 0, .inl 0, []) ::
  (26, .getfield 25, 3, 8, 18, 3, .inr (.inr (17, 14, 6)), [1214]) ::
  (29, .aload_n 0, 1, 0, 0, 0, .inl 0, []) ::
  (30, .getfield 13, 3, 8, 14, 3, .inr (.inr (16, 925, 2)), [1210]) ::
  (33, .invokevirtual 179, 3, 186, 3, 1, .inl 0, [1433, 8]) ::
  (36, .ifCond .ne 5, 3, 41, 0, 0, .inl 0, []) :: s_X9_readNamed_39
def s_X9_readNamed_0 : List mE := (0, .iload_n 1, 1, 1, 0, 0, .inl 0, []) ::
  (1, .bipush 14, 2, 0, 0, 0, .inl (nI 14), []) ::
  (3, .if_icmp .ne 21, 3, 24, 0, 0, .inl 0, []) ::
  (6, .aload_n 0, 1, 0, 0, 0, .inl 0, []) ::
  (7, .aload_n 0, 1, 0, 0, 0, .inl 0, []) ::
  (8, .getfield 25, 3, 8, 18, 3, .inr (.inr (17, 14, 6)), [1214]) ::
  (11, .aload_n 0, 1, 0, 0, 0, .inl 0, []) ::
  (12, .getfield 13, 3, 8, 14, 3, .inr (.inr (16, 925, 2)), [1210]) ::
  (15, .invokevirtual 175, 3, 187, 3, 1, .inl 0, [1429, 8]) ::
  (18, .ifCond .eq 21, 3, 39, 0, 0, .inl 0, []) ::
  (21, .goto 20, 3, 41, 0, 0, .inl 0, []) :: s_X9_readNamed_24
def k_X9_readNamed : List mE := s_X9_readNamed_0
set_option maxRecDepth 100000 in
theorem t_X9_readNamed_0 : dropTo 0 k_X9_readNamed = s_X9_readNamed_0 := rfl
set_option maxRecDepth 100000 in
theorem t_X9_readNamed_24 : dropTo 24 k_X9_readNamed = s_X9_readNamed_24 := rfl
set_option maxRecDepth 100000 in
theorem t_X9_readNamed_39 : dropTo 39 k_X9_readNamed = s_X9_readNamed_39 := rfl
set_option maxRecDepth 100000 in
theorem t_X9_readNamed_41 : dropTo 41 k_X9_readNamed = s_X9_readNamed_41 := rfl
theorem ok_X9_readNamed : mOkF m_X9_readNamed k_X9_readNamed = true := by decide +kernel
theorem cm_X9_readNamed : mChkM m_X9_readNamed = true := by decide +kernel
def s_X9_readNew_64 : List mE := (64, .aload_n 0, 1, 0, 0, 0, .inl 0, []) ::
  (65, .getfield 29, 3, 8, 19, 3, .inr (.inr (17, 14, 7)), [1215]) ::
  (68, .iload_n 1, 1, 1, 0, 0, .inl 0, []) ::
  (69, .aload_n 0, 1, 0, 0, 0, .inl 0, []) ::
  (70, .getfield 111, 3, 8, 12, 1, .inl 0, [1208]) ::
  (73, .lastore, 1, 0, 0, 0, .inl 0, []) ::
  (74, .aload_n 0, 1, 0, 0, 0, .inl 0, []) ::
  (75, .invokevirtual 150, 3, 162, 1, 0, .inl 0, [1361, 8]) ::
  (78, .iconst 1, 1, 0, 0, 0, .inl (nI 1), []) ::
  (79, .ireturn, 1, 1, 0, 0, .inl 0, []) :: []
def s_X9_readNew_58 : List mE := (58, .aload_n 0, 1, 0, 0, 0, .inl 0, []) ::
  (59, .iconst 3, 1, 0, 0, 0, .inl (nI 3), []) ::
  (60, .invokevirtual 140, 3, 140, 2, 1, .inl 0, [1395, 8]) ::
  (63, .ireturn, 1, 1, 0, 0, .inl 0, []) :: s_X9_readNew_64
def s_X9_readNew_13 : List mE := (13, .aload_n 0, 1, 0, 0, 0, .inl 0, []) ::
  (14, .getfield 29, 3, 8, 19, 3, .inr (.inr (17, 14, 7)), [1215]) ::
  (17, .iconst 0, 1, 0, 0, 0, .inl (nI 0), []) ::
  (18, .aload_n 0, 1, 0, 0, 0, .inl 0, []) ::
  (19, .getfield 16, 3, 8, 15, 3, .inr (.inr (16, 278, 3)), [1211]) ::
  (22, .iconst 0, 1, 0, 0, 0, .inl (nI 0), []) ::
  (23, .iaload, 1, 0, 0, 0, .inl 0, []) ::
  (24, .aload_n 0, 1, 0, 0, 0, .inl 0, []) ::
  (25, .getfield 111, 3, 8, 12, 1, .inl 0, [1208]) ::
  (28, .invokestatic 164, 3, 161, 4, 1, .inl 0, [1407]) ::
  (31, .iconst (-1), 1, 0, 0, 0, .inl (-1), []) ::
  (32, .if_icmp .ne 26, 3, 58, 0, 0, .inl 0, []) ::
  (35, .aload_n 0, 1, 0, 0, 0, .inl 0, []) ::
  (36, .getfield 29, 3, 8, 19, 3, .inr (.inr (17, 14, 7)), [1215]) ::
  (39, .bipush 6, 2, 0, 0, 0, .inl (nI 6), []) ::
  (41, .aload_n 0, 1, 0, 0, 0, .inl 0, []) ::
  (42, .getfield 16, 3, 8, 15, 3, .inr (.inr (16, 278, 3)), [1211]) ::
  (45, .iconst 1, 1, 0, 0, 0, .inl (nI 1), []) ::
  (46, .iaload, 1, 0, 0, 0, .inl 0, []) ::
  (47, .aload_n 0, 1, 0, 0, 0, .inl 0, []) ::
  (48, .getfield 111, 3, 8, 12, 1, .inl 0, [1208]) ::
  (51, .invokestatic 164, 3, 161, 4, 1, .inl 0, [1407]) ::
  (54, .iconst (-1), 1, 0, 0, 0, .inl (-1), []) ::
  (55, .if_icmp .eq 9, 3, 64, 0, 0, .inl 0, []) :: s_X9_readNew_58
def s_X9_readNew_0 : List mE := (0, .aload_n 0, 1, 0, 0, 0, .inl 0, []) ::
  (1, .invokevirtual 160, 3, 179, 1, 1, .inl 0, [1403, 8]) ::
  (4, .ifCond .ne 9, 3, 13, 0, 0, .inl 0, []) ::
  (7, .aload_n 0, 1, 0, 0, 0, .inl 0, []) ::
  (8, .iconst 1, 1, 0, 0, 0, .inl (nI 1), []) ::
  (9, .invokevirtual 140, 3, 140, 2, 1, .inl 0, [1395, 8]) ::
  (12, .ireturn, 1, 1, 0, 0, .inl 0, []) :: s_X9_readNew_13
def k_X9_readNew : List mE := s_X9_readNew_0
set_option maxRecDepth 100000 in
theorem t_X9_readNew_0 : dropTo 0 k_X9_readNew = s_X9_readNew_0 := rfl
set_option maxRecDepth 100000 in
theorem t_X9_readNew_13 : dropTo 13 k_X9_readNew = s_X9_readNew_13 := rfl
set_option maxRecDepth 100000 in
theorem t_X9_readNew_58 : dropTo 58 k_X9_readNew = s_X9_readNew_58 := rfl
set_option maxRecDepth 100000 in
theorem t_X9_readNew_64 : dropTo 64 k_X9_readNew = s_X9_readNew_64 := rfl
theorem ok_X9_readNew : mOkF m_X9_readNew k_X9_readNew = true := by decide +kernel
theorem cm_X9_readNew : mChkM m_X9_readNew = true := by decide +kernel
def s_X9_readNot_9 : List mE := (9, .aload_n 0, 1, 0, 0, 0, .inl 0, []) ::
  (10, .aload_n 0, 1, 0, 0, 0, .inl 0, []) ::
  (11, .iconst 1, 1, 0, 0, 0, .inl (nI 1), []) ::
  (12, .aload_n 0, 1, 0, 0, 0, .inl 0, []) ::
  (13, .getfield 368, 3, 8, 44, 0, .inl 0, [1240]) ::
  (16, .iconst 0, 1, 0, 0, 0, .inl (nI 0), []) ::
  (17, .iconst 0, 1, 0, 0, 0, .inl (nI 0), []) ::
  (18, .invokevirtual 371, 3, 198, 5, 1, .inl 0, [1775, 8]) ::
  (21, .putfield 368, 3, 8, 44, 0, .inl 0, [1240]) ::
  (24, .iconst 1, 1, 0, 0, 0, .inl (nI 1), []) ::
  (25, .ireturn, 1, 1, 0, 0, .inl 0, []) :: []
def s_X9_readNot_0 : List mE := (0, .aload_n 0, 1, 0, 0, 0, .inl 0, []) ::
  (1, .invokevirtual 375, 3, 230, 1, 1, .inl 0, [1763, 8]) ::
  (4, .ifCond .ne 5, 3, 9, 0, 0, .inl 0, []) ::
  (7, .iconst 0, 1, 0, 0, 0, .inl (nI 0), []) ::
  (8, .ireturn, 1, 1, 0, 0, .inl 0, []) :: s_X9_readNot_9
def k_X9_readNot : List mE := s_X9_readNot_0
set_option maxRecDepth 100000 in
theorem t_X9_readNot_0 : dropTo 0 k_X9_readNot = s_X9_readNot_0 := rfl
set_option maxRecDepth 100000 in
theorem t_X9_readNot_9 : dropTo 9 k_X9_readNot = s_X9_readNot_9 := rfl
theorem ok_X9_readNot : mOkF m_X9_readNot k_X9_readNot = true := by decide +kernel
theorem cm_X9_readNot : mChkM m_X9_readNot = true := by decide +kernel
def s_X9_readNumber_32 : List mE := (32, .aload_n 0, 1, 0, 0, 0, .inl 0, []) ::
  (33, .aload_n 0, 1, 0, 0, 0, .inl 0, []) ::
  (34, .getfield 115, 3, 8, 8, 0, .inl 0, [1204]) ::
  (37, .putfield 147, 3, 8, 13, 0, .inl 0, [1209]) ::
  (40, .aload_n 0, 1, 0, 0, 0, .inl 0, []) ::
  (41, .invokevirtual 150, 3, 162, 1, 0, .inl 0, [1361, 8]) ::
  (44, .iconst 1, 1, 0, 0, 0, .inl (nI 1), []) ::
  (45, .ireturn, 1, 1, 0, 0, .inl 0, []) :: []
def s_X9_readNumber_14 : List mE := (14, .aload_n 0, 1, 0, 0, 0, .inl 0, []) ::
  (15, .getfield 115, 3, 8, 8, 0, .inl 0, [1204]) ::
  (18, .iload_n 1, 1, 1, 0, 0, .inl 0, []) ::
  (19, .iload_n 2, 1, 2, 0, 0, .inl 0, []) ::
  (20, .invokestatic 143, 3, 177, 3, 1, .inl 0, [1414]) ::
  (23, .ifCond .ne 9, 3, 32, 0, 0, .inl 0, []) ::
  (26, .aload_n 0, 1, 0, 0, 0, .inl 0, []) ::
  (27, .iconst 2, 1, 0, 0, 0, .inl (nI 2), []) ::
  (28, .invokevirtual 140, 3, 140, 2, 1, .inl 0, [1395, 8]) ::
  (31, .ireturn, 1, 1, 0, 0, .inl 0, []) :: s_X9_readNumber_32
def s_X9_readNumber_0 : List mE := (0, .aload_n 0, 1, 0, 0, 0, .inl 0, []) ::
  (1, .getfield 98, 3, 8, 7, 0, .inl 0, [1203]) ::
  (4, .iconst 3, 1, 0, 0, 0, .inl (nI 3), []) ::
  (5, .if_icmp .eq 9, 3, 14, 0, 0, .inl 0, []) ::
  (8, .aload_n 0, 1, 0, 0, 0, .inl 0, []) ::
  (9, .iconst 1, 1, 0, 0, 0, .inl (nI 1), []) ::
  (10, .invokevirtual 140, 3, 140, 2, 1, .inl 0, [1395, 8]) ::
  (13, .ireturn, 1, 1, 0, 0, .inl 0, []) :: s_X9_readNumber_14
def k_X9_readNumber : List mE := s_X9_readNumber_0
set_option maxRecDepth 100000 in
theorem t_X9_readNumber_0 : dropTo 0 k_X9_readNumber = s_X9_readNumber_0 := rfl
set_option maxRecDepth 100000 in
theorem t_X9_readNumber_14 : dropTo 14 k_X9_readNumber = s_X9_readNumber_14 := rfl
set_option maxRecDepth 100000 in
theorem t_X9_readNumber_32 : dropTo 32 k_X9_readNumber = s_X9_readNumber_32 := rfl
theorem ok_X9_readNumber : mOkF m_X9_readNumber k_X9_readNumber = true := by decide +kernel
theorem cm_X9_readNumber : mChkM m_X9_readNumber = true := by decide +kernel
def s_X9_readOne_137 : List mE := (137, .istore_n 3, 1, 3, 0, 0, .inl 0, []) ::
  (138, .aload_n 0, 1, 0, 0, 0, .inl 0, []) ::
  (139, .dup, 1, 0, 0, 0, .inl 0, []) ::
  (140, .getfield 381, 3, 8, 43, 0, .inl 0, [1239]) ::
  (143, .iconst 1, 1, 0, 0, 0, .inl (nI 1), []) ::
  (144, .isub, 1, 0, 0, 0, .inl 0, []) ::
  (145, .putfield 381, 3, 8, 43, 0, .inl 0, [1239]) ::
  (148, .iload_n 3, 1, 3, 0, 0, .inl 0, []) ::
  (149, .ireturn, 1, 1, 0, 0, .inl 0, []) :: []
def s_X9_readOne_132 : List mE := (132, .aload_n 0, 1, 0, 0, 0, .inl 0, []) ::
  (133, .iload_n 2, 1, 2, 0, 0, .inl 0, []) ::
  (134, .invokevirtual 393, 3, 220, 2, 1, .inl 0, [1783, 8]) :: s_X9_readOne_137
def s_X9_readOne_118 : List mE := (118, .iload_n 2, 1, 2, 0, 0, .inl 0, []) ::
  (119, .bipush 15, 2, 0, 0, 0, .inl (nI 15), []) ::
  (121, .if_icmp .ge 11, 3, 132, 0, 0, .inl 0, []) ::
  (124, .aload_n 0, 1, 0, 0, 0, .inl 0, []) ::
  (125, .iload_n 2, 1, 2, 0, 0, .inl 0, []) ::
  (126, .invokevirtual 390, 3, 226, 2, 1, .inl 0, [1779, 8]) ::
  (129, .goto 8, 3, 137, 0, 0, .inl 0, []) :: s_X9_readOne_132
def s_X9_readOne_105 : List mE := (105, .iload_n 2, 1, 2, 0, 0, .inl 0, []) ::
  (106, .bipush 11, 2, 0, 0, 0, .inl (nI 11), []) ::
  (108, .if_icmp .ne 10, 3, 118, 0, 0, .inl 0, []) ::
  (111, .aload_n 0, 1, 0, 0, 0, .inl 0, []) ::
  (112, .invokevirtual 387, 3, 228, 1, 1, .inl 0, [1771, 8]) ::
  (115, .goto 22, 3, 137, 0, 0, .inl 0, []) :: s_X9_readOne_118
def s_X9_readOne_70 : List mE := (70, .aload_n 0, 1, 0, 0, 0, .inl 0, []) ::
  (71, .dup, 1, 0, 0, 0, .inl 0, []) ::
  (72, .getfield 378, 3, 8, 42, 0, .inl 0, [1238]) ::
  (75, .iconst 1, 1, 0, 0, 0, .inl (nI 1), []) ::
  (76, .iadd, 1, 0, 0, 0, .inl 0, []) ::
  (77, .putfield 378, 3, 8, 42, 0, .inl 0, [1238]) ::
  (80, .aload_n 0, 1, 0, 0, 0, .inl 0, []) ::
  (81, .dup, 1, 0, 0, 0, .inl 0, []) ::
  (82, .getfield 381, 3, 8, 43, 0, .inl 0, [1239]) ::
  (85, .iconst 1, 1, 0, 0, 0, .inl (nI 1), []) ::
  (86, .iadd, 1, 0, 0, 0, .inl 0, []) ::
  (87, .putfield 381, 3, 8, 43, 0, .inl 0, [1239]) ::
  (90, .aload_n 0, 1, 0, 0, 0, .inl 0, []) ::
  (91, .invokevirtual 150, 3, 162, 1, 0, .inl 0, [1361, 8]) ::
  (94, .iload_n 1, 1, 1, 0, 0, .inl 0, []) ::
  (95, .ifCond .eq 10, 3, 105, 0, 0, .inl 0, []) ::
  (98, .aload_n 0, 1, 0, 0, 0, .inl 0, []) ::
  (99, .invokevirtual 384, 3, 218, 1, 1, .inl 0, [1767, 8]) ::
  (102, .goto 35, 3, 137, 0, 0, .inl 0, []) :: s_X9_readOne_105
def s_X9_readOne_64 : List mE := (64, .aload_n 0, 1, 0, 0, 0, .inl 0, []) ::
  (65, .iconst 4, 1, 0, 0, 0, .inl (nI 4), []) ::
  (66, .invokevirtual 140, 3, 140, 2, 1, .inl 0, [1395, 8]) ::
  (69, .ireturn, 1, 1, 0, 0, .inl 0, []) :: s_X9_readOne_70
def s_X9_readOne_46 : List mE := (46, .aload_n 0, 1, 0, 0, 0, .inl 0, []) ::
  (47, .getfield 378, 3, 8, 42, 0, .inl 0, [1238]) ::
  (50, .bipush 20, 2, 0, 0, 0, .inl (nI 20), []) ::
  (52, .if_icmp .eq 12, 3, 64, 0, 0, .inl 0, []) ::
  (55, .aload_n 0, 1, 0, 0, 0, .inl 0, []) ::
  (56, .getfield 381, 3, 8, 43, 0, .inl 0, [1239]) ::
  (59, .bipush 8, 2, 0, 0, 0, .inl (nI 8), []) ::
  (61, .if_icmp .ne 9, 3, 70, 0, 0, .inl 0, []) :: s_X9_readOne_64
def s_X9_readOne_30 : List mE := (30, .iload_n 1, 1, 1, 0, 0, .inl 0, []) ::
  (31, .ifCond .ne 15, 3, 46, 0, 0, .inl 0, []) ::
  (34, .iload_n 2, 1, 2, 0, 0, .inl 0, []) ::
  (35, .bipush 18, 2, 0, 0, 0, .inl (nI 18), []) ::
  (37, .if_icmp .le 9, 3, 46, 0, 0, .inl 0, []) ::
  (40, .aload_n 0, 1, 0, 0, 0, .inl 0, []) ::
  (41, .iconst 1, 1, 0, 0, 0, .inl (nI 1), []) ::
  (42, .invokevirtual 140, 3, 140, 2, 1, .inl 0, [1395, 8]) ::
  (45, .ireturn, 1, 1, 0, 0, .inl 0, []) :: s_X9_readOne_46
def s_X9_readOne_10 : List mE := (10, .iload_n 2, 1, 2, 0, 0, .inl 0, []) ::
  (11, .bipush 18, 2, 0, 0, 0, .inl (nI 18), []) ::
  (13, .if_icmp .gt 17, 3, 30, 0, 0, .inl 0, []) ::
  (16, .aload_n 0, 1, 0, 0, 0, .inl 0, []) ::
  (17, .iload_n 2, 1, 2, 0, 0, .inl 0, []) ::
  (18, .invokevirtual 189, 3, 189, 2, 1, .inl 0, [1381, 8]) ::
  (21, .ifCond .ne 9, 3, 30, 0, 0, .inl 0, []) ::
  (24, .iinc 2 1, 3, 2, 0, 0, .inl (nI 1), []) ::
  (27, .goto (-17), 3, 10, 0, 0, .inl 0, []) :: s_X9_readOne_30
def s_X9_readOne_0 : List mE := (0, .aload_n 0, 1, 0, 0, 0, .inl 0, []) ::
  (1, .bipush 40, 2, 0, 0, 0, .inl (nI 40), []) ::
  (3, .invokevirtual 153, 3, 182, 2, 1, .inl 0, [1456, 8]) ::
  (6, .istore_n 1, 1, 1, 0, 0, .inl 0, []) ::
  (7, .bipush 11, 2, 0, 0, 0, .inl (nI 11), []) ::
  (9, .istore_n 2, 1, 2, 0, 0, .inl 0, []) :: s_X9_readOne_10
def k_X9_readOne : List mE := s_X9_readOne_0
set_option maxRecDepth 100000 in
theorem t_X9_readOne_0 : dropTo 0 k_X9_readOne = s_X9_readOne_0 := rfl
set_option maxRecDepth 100000 in
theorem t_X9_readOne_10 : dropTo 10 k_X9_readOne = s_X9_readOne_10 := rfl
set_option maxRecDepth 100000 in
theorem t_X9_readOne_30 : dropTo 30 k_X9_readOne = s_X9_readOne_30 := rfl
set_option maxRecDepth 100000 in
theorem t_X9_readOne_46 : dropTo 46 k_X9_readOne = s_X9_readOne_46 := rfl
set_option maxRecDepth 100000 in
theorem t_X9_readOne_64 : dropTo 64 k_X9_readOne = s_X9_readOne_64 := rfl
set_option maxRecDepth 100000 in
theorem t_X9_readOne_70 : dropTo 70 k_X9_readOne = s_X9_readOne_70 := rfl
set_option maxRecDepth 100000 in
theorem t_X9_readOne_105 : dropTo 105 k_X9_readOne = s_X9_readOne_105 := rfl
set_option maxRecDepth 100000 in
theorem t_X9_readOne_118 : dropTo 118 k_X9_readOne = s_X9_readOne_118 := rfl
set_option maxRecDepth 100000 in
theorem t_X9_readOne_132 : dropTo 132 k_X9_readOne = s_X9_readOne_132 := rfl
set_option maxRecDepth 100000 in
theorem t_X9_readOne_137 : dropTo 137 k_X9_readOne = s_X9_readOne_137 := rfl
theorem ok_X9_readOne : mOkF m_X9_readOne k_X9_readOne = true := by decide +kernel
theorem cm_X9_readOne : mChkM m_X9_readOne = true := by decide +kernel
def s_X9_readOr_51 : List mE := (51, .aload_n 0, 1, 0, 0, 0, .inl 0, []) ::
  (52, .iload_n 1, 1, 1, 0, 0, .inl 0, []) ::
  (53, .putfield 368, 3, 8, 44, 0, .inl 0, [1240]) ::
  (56, .iconst 1, 1, 0, 0, 0, .inl (nI 1), []) ::
  (57, .ireturn, 1, 1, 0, 0, .inl 0, []) :: []
def s_X9_readOr_36 : List mE := (36, .aload_n 0, 1, 0, 0, 0, .inl 0, []) ::
  (37, .iconst 3, 1, 0, 0, 0, .inl (nI 3), []) ::
  (38, .iload_n 1, 1, 1, 0, 0, .inl 0, []) ::
  (39, .aload_n 0, 1, 0, 0, 0, .inl 0, []) ::
  (40, .getfield 368, 3, 8, 44, 0, .inl 0, [1240]) ::
  (43, .iconst 0, 1, 0, 0, 0, .inl (nI 0), []) ::
  (44, .invokevirtual 371, 3, 198, 5, 1, .inl 0, [1775, 8]) ::
  (47, .istore_n 1, 1, 1, 0, 0, .inl 0, []) ::
  (48, .goto (-34), 3, 14, 0, 0, .inl 0, []) :: s_X9_readOr_51
def s_X9_readOr_14 : List mE := (14, .aload_n 0, 1, 0, 0, 0, .inl 0, []) ::
  (15, .bipush 9, 2, 0, 0, 0, .inl (nI 9), []) ::
  (17, .invokevirtual 189, 3, 189, 2, 1, .inl 0, [1381, 8]) ::
  (20, .ifCond .eq 31, 3, 51, 0, 0, .inl 0, []) ::
  (23, .aload_n 0, 1, 0, 0, 0, .inl 0, []) ::
  (24, .invokevirtual 150, 3, 162, 1, 0, .inl 0, [1361, 8]) ::
  (27, .aload_n 0, 1, 0, 0, 0, .inl 0, []) ::
  (28, .invokevirtual 365, 3, 217, 1, 1, .inl 0, [1759, 8]) ::
  (31, .ifCond .ne 5, 3, 36, 0, 0, .inl 0, []) ::
  (34, .iconst 0, 1, 0, 0, 0, .inl (nI 0), []) ::
  (35, .ireturn, 1, 1, 0, 0, .inl 0, []) :: s_X9_readOr_36
def s_X9_readOr_9 : List mE := (9, .aload_n 0, 1, 0, 0, 0, .inl 0, []) ::
  (10, .getfield 368, 3, 8, 44, 0, .inl 0, [1240]) ::
  (13, .istore_n 1, 1, 1, 0, 0, .inl 0, []) :: s_X9_readOr_14
def s_X9_readOr_0 : List mE := (0, .aload_n 0, 1, 0, 0, 0, .inl 0, []) ::
  (1, .invokevirtual 365, 3, 217, 1, 1, .inl 0, [1759, 8]) ::
  (4, .ifCond .ne 5, 3, 9, 0, 0, .inl 0, []) ::
  (7, .iconst 0, 1, 0, 0, 0, .inl (nI 0), []) ::
  (8, .ireturn, 1, 1, 0, 0, .inl 0, []) :: s_X9_readOr_9
def k_X9_readOr : List mE := s_X9_readOr_0
set_option maxRecDepth 100000 in
theorem t_X9_readOr_0 : dropTo 0 k_X9_readOr = s_X9_readOr_0 := rfl
set_option maxRecDepth 100000 in
theorem t_X9_readOr_9 : dropTo 9 k_X9_readOr = s_X9_readOr_9 := rfl
set_option maxRecDepth 100000 in
theorem t_X9_readOr_14 : dropTo 14 k_X9_readOr = s_X9_readOr_14 := rfl
set_option maxRecDepth 100000 in
theorem t_X9_readOr_36 : dropTo 36 k_X9_readOr = s_X9_readOr_36 := rfl
set_option maxRecDepth 100000 in
theorem t_X9_readOr_51 : dropTo 51 k_X9_readOr = s_X9_readOr_51 := rfl
theorem ok_X9_readOr : mOkF m_X9_readOr k_X9_readOr = true := by decide +kernel
theorem cm_X9_readOr : mChkM m_X9_readOr = true := by decide +kernel
