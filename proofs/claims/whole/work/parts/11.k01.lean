def s_X4_hasAll_59 : List mE := (59, .iload_n 3, 1, 3, 0, 0, .inl 0, []) ::
  (60, .ireturn, 1, 1, 0, 0, .inl 0, []) :: []
def s_X4_hasAll_53 : List mE := (53, .iinc 4 1, 3, 4, 0, 0, .inl (nI 1), []) ::
  (56, .goto (-51), 3, 5, 0, 0, .inl 0, []) :: s_X4_hasAll_59
def s_X4_hasAll_5 : List mE := (5, .iload 4, 2, 4, 0, 0, .inl 0, []) ::
  (7, .aload_n 1, 1, 1, 0, 0, .inl 0, []) ::
  (8, .getfield 72, 3, 0, 0, 0, .inl 0, [245]) ::
  (11, .if_icmp .ge 48, 3, 59, 0, 0, .inl 0, []) ::
  (14, .iload_n 2, 1, 2, 0, 0, .inl 0, []) ::
  (15, .bipush 6, 2, 0, 0, 0, .inl (nI 6), []) ::
  (17, .imul, 1, 0, 0, 0, .inl 0, []) ::
  (18, .iload 4, 2, 4, 0, 0, .inl 0, []) ::
  (20, .iadd, 1, 0, 0, 0, .inl 0, []) ::
  (21, .istore 5, 2, 5, 0, 0, .inl 0, []) ::
  (23, .aload_n 0, 1, 0, 0, 0, .inl 0, []) ::
  (24, .getfield 15, 3, 3, 1, 3, .inr (.inr (16, 48, 1)), [382]) ::
  (27, .iload 5, 2, 5, 0, 0, .inl 0, []) ::
  (29, .iaload, 1, 0, 0, 0, .inl 0, []) ::
  (30, .aload_n 1, 1, 1, 0, 0, .inl 0, []) ::
  (31, .getfield 75, 3, 0, 10, 3, .inr (.inr (16, 48, 7)), [272]) ::
  (34, .iload 5, 2, 5, 0, 0, .inl 0, []) ::
  (36, .iaload, 1, 0, 0, 0, .inl 0, []) ::
  (37, .if_icmp .ge 16, 3, 53, 0, 0, .inl 0, []) ::
  (40, .aload_n 0, 1, 0, 0, 0, .inl 0, []) ::
  (41, .getfield 25, 3, 3, 4, 3, .inr (.inr (16, 48, 4)), [387]) ::
  (44, .iload 5, 2, 5, 0, 0, .inl 0, []) ::
  (46, .dup2, 1, 0, 0, 0, .inl 0, []) ::
  (47, .iaload, 1, 0, 0, 0, .inl 0, []) ::
  (48, .iconst 1, 1, 0, 0, 0, .inl (nI 1), []) ::
  (49, .iadd, 1, 0, 0, 0, .inl 0, []) ::
  (50, .iastore, 1, 0, 0, 0, .inl 0, []) ::
  (51, .iconst 0, 1, 0, 0, 0, .inl (nI 0), []) ::
  (52, .istore_n 3, 1, 3, 0, 0, .inl 0, []) :: s_X4_hasAll_53
def s_X4_hasAll_0 : List mE := (0, .iconst 1, 1, 0, 0, 0, .inl (nI 1), []) ::
  (1, .istore_n 3, 1, 3, 0, 0, .inl 0, []) ::
  (2, .iconst 0, 1, 0, 0, 0, .inl (nI 0), []) ::
  (3, .istore 4, 2, 4, 0, 0, .inl 0, []) :: s_X4_hasAll_5
def k_X4_hasAll : List mE := s_X4_hasAll_0
set_option maxRecDepth 100000 in
theorem t_X4_hasAll_0 : dropTo 0 k_X4_hasAll = s_X4_hasAll_0 := rfl
set_option maxRecDepth 100000 in
theorem t_X4_hasAll_5 : dropTo 5 k_X4_hasAll = s_X4_hasAll_5 := rfl
set_option maxRecDepth 100000 in
theorem t_X4_hasAll_53 : dropTo 53 k_X4_hasAll = s_X4_hasAll_53 := rfl
set_option maxRecDepth 100000 in
theorem t_X4_hasAll_59 : dropTo 59 k_X4_hasAll = s_X4_hasAll_59 := rfl
theorem ok_X4_hasAll : mOkF m_X4_hasAll k_X4_hasAll = true := by decide +kernel
theorem cm_X4_hasAll : mChkM m_X4_hasAll = true := by decide +kernel
def s_X4_inVats_30 : List mE := (30, .iload_n 2, 1, 2, 0, 0, .inl 0, []) ::
  (31, .ireturn, 1, 0, 0, 0, .inl 0, []) :: []
def s_X4_inVats_4 : List mE := (4, .iload_n 3, 1, 3, 0, 0, .inl 0, []) ::
  (5, .bipush 8, 2, 0, 0, 0, .inl (nI 8), []) ::
  (7, .if_icmp .ge 23, 3, 30, 0, 0, .inl 0, []) ::
  (10, .iload_n 2, 1, 2, 0, 0, .inl 0, []) ::
  (11, .aload_n 0, 1, 0, 0, 0, .inl 0, []) ::
  (12, .getfield 15, 3, 3, 1, 3, .inr (.inr (16, 48, 1)), [382]) ::
  (15, .iload_n 3, 1, 3, 0, 0, .inl 0, []) ::
  (16, .bipush 6, 2, 0, 0, 0, .inl (nI 6), []) ::
  (18, .imul, 1, 0, 0, 0, .inl 0, []) ::
  (19, .iload_n 1, 1, 1, 0, 0, .inl 0, []) ::
  (20, .iadd, 1, 0, 0, 0, .inl 0, []) ::
  (21, .iaload, 1, 0, 0, 0, .inl 0, []) ::
  (22, .iadd, 1, 0, 0, 0, .inl 0, []) ::
  (23, .istore_n 2, 1, 2, 0, 0, .inl 0, []) ::
  (24, .iinc 3 1, 3, 3, 0, 0, .inl (nI 1), []) ::
  (27, .goto (-23), 3, 4, 0, 0, .inl 0, []) :: s_X4_inVats_30
def s_X4_inVats_0 : List mE := (0, .iconst 0, 1, 0, 0, 0, .inl (nI 0), []) ::
  (1, .istore_n 2, 1, 2, 0, 0, .inl 0, []) ::
  (2, .iconst 0, 1, 0, 0, 0, .inl (nI 0), []) ::
  (3, .istore_n 3, 1, 3, 0, 0, .inl 0, []) :: s_X4_inVats_4
def k_X4_inVats : List mE := s_X4_inVats_0
set_option maxRecDepth 100000 in
theorem t_X4_inVats_0 : dropTo 0 k_X4_inVats = s_X4_inVats_0 := rfl
set_option maxRecDepth 100000 in
theorem t_X4_inVats_4 : dropTo 4 k_X4_inVats = s_X4_inVats_4 := rfl
set_option maxRecDepth 100000 in
theorem t_X4_inVats_30 : dropTo 30 k_X4_inVats = s_X4_inVats_30 := rfl
theorem ok_X4_inVats : mOkF m_X4_inVats k_X4_inVats = true := by decide +kernel
theorem cm_X4_inVats : mChkM m_X4_inVats = true := by decide +kernel
def s_X4_isLike_62 : List mE := (62, .iconst 1, 1, 0, 0, 0, .inl (nI 1), []) ::
  (63, .ireturn, 1, 1, 0, 0, .inl 0, []) :: []
def s_X4_isLike_56 : List mE := (56, .iinc 2 1, 3, 2, 0, 0, .inl (nI 1), []) ::
  (59, .goto (-26), 3, 33, 0, 0, .inl 0, []) :: s_X4_isLike_62
def s_X4_isLike_33 : List mE := (33, .iload_n 2, 1, 2, 0, 0, .inl 0, []) ::
  (34, .bipush 6, 2, 0, 0, 0, .inl (nI 6), []) ::
  (36, .if_icmp .ge 26, 3, 62, 0, 0, .inl 0, []) ::
  (39, .aload_n 0, 1, 0, 0, 0, .inl 0, []) ::
  (40, .getfield 28, 3, 3, 5, 3, .inr (.inr (16, 6, 5)), [389]) ::
  (43, .iload_n 2, 1, 2, 0, 0, .inl 0, []) ::
  (44, .iaload, 1, 0, 0, 0, .inl 0, []) ::
  (45, .aload_n 1, 1, 1, 0, 0, .inl 0, []) ::
  (46, .getfield 28, 3, 3, 5, 3, .inr (.inr (16, 6, 5)), [389]) ::
  (49, .iload_n 2, 1, 2, 0, 0, .inl 0, []) ::
  (50, .iaload, 1, 0, 0, 0, .inl 0, []) ::
  (51, .if_icmp .eq 5, 3, 56, 0, 0, .inl 0, []) ::
  (54, .iconst 0, 1, 0, 0, 0, .inl (nI 0), []) ::
  (55, .ireturn, 1, 1, 0, 0, .inl 0, []) :: s_X4_isLike_56
def s_X4_isLike_31 : List mE := (31, .iconst 0, 1, 0, 0, 0, .inl (nI 0), []) ::
  (32, .istore_n 2, 1, 2, 0, 0, .inl 0, []) :: s_X4_isLike_33
def s_X4_isLike_25 : List mE := (25, .iinc 2 1, 3, 2, 0, 0, .inl (nI 1), []) ::
  (28, .goto (-26), 3, 2, 0, 0, .inl 0, []) :: s_X4_isLike_31
def s_X4_isLike_2 : List mE := (2, .iload_n 2, 1, 2, 0, 0, .inl 0, []) ::
  (3, .bipush 48, 2, 0, 0, 0, .inl (nI 48), []) ::
  (5, .if_icmp .ge 26, 3, 31, 0, 0, .inl 0, []) ::
  (8, .aload_n 0, 1, 0, 0, 0, .inl 0, []) ::
  (9, .getfield 15, 3, 3, 1, 3, .inr (.inr (16, 48, 1)), [382]) ::
  (12, .iload_n 2, 1, 2, 0, 0, .inl 0, []) ::
  (13, .iaload, 1, 0, 0, 0, .inl 0, []) ::
  (14, .aload_n 1, 1, 1, 0, 0, .inl 0, []) ::
  (15, .getfield 15, 3, 3, 1, 3, .inr (.inr (16, 48, 1)), [382]) ::
  (18, .iload_n 2, 1, 2, 0, 0, .inl 0, []) ::
  (19, .iaload, 1, 0, 0, 0, .inl 0, []) ::
  (20, .if_icmp .eq 5, 3, 25, 0, 0, .inl 0, []) ::
  (23, .iconst 0, 1, 0, 0, 0, .inl (nI 0), []) ::
  (24, .ireturn, 1, 1, 0, 0, .inl 0, []) :: s_X4_isLike_25
def s_X4_isLike_0 : List mE := (0, .iconst 0, 1, 0, 0, 0, .inl (nI 0), []) ::
  (1, .istore_n 2, 1, 2, 0, 0, .inl 0, []) :: s_X4_isLike_2
def k_X4_isLike : List mE := s_X4_isLike_0
set_option maxRecDepth 100000 in
theorem t_X4_isLike_0 : dropTo 0 k_X4_isLike = s_X4_isLike_0 := rfl
set_option maxRecDepth 100000 in
theorem t_X4_isLike_2 : dropTo 2 k_X4_isLike = s_X4_isLike_2 := rfl
set_option maxRecDepth 100000 in
theorem t_X4_isLike_25 : dropTo 25 k_X4_isLike = s_X4_isLike_25 := rfl
set_option maxRecDepth 100000 in
theorem t_X4_isLike_31 : dropTo 31 k_X4_isLike = s_X4_isLike_31 := rfl
set_option maxRecDepth 100000 in
theorem t_X4_isLike_33 : dropTo 33 k_X4_isLike = s_X4_isLike_33 := rfl
set_option maxRecDepth 100000 in
theorem t_X4_isLike_56 : dropTo 56 k_X4_isLike = s_X4_isLike_56 := rfl
set_option maxRecDepth 100000 in
theorem t_X4_isLike_62 : dropTo 62 k_X4_isLike = s_X4_isLike_62 := rfl
theorem ok_X4_isLike : mOkF m_X4_isLike k_X4_isLike = true := by decide +kernel
theorem cm_X4_isLike : mChkM m_X4_isLike = true := by decide +kernel
def s_X4_isSteady_159 : List mE := (159, .iconst 1, 1, 0, 0, 0, .inl (nI 1), []) ::
  (160, .ireturn, 1, 1, 0, 0, .inl 0, []) :: []
def s_X4_isSteady_153 : List mE := (153, .iinc 3 1, 3, 3, 0, 0, .inl (nI 1), []) ::
  (156, .goto (-146), 3, 10, 0, 0, .inl 0, []) :: s_X4_isSteady_159
def s_X4_isSteady_121 : List mE := (121, .aload_n 0, 1, 0, 0, 0, .inl 0, []) ::
  (122, .getfield 28, 3, 3, 5, 3, .inr (.inr (16, 6, 5)), [389]) ::
  (125, .iload 5, 2, 5, 0, 0, .inl 0, []) ::
  (127, .aload_n 0, 1, 0, 0, 0, .inl 0, []) ::
  (128, .getfield 28, 3, 3, 5, 3, .inr (.inr (16, 6, 5)), [389]) ::
  (131, .iload 5, 2, 5, 0, 0, .inl 0, []) ::
  (133, .iaload, 1, 0, 0, 0, .inl 0, []) ::
  (134, .aload_n 1, 1, 1, 0, 0, .inl 0, []) ::
  (135, .getfield 118, 3, 0, 6, 3, .inr (.inr (16, 6, 3)), [259]) ::
  (138, .iload 5, 2, 5, 0, 0, .inl 0, []) ::
  (140, .iaload, 1, 0, 0, 0, .inl 0, []) ::
  (141, .isub, 1, 0, 0, 0, .inl 0, []) ::
  (142, .iconst 0, 1, 0, 0, 0, .inl (nI 0), []) ::
  (143, .invokestatic 142, 3, 0, 2, 11, .inl 0, [934]) ::
  (146, .iastore, 1, 0, 0, 0, .inl 0, []) ::
  (147, .iinc 5 1, 3, 5, 0, 0, .inl (nI 1), []) ::
  (150, .goto (-113), 3, 37, 0, 0, .inl 0, []) :: s_X4_isSteady_153
def s_X4_isSteady_96 : List mE := (96, .aload_n 0, 1, 0, 0, 0, .inl 0, []) ::
  (97, .getfield 28, 3, 3, 5, 3, .inr (.inr (16, 6, 5)), [389]) ::
  (100, .iload 5, 2, 5, 0, 0, .inl 0, []) ::
  (102, .dup2, 1, 0, 0, 0, .inl 0, []) ::
  (103, .iaload, 1, 0, 0, 0, .inl 0, []) ::
  (104, .aload_n 1, 1, 1, 0, 0, .inl 0, []) ::
  (105, .getfield 128, 3, 0, 13, 3, .inr (.inr (16, 48, 10)), [285]) ::
  (108, .iload 6, 2, 6, 0, 0, .inl 0, []) ::
  (110, .iaload, 1, 0, 0, 0, .inl 0, []) ::
  (111, .aload_n 1, 1, 1, 0, 0, .inl 0, []) ::
  (112, .getfield 75, 3, 0, 10, 3, .inr (.inr (16, 48, 7)), [272]) ::
  (115, .iload 6, 2, 6, 0, 0, .inl 0, []) ::
  (117, .iaload, 1, 0, 0, 0, .inl 0, []) ::
  (118, .isub, 1, 0, 0, 0, .inl 0, []) ::
  (119, .iadd, 1, 0, 0, 0, .inl 0, []) ::
  (120, .iastore, 1, 0, 0, 0, .inl 0, []) :: s_X4_isSteady_121
def s_X4_isSteady_37 : List mE := (37, .iload 5, 2, 5, 0, 0, .inl 0, []) ::
  (39, .aload_n 1, 1, 1, 0, 0, .inl 0, []) ::
  (40, .getfield 72, 3, 0, 0, 0, .inl 0, [245]) ::
  (43, .if_icmp .ge 110, 3, 153, 0, 0, .inl 0, []) ::
  (46, .iload_n 3, 1, 3, 0, 0, .inl 0, []) ::
  (47, .bipush 6, 2, 0, 0, 0, .inl (nI 6), []) ::
  (49, .imul, 1, 0, 0, 0, .inl 0, []) ::
  (50, .iload 5, 2, 5, 0, 0, .inl 0, []) ::
  (52, .iadd, 1, 0, 0, 0, .inl 0, []) ::
  (53, .istore 6, 2, 6, 0, 0, .inl 0, []) ::
  (55, .aload_n 0, 1, 0, 0, 0, .inl 0, []) ::
  (56, .getfield 28, 3, 3, 5, 3, .inr (.inr (16, 6, 5)), [389]) ::
  (59, .iload 5, 2, 5, 0, 0, .inl 0, []) ::
  (61, .dup2, 1, 0, 0, 0, .inl 0, []) ::
  (62, .iaload, 1, 0, 0, 0, .inl 0, []) ::
  (63, .aload_n 1, 1, 1, 0, 0, .inl 0, []) ::
  (64, .getfield 125, 3, 0, 14, 3, .inr (.inr (16, 48, 11)), [288]) ::
  (67, .iload 6, 2, 6, 0, 0, .inl 0, []) ::
  (69, .iaload, 1, 0, 0, 0, .inl 0, []) ::
  (70, .iadd, 1, 0, 0, 0, .inl 0, []) ::
  (71, .iastore, 1, 0, 0, 0, .inl 0, []) ::
  (72, .iload 4, 2, 4, 0, 0, .inl 0, []) ::
  (74, .ifCond .eq 47, 3, 121, 0, 0, .inl 0, []) ::
  (77, .aload_n 0, 1, 0, 0, 0, .inl 0, []) ::
  (78, .getfield 28, 3, 3, 5, 3, .inr (.inr (16, 6, 5)), [389]) ::
  (81, .iload 5, 2, 5, 0, 0, .inl 0, []) ::
  (83, .iaload, 1, 0, 0, 0, .inl 0, []) ::
  (84, .aload_n 1, 1, 1, 0, 0, .inl 0, []) ::
  (85, .getfield 75, 3, 0, 10, 3, .inr (.inr (16, 48, 7)), [272]) ::
  (88, .iload 6, 2, 6, 0, 0, .inl 0, []) ::
  (90, .iaload, 1, 0, 0, 0, .inl 0, []) ::
  (91, .if_icmp .ge 5, 3, 96, 0, 0, .inl 0, []) ::
  (94, .iconst 0, 1, 0, 0, 0, .inl (nI 0), []) ::
  (95, .ireturn, 1, 1, 0, 0, .inl 0, []) :: s_X4_isSteady_96
def s_X4_isSteady_32 : List mE := (32, .istore 4, 2, 4, 0, 0, .inl 0, []) ::
  (34, .iconst 0, 1, 0, 0, 0, .inl (nI 0), []) ::
  (35, .istore 5, 2, 5, 0, 0, .inl 0, []) :: s_X4_isSteady_37
def s_X4_isSteady_31 : List mE := (31, .iconst 0, 1, 0, 0, 0, .inl (nI 0), []) :: s_X4_isSteady_32
def s_X4_isSteady_10 : List mE := (10, .iload_n 3, 1, 3, 0, 0, .inl 0, []) ::
  (11, .aload_n 1, 1, 1, 0, 0, .inl 0, []) ::
  (12, .getfield 69, 3, 0, 1, 0, .inl 0, [248]) ::
  (15, .if_icmp .ge 144, 3, 159, 0, 0, .inl 0, []) ::
  (18, .iload_n 2, 1, 2, 0, 0, .inl 0, []) ::
  (19, .iload_n 3, 1, 3, 0, 0, .inl 0, []) ::
  (20, .ishr, 1, 0, 0, 0, .inl 0, []) ::
  (21, .iconst 1, 1, 0, 0, 0, .inl (nI 1), []) ::
  (22, .iand, 1, 0, 0, 0, .inl 0, []) ::
  (23, .iconst 1, 1, 0, 0, 0, .inl (nI 1), []) ::
  (24, .if_icmp .ne 7, 3, 31, 0, 0, .inl 0, []) ::
  (27, .iconst 1, 1, 0, 0, 0, .inl (nI 1), []) ::
  (28, .goto 4, 3, 32, 0, 0, .inl 0, []) :: s_X4_isSteady_31
def s_X4_isSteady_0 : List mE := (0, .aload_n 0, 1, 0, 0, 0, .inl 0, []) ::
  (1, .getfield 28, 3, 3, 5, 3, .inr (.inr (16, 6, 5)), [389]) ::
  (4, .iconst 0, 1, 0, 0, 0, .inl (nI 0), []) ::
  (5, .invokestatic 55, 3, 1, 2, 0, .inl 0, [706]) ::
  (8, .iconst 0, 1, 0, 0, 0, .inl (nI 0), []) ::
  (9, .istore_n 3, 1, 3, 0, 0, .inl 0, []) :: s_X4_isSteady_10
def k_X4_isSteady : List mE := s_X4_isSteady_0
set_option maxRecDepth 100000 in
theorem t_X4_isSteady_0 : dropTo 0 k_X4_isSteady = s_X4_isSteady_0 := rfl
set_option maxRecDepth 100000 in
theorem t_X4_isSteady_10 : dropTo 10 k_X4_isSteady = s_X4_isSteady_10 := rfl
set_option maxRecDepth 100000 in
theorem t_X4_isSteady_31 : dropTo 31 k_X4_isSteady = s_X4_isSteady_31 := rfl
set_option maxRecDepth 100000 in
theorem t_X4_isSteady_32 : dropTo 32 k_X4_isSteady = s_X4_isSteady_32 := rfl
set_option maxRecDepth 100000 in
theorem t_X4_isSteady_37 : dropTo 37 k_X4_isSteady = s_X4_isSteady_37 := rfl
set_option maxRecDepth 100000 in
theorem t_X4_isSteady_96 : dropTo 96 k_X4_isSteady = s_X4_isSteady_96 := rfl
set_option maxRecDepth 100000 in
theorem t_X4_isSteady_121 : dropTo 121 k_X4_isSteady = s_X4_isSteady_121 := rfl
set_option maxRecDepth 100000 in
theorem t_X4_isSteady_153 : dropTo 153 k_X4_isSteady = s_X4_isSteady_153 := rfl
set_option maxRecDepth 100000 in
theorem t_X4_isSteady_159 : dropTo 159 k_X4_isSteady = s_X4_isSteady_159 := rfl
theorem ok_X4_isSteady : mOkF m_X4_isSteady k_X4_isSteady = true := by decide +kernel
theorem cm_X4_isSteady : mChkM m_X4_isSteady = true := by decide +kernel
def s_X4_lessen_33 : List mE := (33, .return_, 1, 0, 0, 0, .inl 0, []) :: []
def s_X4_lessen_0 : List mE := (0, .aload_n 0, 1, 0, 0, 0, .inl 0, []) ::
  (1, .getfield 28, 3, 3, 5, 3, .inr (.inr (16, 6, 5)), [389]) ::
  (4, .iload_n 1, 1, 1, 0, 0, .inl 0, []) ::
  (5, .dup2, 1, 0, 0, 0, .inl 0, []) ::
  (6, .iaload, 1, 0, 0, 0, .inl 0, []) ::
  (7, .iload_n 2, 1, 2, 0, 0, .inl 0, []) ::
  (8, .isub, 1, 0, 0, 0, .inl 0, []) ::
  (9, .iastore, 1, 0, 0, 0, .inl 0, []) ::
  (10, .aload_n 0, 1, 0, 0, 0, .inl 0, []) ::
  (11, .getfield 28, 3, 3, 5, 3, .inr (.inr (16, 6, 5)), [389]) ::
  (14, .iload_n 1, 1, 1, 0, 0, .inl 0, []) ::
  (15, .iaload, 1, 0, 0, 0, .inl 0, []) ::
  (16, .ifCond .ne 17, 3, 33, 0, 0, .inl 0, []) ::
  (19, .aload_n 0, 1, 0, 0, 0, .inl 0, []) ::
  (20, .getfield 31, 3, 3, 6, 3, .inr (.inr (16, 6, 6)), [391]) ::
  (23, .iload_n 1, 1, 1, 0, 0, .inl 0, []) ::
  (24, .iconst 0, 1, 0, 0, 0, .inl (nI 0), []) ::
  (25, .iastore, 1, 0, 0, 0, .inl 0, []) ::
  (26, .aload_n 0, 1, 0, 0, 0, .inl 0, []) ::
  (27, .getfield 34, 3, 3, 7, 3, .inr (.inr (16, 6, 7)), [392]) ::
  (30, .iload_n 1, 1, 1, 0, 0, .inl 0, []) ::
  (31, .iconst 0, 1, 0, 0, 0, .inl (nI 0), []) ::
  (32, .iastore, 1, 0, 0, 0, .inl 0, []) :: s_X4_lessen_33
def k_X4_lessen : List mE := s_X4_lessen_0
set_option maxRecDepth 100000 in
theorem t_X4_lessen_0 : dropTo 0 k_X4_lessen = s_X4_lessen_0 := rfl
set_option maxRecDepth 100000 in
theorem t_X4_lessen_33 : dropTo 33 k_X4_lessen = s_X4_lessen_33 := rfl
theorem ok_X4_lessen : mOkF m_X4_lessen k_X4_lessen = true := by decide +kernel
theorem cm_X4_lessen : mChkM m_X4_lessen = true := by decide +kernel
def s_X4_letOut_45 : List mE := (45, .return_, 1, 0, 0, 0, .inl 0, []) :: []
def s_X4_letOut_2 : List mE := (2, .iload_n 2, 1, 2, 0, 0, .inl 0, []) ::
  (3, .aload_n 1, 1, 1, 0, 0, .inl 0, []) ::
  (4, .getfield 72, 3, 0, 0, 0, .inl 0, [245]) ::
  (7, .if_icmp .ge 38, 3, 45, 0, 0, .inl 0, []) ::
  (10, .aload_n 0, 1, 0, 0, 0, .inl 0, []) ::
  (11, .getfield 46, 3, 3, 11, 3, .inr (.inr (16, 36, 11)), [401]) ::
  (14, .bipush 30, 2, 0, 0, 0, .inl (nI 30), []) ::
  (16, .iload_n 2, 1, 2, 0, 0, .inl 0, []) ::
  (17, .iadd, 1, 0, 0, 0, .inl 0, []) ::
  (18, .dup2, 1, 0, 0, 0, .inl 0, []) ::
  (19, .iaload, 1, 0, 0, 0, .inl 0, []) ::
  (20, .aload_n 0, 1, 0, 0, 0, .inl 0, []) ::
  (21, .getfield 28, 3, 3, 5, 3, .inr (.inr (16, 6, 5)), [389]) ::
  (24, .iload_n 2, 1, 2, 0, 0, .inl 0, []) ::
  (25, .iaload, 1, 0, 0, 0, .inl 0, []) ::
  (26, .iadd, 1, 0, 0, 0, .inl 0, []) ::
  (27, .iastore, 1, 0, 0, 0, .inl 0, []) ::
  (28, .aload_n 0, 1, 0, 0, 0, .inl 0, []) ::
  (29, .iload_n 2, 1, 2, 0, 0, .inl 0, []) ::
  (30, .aload_n 0, 1, 0, 0, 0, .inl 0, []) ::
  (31, .getfield 28, 3, 3, 5, 3, .inr (.inr (16, 6, 5)), [389]) ::
  (34, .iload_n 2, 1, 2, 0, 0, .inl 0, []) ::
  (35, .iaload, 1, 0, 0, 0, .inl 0, []) ::
  (36, .invokevirtual 121, 3, 39, 3, 0, .inl 0, [744, 3]) ::
  (39, .iinc 2 1, 3, 2, 0, 0, .inl (nI 1), []) ::
  (42, .goto (-40), 3, 2, 0, 0, .inl 0, []) :: s_X4_letOut_45
def s_X4_letOut_0 : List mE := (0, .iconst 0, 1, 0, 0, 0, .inl (nI 0), []) ::
  (1, .istore_n 2, 1, 2, 0, 0, .inl 0, []) :: s_X4_letOut_2
def k_X4_letOut : List mE := s_X4_letOut_0
set_option maxRecDepth 100000 in
theorem t_X4_letOut_0 : dropTo 0 k_X4_letOut = s_X4_letOut_0 := rfl
set_option maxRecDepth 100000 in
theorem t_X4_letOut_2 : dropTo 2 k_X4_letOut = s_X4_letOut_2 := rfl
set_option maxRecDepth 100000 in
theorem t_X4_letOut_45 : dropTo 45 k_X4_letOut = s_X4_letOut_45 := rfl
theorem ok_X4_letOut : mOkF m_X4_letOut k_X4_letOut = true := by decide +kernel
theorem cm_X4_letOut : mChkM m_X4_letOut = true := by decide +kernel
def s_X4_loseOnWay_51 : List mE := (51, .return_, 1, 0, 0, 0, .inl 0, []) :: []
def s_X4_loseOnWay_2 : List mE := (2, .iload_n 2, 1, 2, 0, 0, .inl 0, []) ::
  (3, .aload_n 1, 1, 1, 0, 0, .inl 0, []) ::
  (4, .getfield 72, 3, 0, 0, 0, .inl 0, [245]) ::
  (7, .if_icmp .ge 44, 3, 51, 0, 0, .inl 0, []) ::
  (10, .aload_n 0, 1, 0, 0, 0, .inl 0, []) ::
  (11, .getfield 28, 3, 3, 5, 3, .inr (.inr (16, 6, 5)), [389]) ::
  (14, .iload_n 2, 1, 2, 0, 0, .inl 0, []) ::
  (15, .iaload, 1, 0, 0, 0, .inl 0, []) ::
  (16, .aload_n 1, 1, 1, 0, 0, .inl 0, []) ::
  (17, .getfield 118, 3, 0, 6, 3, .inr (.inr (16, 6, 3)), [259]) ::
  (20, .iload_n 2, 1, 2, 0, 0, .inl 0, []) ::
  (21, .iaload, 1, 0, 0, 0, .inl 0, []) ::
  (22, .invokestatic 81, 3, 0, 2, 10, .inl 0, [727]) ::
  (25, .istore_n 3, 1, 3, 0, 0, .inl 0, []) ::
  (26, .aload_n 0, 1, 0, 0, 0, .inl 0, []) ::
  (27, .getfield 46, 3, 3, 11, 3, .inr (.inr (16, 36, 11)), [401]) ::
  (30, .bipush 24, 2, 0, 0, 0, .inl (nI 24), []) ::
  (32, .iload_n 2, 1, 2, 0, 0, .inl 0, []) ::
  (33, .iadd, 1, 0, 0, 0, .inl 0, []) ::
  (34, .dup2, 1, 0, 0, 0, .inl 0, []) ::
  (35, .iaload, 1, 0, 0, 0, .inl 0, []) ::
  (36, .iload_n 3, 1, 3, 0, 0, .inl 0, []) ::
  (37, .iadd, 1, 0, 0, 0, .inl 0, []) ::
  (38, .iastore, 1, 0, 0, 0, .inl 0, []) ::
  (39, .aload_n 0, 1, 0, 0, 0, .inl 0, []) ::
  (40, .iload_n 2, 1, 2, 0, 0, .inl 0, []) ::
  (41, .iload_n 3, 1, 3, 0, 0, .inl 0, []) ::
  (42, .invokevirtual 121, 3, 39, 3, 0, .inl 0, [744, 3]) ::
  (45, .iinc 2 1, 3, 2, 0, 0, .inl (nI 1), []) ::
  (48, .goto (-46), 3, 2, 0, 0, .inl 0, []) :: s_X4_loseOnWay_51
def s_X4_loseOnWay_0 : List mE := (0, .iconst 0, 1, 0, 0, 0, .inl (nI 0), []) ::
  (1, .istore_n 2, 1, 2, 0, 0, .inl 0, []) :: s_X4_loseOnWay_2
def k_X4_loseOnWay : List mE := s_X4_loseOnWay_0
set_option maxRecDepth 100000 in
theorem t_X4_loseOnWay_0 : dropTo 0 k_X4_loseOnWay = s_X4_loseOnWay_0 := rfl
set_option maxRecDepth 100000 in
theorem t_X4_loseOnWay_2 : dropTo 2 k_X4_loseOnWay = s_X4_loseOnWay_2 := rfl
set_option maxRecDepth 100000 in
theorem t_X4_loseOnWay_51 : dropTo 51 k_X4_loseOnWay = s_X4_loseOnWay_51 := rfl
theorem ok_X4_loseOnWay : mOkF m_X4_loseOnWay k_X4_loseOnWay = true := by decide +kernel
theorem cm_X4_loseOnWay : mChkM m_X4_loseOnWay = true := by decide +kernel
def s_X4_pass_134 : List mE := (134, .aload_n 0, 1, 0, 0, 0, .inl 0, []) ::
  (135, .dup, 1, 0, 0, 0, .inl 0, []) ::
  (136, .getfield 9, 3, 3, 0, 0, .inl 0, [378]) ::
  (139, .iconst 1, 1, 0, 0, 0, .inl (nI 1), []) ::
  (140, .iadd, 1, 0, 0, 0, .inl 0, []) ::
  (141, .putfield 9, 3, 3, 0, 0, .inl 0, [378]) ::
  (144, .return_, 1, 0, 0, 0, .inl 0, []) :: []
def s_X4_pass_122 : List mE := (122, .aload_n 1, 1, 1, 0, 0, .inl 0, []) ::
  (123, .getfield 91, 3, 0, 3, 2, .inl 0, [253]) ::
  (126, .ifCond .ne 8, 3, 134, 0, 0, .inl 0, []) ::
  (129, .aload_n 0, 1, 0, 0, 0, .inl 0, []) ::
  (130, .aload_n 1, 1, 1, 0, 0, .inl 0, []) ::
  (131, .invokevirtual 115, 3, 40, 2, 0, .inl 0, [760, 3]) :: s_X4_pass_134
def s_X4_pass_116 : List mE := (116, .iinc 4 1, 3, 4, 0, 0, .inl (nI 1), []) ::
  (119, .goto (-96), 3, 23, 0, 0, .inl 0, []) :: s_X4_pass_122
def s_X4_pass_100 : List mE := (100, .iload 4, 2, 4, 0, 0, .inl 0, []) ::
  (102, .aload_n 1, 1, 1, 0, 0, .inl 0, []) ::
  (103, .getfield 69, 3, 0, 1, 0, .inl 0, [248]) ::
  (106, .iconst 1, 1, 0, 0, 0, .inl (nI 1), []) ::
  (107, .isub, 1, 0, 0, 0, .inl 0, []) ::
  (108, .if_icmp .ge 8, 3, 116, 0, 0, .inl 0, []) ::
  (111, .aload_n 0, 1, 0, 0, 0, .inl 0, []) ::
  (112, .aload_n 1, 1, 1, 0, 0, .inl 0, []) ::
  (113, .invokevirtual 95, 3, 41, 2, 0, .inl 0, [740, 3]) :: s_X4_pass_116
def s_X4_pass_66 : List mE := (66, .istore 5, 2, 5, 0, 0, .inl 0, []) ::
  (68, .iload 5, 2, 5, 0, 0, .inl 0, []) ::
  (70, .ifCond .eq 30, 3, 100, 0, 0, .inl 0, []) ::
  (73, .iload_n 2, 1, 2, 0, 0, .inl 0, []) ::
  (74, .iload 4, 2, 4, 0, 0, .inl 0, []) ::
  (76, .ishr, 1, 0, 0, 0, .inl 0, []) ::
  (77, .iconst 1, 1, 0, 0, 0, .inl (nI 1), []) ::
  (78, .iand, 1, 0, 0, 0, .inl 0, []) ::
  (79, .iconst 1, 1, 0, 0, 0, .inl (nI 1), []) ::
  (80, .if_icmp .ne 20, 3, 100, 0, 0, .inl 0, []) ::
  (83, .aload_n 0, 1, 0, 0, 0, .inl 0, []) ::
  (84, .aload_n 1, 1, 1, 0, 0, .inl 0, []) ::
  (85, .iload 4, 2, 4, 0, 0, .inl 0, []) ::
  (87, .invokevirtual 108, 3, 35, 3, 1, .inl 0, [752, 3]) ::
  (90, .ifCond .eq 10, 3, 100, 0, 0, .inl 0, []) ::
  (93, .aload_n 0, 1, 0, 0, 0, .inl 0, []) ::
  (94, .aload_n 1, 1, 1, 0, 0, .inl 0, []) ::
  (95, .iload 4, 2, 4, 0, 0, .inl 0, []) ::
  (97, .invokevirtual 112, 3, 34, 3, 0, .inl 0, [756, 3]) :: s_X4_pass_100
def s_X4_pass_65 : List mE := (65, .iconst 0, 1, 0, 0, 0, .inl (nI 0), []) :: s_X4_pass_66
def s_X4_pass_23 : List mE := (23, .iload 4, 2, 4, 0, 0, .inl 0, []) ::
  (25, .aload_n 1, 1, 1, 0, 0, .inl 0, []) ::
  (26, .getfield 69, 3, 0, 1, 0, .inl 0, [248]) ::
  (29, .if_icmp .ge 93, 3, 122, 0, 0, .inl 0, []) ::
  (32, .aload_n 0, 1, 0, 0, 0, .inl 0, []) ::
  (33, .aload_n 1, 1, 1, 0, 0, .inl 0, []) ::
  (34, .iload 4, 2, 4, 0, 0, .inl 0, []) ::
  (36, .invokevirtual 99, 3, 32, 3, 0, .inl 0, [748, 3]) ::
  (39, .aload_n 1, 1, 1, 0, 0, .inl 0, []) ::
  (40, .getfield 102, 3, 0, 7, 3, .inr (.inr (16, 8, 4)), [263]) ::
  (43, .iload 4, 2, 4, 0, 0, .inl 0, []) ::
  (45, .iaload, 1, 0, 0, 0, .inl 0, []) ::
  (46, .iload_n 3, 1, 3, 0, 0, .inl 0, []) ::
  (47, .if_icmp .gt 18, 3, 65, 0, 0, .inl 0, []) ::
  (50, .iload_n 3, 1, 3, 0, 0, .inl 0, []) ::
  (51, .aload_n 1, 1, 1, 0, 0, .inl 0, []) ::
  (52, .getfield 105, 3, 0, 8, 3, .inr (.inr (16, 8, 5)), [266]) ::
  (55, .iload 4, 2, 4, 0, 0, .inl 0, []) ::
  (57, .iaload, 1, 0, 0, 0, .inl 0, []) ::
  (58, .if_icmp .gt 7, 3, 65, 0, 0, .inl 0, []) ::
  (61, .iconst 1, 1, 0, 0, 0, .inl (nI 1), []) ::
  (62, .goto 4, 3, 66, 0, 0, .inl 0, []) :: s_X4_pass_65
def s_X4_pass_20 : List mE := (20, .iconst 0, 1, 0, 0, 0, .inl (nI 0), []) ::
  (21, .istore 4, 2, 4, 0, 0, .inl 0, []) :: s_X4_pass_23
def s_X4_pass_0 : List mE := (0, .aload_n 0, 1, 0, 0, 0, .inl 0, []) ::
  (1, .getfield 9, 3, 3, 0, 0, .inl 0, [378]) ::
  (4, .bipush 12, 2, 0, 0, 0, .inl (nI 12), []) ::
  (6, .irem, 1, 0, 0, 0, .inl 0, []) ::
  (7, .istore_n 3, 1, 3, 0, 0, .inl 0, []) ::
  (8, .aload_n 1, 1, 1, 0, 0, .inl 0, []) ::
  (9, .getfield 91, 3, 0, 3, 2, .inl 0, [253]) ::
  (12, .ifCond .eq 8, 3, 20, 0, 0, .inl 0, []) ::
  (15, .aload_n 0, 1, 0, 0, 0, .inl 0, []) ::
  (16, .aload_n 1, 1, 1, 0, 0, .inl 0, []) ::
  (17, .invokevirtual 95, 3, 41, 2, 0, .inl 0, [740, 3]) :: s_X4_pass_20
def k_X4_pass : List mE := s_X4_pass_0
set_option maxRecDepth 100000 in
theorem t_X4_pass_0 : dropTo 0 k_X4_pass = s_X4_pass_0 := rfl
set_option maxRecDepth 100000 in
theorem t_X4_pass_20 : dropTo 20 k_X4_pass = s_X4_pass_20 := rfl
set_option maxRecDepth 100000 in
theorem t_X4_pass_23 : dropTo 23 k_X4_pass = s_X4_pass_23 := rfl
set_option maxRecDepth 100000 in
theorem t_X4_pass_65 : dropTo 65 k_X4_pass = s_X4_pass_65 := rfl
set_option maxRecDepth 100000 in
theorem t_X4_pass_66 : dropTo 66 k_X4_pass = s_X4_pass_66 := rfl
set_option maxRecDepth 100000 in
theorem t_X4_pass_100 : dropTo 100 k_X4_pass = s_X4_pass_100 := rfl
set_option maxRecDepth 100000 in
theorem t_X4_pass_116 : dropTo 116 k_X4_pass = s_X4_pass_116 := rfl
set_option maxRecDepth 100000 in
theorem t_X4_pass_122 : dropTo 122 k_X4_pass = s_X4_pass_122 := rfl
set_option maxRecDepth 100000 in
theorem t_X4_pass_134 : dropTo 134 k_X4_pass = s_X4_pass_134 := rfl
theorem ok_X4_pass : mOkF m_X4_pass k_X4_pass = true := by decide +kernel
theorem cm_X4_pass : mChkM m_X4_pass = true := by decide +kernel
def s_X4_passMany_21 : List mE := (21, .return_, 1, 0, 0, 0, .inl 0, []) :: []
def s_X4_passMany_3 : List mE := (3, .iload 4, 2, 4, 0, 0, .inl 0, []) ::
  (5, .iload_n 3, 1, 3, 0, 0, .inl 0, []) ::
  (6, .if_icmp .ge 15, 3, 21, 0, 0, .inl 0, []) ::
  (9, .aload_n 0, 1, 0, 0, 0, .inl 0, []) ::
  (10, .aload_n 1, 1, 1, 0, 0, .inl 0, []) ::
  (11, .iload_n 2, 1, 2, 0, 0, .inl 0, []) ::
  (12, .invokevirtual 87, 3, 42, 3, 0, .inl 0, [849, 3]) ::
  (15, .iinc 4 1, 3, 4, 0, 0, .inl (nI 1), []) ::
  (18, .goto (-15), 3, 3, 0, 0, .inl 0, []) :: s_X4_passMany_21
def s_X4_passMany_0 : List mE := (0, .iconst 0, 1, 0, 0, 0, .inl (nI 0), []) ::
  (1, .istore 4, 2, 4, 0, 0, .inl 0, []) :: s_X4_passMany_3
def k_X4_passMany : List mE := s_X4_passMany_0
set_option maxRecDepth 100000 in
theorem t_X4_passMany_0 : dropTo 0 k_X4_passMany = s_X4_passMany_0 := rfl
set_option maxRecDepth 100000 in
theorem t_X4_passMany_3 : dropTo 3 k_X4_passMany = s_X4_passMany_3 := rfl
set_option maxRecDepth 100000 in
theorem t_X4_passMany_21 : dropTo 21 k_X4_passMany = s_X4_passMany_21 := rfl
theorem ok_X4_passMany : mOkF m_X4_passMany k_X4_passMany = true := by decide +kernel
theorem cm_X4_passMany : mChkM m_X4_passMany = true := by decide +kernel
def s_X4_startAsTold_0 : List mE := (0, .aload_n 0, 1, 0, 0, 0, .inl 0, []) ::
  (1, .invokevirtual 61, 3, 45, 1, 0, .inl 0, [702, 3]) ::
  (4, .aload_n 1, 1, 1, 0, 0, .inl 0, []) ::
  (5, .getfield 64, 3, 0, 12, 3, .inr (.inr (16, 48, 9)), [280]) ::
  (8, .iconst 0, 1, 0, 0, 0, .inl (nI 0), []) ::
  (9, .aload_n 0, 1, 0, 0, 0, .inl 0, []) ::
  (10, .getfield 15, 3, 3, 1, 3, .inr (.inr (16, 48, 1)), [382]) ::
  (13, .iconst 0, 1, 0, 0, 0, .inl (nI 0), []) ::
  (14, .bipush 48, 2, 0, 0, 0, .inl (nI 48), []) ::
  (16, .invokestatic 49, 3, 0, 5, 9, .inl 0, [707]) ::
  (19, .return_, 1, 0, 0, 0, .inl 0, []) :: []
def k_X4_startAsTold : List mE := s_X4_startAsTold_0
set_option maxRecDepth 100000 in
theorem t_X4_startAsTold_0 : dropTo 0 k_X4_startAsTold = s_X4_startAsTold_0 := rfl
theorem ok_X4_startAsTold : mOkF m_X4_startAsTold k_X4_startAsTold = true := by decide +kernel
theorem cm_X4_startAsTold : mChkM m_X4_startAsTold = true := by decide +kernel
def s_X4_startEmpty_0 : List mE := (0, .aload_n 0, 1, 0, 0, 0, .inl 0, []) ::
  (1, .iconst 0, 1, 0, 0, 0, .inl (nI 0), []) ::
  (2, .putfield 9, 3, 3, 0, 0, .inl 0, [378]) ::
  (5, .aload_n 0, 1, 0, 0, 0, .inl 0, []) ::
  (6, .getfield 15, 3, 3, 1, 3, .inr (.inr (16, 48, 1)), [382]) ::
  (9, .iconst 0, 1, 0, 0, 0, .inl (nI 0), []) ::
  (10, .invokestatic 55, 3, 1, 2, 0, .inl 0, [706]) ::
  (13, .aload_n 0, 1, 0, 0, 0, .inl 0, []) ::
  (14, .getfield 19, 3, 3, 2, 3, .inr (.inr (16, 48, 2)), [384]) ::
  (17, .iconst 0, 1, 0, 0, 0, .inl (nI 0), []) ::
  (18, .invokestatic 55, 3, 1, 2, 0, .inl 0, [706]) ::
  (21, .aload_n 0, 1, 0, 0, 0, .inl 0, []) ::
  (22, .getfield 22, 3, 3, 3, 3, .inr (.inr (16, 48, 3)), [385]) ::
  (25, .iconst 0, 1, 0, 0, 0, .inl (nI 0), []) ::
  (26, .invokestatic 55, 3, 1, 2, 0, .inl 0, [706]) ::
  (29, .aload_n 0, 1, 0, 0, 0, .inl 0, []) ::
  (30, .getfield 25, 3, 3, 4, 3, .inr (.inr (16, 48, 4)), [387]) ::
  (33, .iconst 0, 1, 0, 0, 0, .inl (nI 0), []) ::
  (34, .invokestatic 55, 3, 1, 2, 0, .inl 0, [706]) ::
  (37, .aload_n 0, 1, 0, 0, 0, .inl 0, []) ::
  (38, .getfield 28, 3, 3, 5, 3, .inr (.inr (16, 6, 5)), [389]) ::
  (41, .iconst 0, 1, 0, 0, 0, .inl (nI 0), []) ::
  (42, .invokestatic 55, 3, 1, 2, 0, .inl 0, [706]) ::
  (45, .aload_n 0, 1, 0, 0, 0, .inl 0, []) ::
  (46, .getfield 31, 3, 3, 6, 3, .inr (.inr (16, 6, 6)), [391]) ::
  (49, .iconst 0, 1, 0, 0, 0, .inl (nI 0), []) ::
  (50, .invokestatic 55, 3, 1, 2, 0, .inl 0, [706]) ::
  (53, .aload_n 0, 1, 0, 0, 0, .inl 0, []) ::
  (54, .getfield 34, 3, 3, 7, 3, .inr (.inr (16, 6, 7)), [392]) ::
  (57, .iconst 0, 1, 0, 0, 0, .inl (nI 0), []) ::
  (58, .invokestatic 55, 3, 1, 2, 0, .inl 0, [706]) ::
  (61, .aload_n 0, 1, 0, 0, 0, .inl 0, []) ::
  (62, .getfield 37, 3, 3, 8, 3, .inr (.inr (16, 8, 8)), [393]) ::
  (65, .iconst 0, 1, 0, 0, 0, .inl (nI 0), []) ::
  (66, .invokestatic 55, 3, 1, 2, 0, .inl 0, [706]) ::
  (69, .aload_n 0, 1, 0, 0, 0, .inl 0, []) ::
  (70, .getfield 40, 3, 3, 9, 3, .inr (.inr (16, 8, 9)), [396]) ::
  (73, .iconst (-1), 1, 0, 0, 0, .inl (-1), []) ::
  (74, .invokestatic 55, 3, 1, 2, 0, .inl 0, [706]) ::
  (77, .aload_n 0, 1, 0, 0, 0, .inl 0, []) ::
  (78, .getfield 43, 3, 3, 10, 3, .inr (.inr (16, 8, 10)), [398]) ::
  (81, .iconst 0, 1, 0, 0, 0, .inl (nI 0), []) ::
  (82, .invokestatic 55, 3, 1, 2, 0, .inl 0, [706]) ::
  (85, .aload_n 0, 1, 0, 0, 0, .inl 0, []) ::
  (86, .getfield 46, 3, 3, 11, 3, .inr (.inr (16, 36, 11)), [401]) ::
  (89, .iconst 0, 1, 0, 0, 0, .inl (nI 0), []) ::
  (90, .invokestatic 55, 3, 1, 2, 0, .inl 0, [706]) ::
  (93, .return_, 1, 0, 0, 0, .inl 0, []) :: []
def k_X4_startEmpty : List mE := s_X4_startEmpty_0
set_option maxRecDepth 100000 in
theorem t_X4_startEmpty_0 : dropTo 0 k_X4_startEmpty = s_X4_startEmpty_0 := rfl
theorem ok_X4_startEmpty : mOkF m_X4_startEmpty k_X4_startEmpty = true := by decide +kernel
theorem cm_X4_startEmpty : mChkM m_X4_startEmpty = true := by decide +kernel
def s_X4_startKindled_94 : List mE := (94, .iload_n 3, 1, 3, 0, 0, .inl 0, []) ::
  (95, .ireturn, 1, 0, 0, 0, .inl 0, []) :: []
def s_X4_startKindled_88 : List mE := (88, .iinc 4 1, 3, 4, 0, 0, .inl (nI 1), []) ::
  (91, .goto (-82), 3, 9, 0, 0, .inl 0, []) :: s_X4_startKindled_94
def s_X4_startKindled_21 : List mE := (21, .iload 5, 2, 5, 0, 0, .inl 0, []) ::
  (23, .aload_n 1, 1, 1, 0, 0, .inl 0, []) ::
  (24, .getfield 72, 3, 0, 0, 0, .inl 0, [245]) ::
  (27, .if_icmp .ge 61, 3, 88, 0, 0, .inl 0, []) ::
  (30, .iload_n 2, 1, 2, 0, 0, .inl 0, []) ::
  (31, .iload 4, 2, 4, 0, 0, .inl 0, []) ::
  (33, .ishr, 1, 0, 0, 0, .inl 0, []) ::
  (34, .iconst 1, 1, 0, 0, 0, .inl (nI 1), []) ::
  (35, .iand, 1, 0, 0, 0, .inl 0, []) ::
  (36, .iconst 1, 1, 0, 0, 0, .inl (nI 1), []) ::
  (37, .if_icmp .ne 51, 3, 88, 0, 0, .inl 0, []) ::
  (40, .aload_n 0, 1, 0, 0, 0, .inl 0, []) ::
  (41, .getfield 15, 3, 3, 1, 3, .inr (.inr (16, 48, 1)), [382]) ::
  (44, .iload 4, 2, 4, 0, 0, .inl 0, []) ::
  (46, .bipush 6, 2, 0, 0, 0, .inl (nI 6), []) ::
  (48, .imul, 1, 0, 0, 0, .inl 0, []) ::
  (49, .iload 5, 2, 5, 0, 0, .inl 0, []) ::
  (51, .iadd, 1, 0, 0, 0, .inl 0, []) ::
  (52, .aload_n 1, 1, 1, 0, 0, .inl 0, []) ::
  (53, .getfield 75, 3, 0, 10, 3, .inr (.inr (16, 48, 7)), [272]) ::
  (56, .iload 4, 2, 4, 0, 0, .inl 0, []) ::
  (58, .bipush 6, 2, 0, 0, 0, .inl (nI 6), []) ::
  (60, .imul, 1, 0, 0, 0, .inl 0, []) ::
  (61, .iload 5, 2, 5, 0, 0, .inl 0, []) ::
  (63, .iadd, 1, 0, 0, 0, .inl 0, []) ::
  (64, .iaload, 1, 0, 0, 0, .inl 0, []) ::
  (65, .iastore, 1, 0, 0, 0, .inl 0, []) ::
  (66, .iload_n 3, 1, 3, 0, 0, .inl 0, []) ::
  (67, .aload_n 1, 1, 1, 0, 0, .inl 0, []) ::
  (68, .getfield 75, 3, 0, 10, 3, .inr (.inr (16, 48, 7)), [272]) ::
  (71, .iload 4, 2, 4, 0, 0, .inl 0, []) ::
  (73, .bipush 6, 2, 0, 0, 0, .inl (nI 6), []) ::
  (75, .imul, 1, 0, 0, 0, .inl 0, []) ::
  (76, .iload 5, 2, 5, 0, 0, .inl 0, []) ::
  (78, .iadd, 1, 0, 0, 0, .inl 0, []) ::
  (79, .iaload, 1, 0, 0, 0, .inl 0, []) ::
  (80, .iadd, 1, 0, 0, 0, .inl 0, []) ::
  (81, .istore_n 3, 1, 3, 0, 0, .inl 0, []) ::
  (82, .iinc 5 1, 3, 5, 0, 0, .inl (nI 1), []) ::
  (85, .goto (-64), 3, 21, 0, 0, .inl 0, []) :: s_X4_startKindled_88
def s_X4_startKindled_9 : List mE := (9, .iload 4, 2, 4, 0, 0, .inl 0, []) ::
  (11, .aload_n 1, 1, 1, 0, 0, .inl 0, []) ::
  (12, .getfield 69, 3, 0, 1, 0, .inl 0, [248]) ::
  (15, .if_icmp .ge 79, 3, 94, 0, 0, .inl 0, []) ::
  (18, .iconst 0, 1, 0, 0, 0, .inl (nI 0), []) ::
  (19, .istore 5, 2, 5, 0, 0, .inl 0, []) :: s_X4_startKindled_21
def s_X4_startKindled_0 : List mE := (0, .aload_n 0, 1, 0, 0, 0, .inl 0, []) ::
  (1, .invokevirtual 61, 3, 45, 1, 0, .inl 0, [702, 3]) ::
  (4, .iconst 0, 1, 0, 0, 0, .inl (nI 0), []) ::
  (5, .istore_n 3, 1, 3, 0, 0, .inl 0, []) ::
  (6, .iconst 0, 1, 0, 0, 0, .inl (nI 0), []) ::
  (7, .istore 4, 2, 4, 0, 0, .inl 0, []) :: s_X4_startKindled_9
def k_X4_startKindled : List mE := s_X4_startKindled_0
set_option maxRecDepth 100000 in
theorem t_X4_startKindled_0 : dropTo 0 k_X4_startKindled = s_X4_startKindled_0 := rfl
set_option maxRecDepth 100000 in
theorem t_X4_startKindled_9 : dropTo 9 k_X4_startKindled = s_X4_startKindled_9 := rfl
set_option maxRecDepth 100000 in
theorem t_X4_startKindled_21 : dropTo 21 k_X4_startKindled = s_X4_startKindled_21 := rfl
set_option maxRecDepth 100000 in
theorem t_X4_startKindled_88 : dropTo 88 k_X4_startKindled = s_X4_startKindled_88 := rfl
set_option maxRecDepth 100000 in
theorem t_X4_startKindled_94 : dropTo 94 k_X4_startKindled = s_X4_startKindled_94 := rfl
theorem ok_X4_startKindled : mOkF m_X4_startKindled k_X4_startKindled = true := by decide +kernel
theorem cm_X4_startKindled : mChkM m_X4_startKindled = true := by decide +kernel
def s_X4_total_34 : List mE := (34, .iload_n 2, 1, 2, 0, 0, .inl 0, []) ::
  (35, .ireturn, 1, 0, 0, 0, .inl 0, []) :: []
def s_X4_total_4 : List mE := (4, .iload_n 3, 1, 3, 0, 0, .inl 0, []) ::
  (5, .aload_n 1, 1, 1, 0, 0, .inl 0, []) ::
  (6, .getfield 69, 3, 0, 1, 0, .inl 0, [248]) ::
  (9, .if_icmp .ge 25, 3, 34, 0, 0, .inl 0, []) ::
  (12, .iload_n 2, 1, 2, 0, 0, .inl 0, []) ::
  (13, .aload_n 0, 1, 0, 0, 0, .inl 0, []) ::
  (14, .getfield 37, 3, 3, 8, 3, .inr (.inr (16, 8, 8)), [393]) ::
  (17, .iload_n 3, 1, 3, 0, 0, .inl 0, []) ::
  (18, .iaload, 1, 0, 0, 0, .inl 0, []) ::
  (19, .aload_n 1, 1, 1, 0, 0, .inl 0, []) ::
  (20, .getfield 131, 3, 0, 9, 3, .inr (.inr (16, 8, 6)), [270]) ::
  (23, .iload_n 3, 1, 3, 0, 0, .inl 0, []) ::
  (24, .iaload, 1, 0, 0, 0, .inl 0, []) ::
  (25, .imul, 1, 0, 0, 0, .inl 0, []) ::
  (26, .iadd, 1, 0, 0, 0, .inl 0, []) ::
  (27, .istore_n 2, 1, 2, 0, 0, .inl 0, []) ::
  (28, .iinc 3 1, 3, 3, 0, 0, .inl (nI 1), []) ::
  (31, .goto (-27), 3, 4, 0, 0, .inl 0, []) :: s_X4_total_34
def s_X4_total_0 : List mE := (0, .iconst 0, 1, 0, 0, 0, .inl (nI 0), []) ::
  (1, .istore_n 2, 1, 2, 0, 0, .inl 0, []) ::
  (2, .iconst 0, 1, 0, 0, 0, .inl (nI 0), []) ::
  (3, .istore_n 3, 1, 3, 0, 0, .inl 0, []) :: s_X4_total_4
def k_X4_total : List mE := s_X4_total_0
set_option maxRecDepth 100000 in
theorem t_X4_total_0 : dropTo 0 k_X4_total = s_X4_total_0 := rfl
set_option maxRecDepth 100000 in
theorem t_X4_total_4 : dropTo 4 k_X4_total = s_X4_total_4 := rfl
set_option maxRecDepth 100000 in
theorem t_X4_total_34 : dropTo 34 k_X4_total = s_X4_total_34 := rfl
theorem ok_X4_total : mOkF m_X4_total k_X4_total = true := by decide +kernel
theorem cm_X4_total : mChkM m_X4_total = true := by decide +kernel
def s_X4_wentLately_29 : List mE := (29, .ireturn, 1, 1, 0, 0, .inl 0, []) :: []
def s_X4_wentLately_28 : List mE := (28, .iconst 0, 1, 0, 0, 0, .inl (nI 0), []) :: s_X4_wentLately_29
def s_X4_wentLately_0 : List mE := (0, .aload_n 0, 1, 0, 0, 0, .inl 0, []) ::
  (1, .getfield 37, 3, 3, 8, 3, .inr (.inr (16, 8, 8)), [393]) ::
  (4, .iload_n 1, 1, 1, 0, 0, .inl 0, []) ::
  (5, .iaload, 1, 0, 0, 0, .inl 0, []) ::
  (6, .ifCond .le 22, 3, 28, 0, 0, .inl 0, []) ::
  (9, .aload_n 0, 1, 0, 0, 0, .inl 0, []) ::
  (10, .getfield 40, 3, 3, 9, 3, .inr (.inr (16, 8, 9)), [396]) ::
  (13, .iload_n 1, 1, 1, 0, 0, .inl 0, []) ::
  (14, .iaload, 1, 0, 0, 0, .inl 0, []) ::
  (15, .aload_n 0, 1, 0, 0, 0, .inl 0, []) ::
  (16, .getfield 9, 3, 3, 0, 0, .inl 0, [378]) ::
  (19, .iconst 1, 1, 0, 0, 0, .inl (nI 1), []) ::
  (20, .isub, 1, 0, 0, 0, .inl 0, []) ::
  (21, .if_icmp .ne 7, 3, 28, 0, 0, .inl 0, []) ::
  (24, .iconst 1, 1, 0, 0, 0, .inl (nI 1), []) ::
  (25, .goto 4, 3, 29, 0, 0, .inl 0, []) :: s_X4_wentLately_28
def k_X4_wentLately : List mE := s_X4_wentLately_0
set_option maxRecDepth 100000 in
theorem t_X4_wentLately_0 : dropTo 0 k_X4_wentLately = s_X4_wentLately_0 := rfl
set_option maxRecDepth 100000 in
theorem t_X4_wentLately_28 : dropTo 28 k_X4_wentLately = s_X4_wentLately_28 := rfl
set_option maxRecDepth 100000 in
theorem t_X4_wentLately_29 : dropTo 29 k_X4_wentLately = s_X4_wentLately_29 := rfl
theorem ok_X4_wentLately : mOkF m_X4_wentLately k_X4_wentLately = true := by decide +kernel
theorem cm_X4_wentLately : mChkM m_X4_wentLately = true := by decide +kernel
def s_X5_addStep_49 : List mE := (49, .iconst 1, 1, 0, 0, 0, .inl (nI 1), []) ::
  (50, .ireturn, 1, 1, 0, 0, .inl 0, []) :: []
def s_X5_addStep_0 : List mE := (0, .aload_n 0, 1, 0, 0, 0, .inl 0, []) ::
  (1, .getfield 25, 3, 4, 1, 0, .inl 0, [357]) ::
  (4, .bipush 40, 2, 0, 0, 0, .inl (nI 40), []) ::
  (6, .if_icmp .ge 43, 3, 49, 0, 0, .inl 0, []) ::
  (9, .aload_n 0, 1, 0, 0, 0, .inl 0, []) ::
  (10, .getfield 11, 3, 4, 2, 3, .inr (.inr (16, 40, 1)), [358]) ::
  (13, .aload_n 0, 1, 0, 0, 0, .inl 0, []) ::
  (14, .getfield 25, 3, 4, 1, 0, .inl 0, [357]) ::
  (17, .iload_n 1, 1, 1, 0, 0, .inl 0, []) ::
  (18, .iastore, 1, 0, 0, 0, .inl 0, []) ::
  (19, .aload_n 0, 1, 0, 0, 0, .inl 0, []) ::
  (20, .getfield 15, 3, 4, 3, 3, .inr (.inr (16, 40, 2)), [359]) ::
  (23, .aload_n 0, 1, 0, 0, 0, .inl 0, []) ::
  (24, .getfield 25, 3, 4, 1, 0, .inl 0, [357]) ::
  (27, .iload_n 2, 1, 2, 0, 0, .inl 0, []) ::
  (28, .iastore, 1, 0, 0, 0, .inl 0, []) ::
  (29, .aload_n 0, 1, 0, 0, 0, .inl 0, []) ::
  (30, .getfield 18, 3, 4, 4, 3, .inr (.inr (16, 40, 3)), [360]) ::
  (33, .aload_n 0, 1, 0, 0, 0, .inl 0, []) ::
  (34, .getfield 25, 3, 4, 1, 0, .inl 0, [357]) ::
  (37, .iload_n 3, 1, 3, 0, 0, .inl 0, []) ::
  (38, .iastore, 1, 0, 0, 0, .inl 0, []) ::
  (39, .aload_n 0, 1, 0, 0, 0, .inl 0, []) ::
  (40, .dup, 1, 0, 0, 0, .inl 0, []) ::
  (41, .getfield 25, 3, 4, 1, 0, .inl 0, [357]) ::
  (44, .iconst 1, 1, 0, 0, 0, .inl (nI 1), []) ::
  (45, .iadd, 1, 0, 0, 0, .inl 0, []) ::
  (46, .putfield 25, 3, 4, 1, 0, .inl 0, [357]) :: s_X5_addStep_49
def k_X5_addStep : List mE := s_X5_addStep_0
set_option maxRecDepth 100000 in
theorem t_X5_addStep_0 : dropTo 0 k_X5_addStep = s_X5_addStep_0 := rfl
set_option maxRecDepth 100000 in
theorem t_X5_addStep_49 : dropTo 49 k_X5_addStep = s_X5_addStep_49 := rfl
theorem ok_X5_addStep : mOkF m_X5_addStep k_X5_addStep = true := by decide +kernel
theorem cm_X5_addStep : mChkM m_X5_addStep = true := by decide +kernel
def s_X5_clear_0 : List mE := (0, .aload_n 0, 1, 0, 0, 0, .inl 0, []) ::
  (1, .iconst 0, 1, 0, 0, 0, .inl (nI 0), []) ::
  (2, .putfield 21, 3, 4, 0, 0, .inl 0, [355]) ::
  (5, .aload_n 0, 1, 0, 0, 0, .inl 0, []) ::
  (6, .iconst 0, 1, 0, 0, 0, .inl (nI 0), []) ::
  (7, .putfield 25, 3, 4, 1, 0, .inl 0, [357]) ::
  (10, .return_, 1, 0, 0, 0, .inl 0, []) :: []
def k_X5_clear : List mE := s_X5_clear_0
set_option maxRecDepth 100000 in
theorem t_X5_clear_0 : dropTo 0 k_X5_clear = s_X5_clear_0 := rfl
theorem ok_X5_clear : mOkF m_X5_clear k_X5_clear = true := by decide +kernel
theorem cm_X5_clear : mChkM m_X5_clear = true := by decide +kernel
def s_X5_compares_71 : List mE := (71, .ireturn, 1, 1, 0, 0, .inl 0, []) :: []
def s_X5_compares_70 : List mE := (70, .iconst 0, 1, 0, 0, 0, .inl (nI 0), []) :: s_X5_compares_71
def s_X5_compares_56 : List mE := (56, .iload_n 1, 1, 1, 0, 0, .inl 0, []) ::
  (57, .aload_n 0, 1, 0, 0, 0, .inl 0, []) ::
  (58, .getfield 15, 3, 4, 3, 3, .inr (.inr (16, 40, 2)), [359]) ::
  (61, .iload_n 2, 1, 2, 0, 0, .inl 0, []) ::
  (62, .iaload, 1, 0, 0, 0, .inl 0, []) ::
  (63, .if_icmp .le 7, 3, 70, 0, 0, .inl 0, []) ::
  (66, .iconst 1, 1, 0, 0, 0, .inl (nI 1), []) ::
  (67, .goto 4, 3, 71, 0, 0, .inl 0, []) :: s_X5_compares_70
def s_X5_compares_52 : List mE := (52, .iconst 0, 1, 0, 0, 0, .inl (nI 0), []) ::
  (53, .goto 18, 3, 71, 0, 0, .inl 0, []) :: s_X5_compares_56
def s_X5_compares_27 : List mE := (27, .aload_n 0, 1, 0, 0, 0, .inl 0, []) ::
  (28, .getfield 18, 3, 4, 4, 3, .inr (.inr (16, 40, 3)), [360]) ::
  (31, .iload_n 2, 1, 2, 0, 0, .inl 0, []) ::
  (32, .iaload, 1, 0, 0, 0, .inl 0, []) ::
  (33, .bipush 61, 2, 0, 0, 0, .inl (nI 61), []) ::
  (35, .if_icmp .ne 21, 3, 56, 0, 0, .inl 0, []) ::
  (38, .iload_n 1, 1, 1, 0, 0, .inl 0, []) ::
  (39, .aload_n 0, 1, 0, 0, 0, .inl 0, []) ::
  (40, .getfield 15, 3, 4, 3, 3, .inr (.inr (16, 40, 2)), [359]) ::
  (43, .iload_n 2, 1, 2, 0, 0, .inl 0, []) ::
  (44, .iaload, 1, 0, 0, 0, .inl 0, []) ::
  (45, .if_icmp .ne 7, 3, 52, 0, 0, .inl 0, []) ::
  (48, .iconst 1, 1, 0, 0, 0, .inl (nI 1), []) ::
  (49, .goto 22, 3, 71, 0, 0, .inl 0, []) :: s_X5_compares_52
def s_X5_compares_26 : List mE := (26, .ireturn, 1, 1, 0, 0, .inl 0, []) :: s_X5_compares_27
def s_X5_compares_25 : List mE := (25, .iconst 0, 1, 0, 0, 0, .inl (nI 0), []) :: s_X5_compares_26
def s_X5_compares_0 : List mE := (0, .aload_n 0, 1, 0, 0, 0, .inl 0, []) ::
  (1, .getfield 18, 3, 4, 4, 3, .inr (.inr (16, 40, 3)), [360]) ::
  (4, .iload_n 2, 1, 2, 0, 0, .inl 0, []) ::
  (5, .iaload, 1, 0, 0, 0, .inl 0, []) ::
  (6, .bipush 60, 2, 0, 0, 0, .inl (nI 60), []) ::
  (8, .if_icmp .ne 19, 3, 27, 0, 0, .inl 0, []) ::
  (11, .iload_n 1, 1, 1, 0, 0, .inl 0, []) ::
  (12, .aload_n 0, 1, 0, 0, 0, .inl 0, []) ::
  (13, .getfield 15, 3, 4, 3, 3, .inr (.inr (16, 40, 2)), [359]) ::
  (16, .iload_n 2, 1, 2, 0, 0, .inl 0, []) ::
  (17, .iaload, 1, 0, 0, 0, .inl 0, []) ::
  (18, .if_icmp .ge 7, 3, 25, 0, 0, .inl 0, []) ::
  (21, .iconst 1, 1, 0, 0, 0, .inl (nI 1), []) ::
  (22, .goto 4, 3, 26, 0, 0, .inl 0, []) :: s_X5_compares_25
def k_X5_compares : List mE := s_X5_compares_0
set_option maxRecDepth 100000 in
theorem t_X5_compares_0 : dropTo 0 k_X5_compares = s_X5_compares_0 := rfl
set_option maxRecDepth 100000 in
theorem t_X5_compares_25 : dropTo 25 k_X5_compares = s_X5_compares_25 := rfl
set_option maxRecDepth 100000 in
theorem t_X5_compares_26 : dropTo 26 k_X5_compares = s_X5_compares_26 := rfl
set_option maxRecDepth 100000 in
theorem t_X5_compares_27 : dropTo 27 k_X5_compares = s_X5_compares_27 := rfl
set_option maxRecDepth 100000 in
theorem t_X5_compares_52 : dropTo 52 k_X5_compares = s_X5_compares_52 := rfl
set_option maxRecDepth 100000 in
theorem t_X5_compares_56 : dropTo 56 k_X5_compares = s_X5_compares_56 := rfl
set_option maxRecDepth 100000 in
theorem t_X5_compares_70 : dropTo 70 k_X5_compares = s_X5_compares_70 := rfl
set_option maxRecDepth 100000 in
theorem t_X5_compares_71 : dropTo 71 k_X5_compares = s_X5_compares_71 := rfl
theorem ok_X5_compares : mOkF m_X5_compares k_X5_compares = true := by decide +kernel
theorem cm_X5_compares : mChkM m_X5_compares = true := by decide +kernel
def s_X5_copyFrom_0 : List mE := (0, .aload_n 0, 1, 0, 0, 0, .inl 0, []) ::
  (1, .aload_n 1, 1, 1, 0, 0, .inl 0, []) ::
  (2, .getfield 21, 3, 4, 0, 0, .inl 0, [355]) ::
  (5, .putfield 21, 3, 4, 0, 0, .inl 0, [355]) ::
  (8, .aload_n 0, 1, 0, 0, 0, .inl 0, []) ::
  (9, .aload_n 1, 1, 1, 0, 0, .inl 0, []) ::
  (10, .getfield 25, 3, 4, 1, 0, .inl 0, [357]) ::
  (13, .putfield 25, 3, 4, 1, 0, .inl 0, [357]) ::
  (16, .aload_n 1, 1, 1, 0, 0, .inl 0, []) ::
  (17, .getfield 11, 3, 4, 2, 3, .inr (.inr (16, 40, 1)), [358]) ::
  (20, .iconst 0, 1, 0, 0, 0, .inl (nI 0), []) ::
  (21, .aload_n 0, 1, 0, 0, 0, .inl 0, []) ::
  (22, .getfield 11, 3, 4, 2, 3, .inr (.inr (16, 40, 1)), [358]) ::
  (25, .iconst 0, 1, 0, 0, 0, .inl (nI 0), []) ::
  (26, .bipush 40, 2, 0, 0, 0, .inl (nI 40), []) ::
  (28, .invokestatic 28, 3, 0, 5, 9, .inl 0, [1074]) ::
  (31, .aload_n 1, 1, 1, 0, 0, .inl 0, []) ::
  (32, .getfield 15, 3, 4, 3, 3, .inr (.inr (16, 40, 2)), [359]) ::
  (35, .iconst 0, 1, 0, 0, 0, .inl (nI 0), []) ::
  (36, .aload_n 0, 1, 0, 0, 0, .inl 0, []) ::
  (37, .getfield 15, 3, 4, 3, 3, .inr (.inr (16, 40, 2)), [359]) ::
  (40, .iconst 0, 1, 0, 0, 0, .inl (nI 0), []) ::
  (41, .bipush 40, 2, 0, 0, 0, .inl (nI 40), []) ::
  (43, .invokestatic 28, 3, 0, 5, 9, .inl 0, [1074]) ::
  (46, .aload_n 1, 1, 1, 0, 0, .inl 0, []) ::
  (47, .getfield 18, 3, 4, 4, 3, .inr (.inr (16, 40, 3)), [360]) ::
  (50, .iconst 0, 1, 0, 0, 0, .inl (nI 0), []) ::
  (51, .aload_n 0, 1, 0, 0, 0, .inl 0, []) ::
  (52, .getfield 18, 3, 4, 4, 3, .inr (.inr (16, 40, 3)), [360]) ::
  (55, .iconst 0, 1, 0, 0, 0, .inl (nI 0), []) ::
  (56, .bipush 40, 2, 0, 0, 0, .inl (nI 40), []) ::
  (58, .invokestatic 28, 3, 0, 5, 9, .inl 0, [1074]) ::
  (61, .return_, 1, 0, 0, 0, .inl 0, []) :: []
def k_X5_copyFrom : List mE := s_X5_copyFrom_0
set_option maxRecDepth 100000 in
theorem t_X5_copyFrom_0 : dropTo 0 k_X5_copyFrom = s_X5_copyFrom_0 := rfl
theorem ok_X5_copyFrom : mOkF m_X5_copyFrom k_X5_copyFrom = true := by decide +kernel
theorem cm_X5_copyFrom : mChkM m_X5_copyFrom = true := by decide +kernel
def s_X5_isStepTrueOf_172 : List mE := (172, .aload_n 0, 1, 0, 0, 0, .inl 0, []) ::
  (173, .iload_n 2, 1, 2, 0, 0, .inl 0, []) ::
  (174, .iload_n 1, 1, 1, 0, 0, .inl 0, []) ::
  (175, .invokevirtual 120, 3, 51, 3, 1, .inl 0, [1087, 4]) ::
  (178, .ireturn, 1, 1, 0, 0, .inl 0, []) :: []
def s_X5_isStepTrueOf_152 : List mE := (152, .aload_n 0, 1, 0, 0, 0, .inl 0, []) ::
  (153, .aload 4, 2, 4, 0, 0, .inl 0, []) ::
  (155, .getfield 117, 3, 3, 8, 3, .inr (.inr (16, 8, 8)), [394]) ::
  (158, .iload_n 2, 1, 2, 0, 0, .inl 0, []) ::
  (159, .iaload, 1, 0, 0, 0, .inl 0, []) ::
  (160, .aload_n 3, 1, 3, 0, 0, .inl 0, []) ::
  (161, .getfield 127, 3, 0, 9, 3, .inr (.inr (16, 8, 6)), [269]) ::
  (164, .iload_n 2, 1, 2, 0, 0, .inl 0, []) ::
  (165, .iaload, 1, 0, 0, 0, .inl 0, []) ::
  (166, .imul, 1, 0, 0, 0, .inl 0, []) ::
  (167, .iload_n 1, 1, 1, 0, 0, .inl 0, []) ::
  (168, .invokevirtual 120, 3, 51, 3, 1, .inl 0, [1087, 4]) ::
  (171, .ireturn, 1, 1, 0, 0, .inl 0, []) :: s_X5_isStepTrueOf_172
def s_X5_isStepTrueOf_133 : List mE := (133, .aload_n 0, 1, 0, 0, 0, .inl 0, []) ::
  (134, .aload 4, 2, 4, 0, 0, .inl 0, []) ::
  (136, .getfield 124, 3, 3, 0, 0, .inl 0, [381]) ::
  (139, .aload 4, 2, 4, 0, 0, .inl 0, []) ::
  (141, .getfield 117, 3, 3, 8, 3, .inr (.inr (16, 8, 8)), [394]) ::
  (144, .iload_n 2, 1, 2, 0, 0, .inl 0, []) ::
  (145, .iaload, 1, 0, 0, 0, .inl 0, []) ::
  (146, .isub, 1, 0, 0, 0, .inl 0, []) ::
  (147, .iload_n 1, 1, 1, 0, 0, .inl 0, []) ::
  (148, .invokevirtual 120, 3, 51, 3, 1, .inl 0, [1087, 4]) ::
  (151, .ireturn, 1, 1, 0, 0, .inl 0, []) :: s_X5_isStepTrueOf_152
def s_X5_isStepTrueOf_120 : List mE := (120, .aload_n 0, 1, 0, 0, 0, .inl 0, []) ::
  (121, .aload 4, 2, 4, 0, 0, .inl 0, []) ::
  (123, .getfield 117, 3, 3, 8, 3, .inr (.inr (16, 8, 8)), [394]) ::
  (126, .iload_n 2, 1, 2, 0, 0, .inl 0, []) ::
  (127, .iaload, 1, 0, 0, 0, .inl 0, []) ::
  (128, .iload_n 1, 1, 1, 0, 0, .inl 0, []) ::
  (129, .invokevirtual 120, 3, 51, 3, 1, .inl 0, [1087, 4]) ::
  (132, .ireturn, 1, 1, 0, 0, .inl 0, []) :: s_X5_isStepTrueOf_133
def s_X5_isStepTrueOf_119 : List mE := (119, .ireturn, 1, 1, 0, 0, .inl 0, []) :: s_X5_isStepTrueOf_120
def s_X5_isStepTrueOf_118 : List mE := (118, .iconst 0, 1, 0, 0, 0, .inl (nI 0), []) :: s_X5_isStepTrueOf_119
def s_X5_isStepTrueOf_94 : List mE := (94, .aload 4, 2, 4, 0, 0, .inl 0, []) ::
  (96, .getfield 112, 3, 3, 10, 3, .inr (.inr (16, 8, 10)), [399]) ::
  (99, .iload_n 2, 1, 2, 0, 0, .inl 0, []) ::
  (100, .iaload, 1, 0, 0, 0, .inl 0, []) ::
  (101, .aload_n 0, 1, 0, 0, 0, .inl 0, []) ::
  (102, .getfield 15, 3, 4, 3, 3, .inr (.inr (16, 40, 2)), [359]) ::
  (105, .iload_n 1, 1, 1, 0, 0, .inl 0, []) ::
  (106, .iaload, 1, 0, 0, 0, .inl 0, []) ::
  (107, .ishr, 1, 0, 0, 0, .inl 0, []) ::
  (108, .iconst 1, 1, 0, 0, 0, .inl (nI 1), []) ::
  (109, .iand, 1, 0, 0, 0, .inl 0, []) ::
  (110, .iconst 1, 1, 0, 0, 0, .inl (nI 1), []) ::
  (111, .if_icmp .ne 7, 3, 118, 0, 0, .inl 0, []) ::
  (114, .iconst 1, 1, 0, 0, 0, .inl (nI 1), []) ::
  (115, .goto 4, 3, 119, 0, 0, .inl 0, []) :: s_X5_isStepTrueOf_118
def s_X5_isStepTrueOf_93 : List mE := (93, .ireturn, 1, 1, 0, 0, .inl 0, []) :: s_X5_isStepTrueOf_94
def s_X5_isStepTrueOf_92 : List mE := (92, .iconst 0, 1, 0, 0, 0, .inl (nI 0), []) :: s_X5_isStepTrueOf_93
def s_X5_isStepTrueOf_69 : List mE := (69, .aload_n 3, 1, 3, 0, 0, .inl 0, []) ::
  (70, .getfield 109, 3, 0, 13, 3, .inr (.inr (16, 48, 10)), [284]) ::
  (73, .iload_n 2, 1, 2, 0, 0, .inl 0, []) ::
  (74, .bipush 6, 2, 0, 0, 0, .inl (nI 6), []) ::
  (76, .imul, 1, 0, 0, 0, .inl 0, []) ::
  (77, .aload_n 0, 1, 0, 0, 0, .inl 0, []) ::
  (78, .getfield 15, 3, 4, 3, 3, .inr (.inr (16, 40, 2)), [359]) ::
  (81, .iload_n 1, 1, 1, 0, 0, .inl 0, []) ::
  (82, .iaload, 1, 0, 0, 0, .inl 0, []) ::
  (83, .iadd, 1, 0, 0, 0, .inl 0, []) ::
  (84, .iaload, 1, 0, 0, 0, .inl 0, []) ::
  (85, .ifCond .le 7, 3, 92, 0, 0, .inl 0, []) ::
  (88, .iconst 1, 1, 0, 0, 0, .inl (nI 1), []) ::
  (89, .goto 4, 3, 93, 0, 0, .inl 0, []) :: s_X5_isStepTrueOf_92
def s_X5_isStepTrueOf_68 : List mE := (68, .ireturn, 1, 1, 0, 0, .inl 0, []) :: s_X5_isStepTrueOf_69
def s_X5_isStepTrueOf_67 : List mE := (67, .iconst 0, 1, 0, 0, 0, .inl (nI 0), []) :: s_X5_isStepTrueOf_68
def s_X5_isStepTrueOf_44 : List mE := (44, .aload_n 3, 1, 3, 0, 0, .inl 0, []) ::
  (45, .getfield 106, 3, 0, 10, 3, .inr (.inr (16, 48, 7)), [275]) ::
  (48, .iload_n 2, 1, 2, 0, 0, .inl 0, []) ::
  (49, .bipush 6, 2, 0, 0, 0, .inl (nI 6), []) ::
  (51, .imul, 1, 0, 0, 0, .inl 0, []) ::
  (52, .aload_n 0, 1, 0, 0, 0, .inl 0, []) ::
  (53, .getfield 15, 3, 4, 3, 3, .inr (.inr (16, 40, 2)), [359]) ::
  (56, .iload_n 1, 1, 1, 0, 0, .inl 0, []) ::
  (57, .iaload, 1, 0, 0, 0, .inl 0, []) ::
  (58, .iadd, 1, 0, 0, 0, .inl 0, []) ::
  (59, .iaload, 1, 0, 0, 0, .inl 0, []) ::
  (60, .ifCond .le 7, 3, 67, 0, 0, .inl 0, []) ::
  (63, .iconst 1, 1, 0, 0, 0, .inl (nI 1), []) ::
  (64, .goto 4, 3, 68, 0, 0, .inl 0, []) :: s_X5_isStepTrueOf_67
def s_X5_isStepTrueOf_0 : List mE := (0, .aload_n 0, 1, 0, 0, 0, .inl 0, []) ::
  (1, .getfield 11, 3, 4, 2, 3, .inr (.inr (16, 40, 1)), [358]) ::
  (4, .iload_n 1, 1, 1, 0, 0, .inl 0, []) ::
  (5, .iaload, 1, 0, 0, 0, .inl 0, []) ::
  (6, .tableswitch 166 12 17 #[38, 63, 88, 114, 127, 146], 38, 172, 12, 0, .inl 0, [44, 69, 94, 120, 133, 152]) :: s_X5_isStepTrueOf_44
def k_X5_isStepTrueOf : List mE := s_X5_isStepTrueOf_0
set_option maxRecDepth 100000 in
theorem t_X5_isStepTrueOf_0 : dropTo 0 k_X5_isStepTrueOf = s_X5_isStepTrueOf_0 := rfl
set_option maxRecDepth 100000 in
theorem t_X5_isStepTrueOf_44 : dropTo 44 k_X5_isStepTrueOf = s_X5_isStepTrueOf_44 := rfl
set_option maxRecDepth 100000 in
theorem t_X5_isStepTrueOf_67 : dropTo 67 k_X5_isStepTrueOf = s_X5_isStepTrueOf_67 := rfl
set_option maxRecDepth 100000 in
theorem t_X5_isStepTrueOf_68 : dropTo 68 k_X5_isStepTrueOf = s_X5_isStepTrueOf_68 := rfl
set_option maxRecDepth 100000 in
theorem t_X5_isStepTrueOf_69 : dropTo 69 k_X5_isStepTrueOf = s_X5_isStepTrueOf_69 := rfl
set_option maxRecDepth 100000 in
theorem t_X5_isStepTrueOf_92 : dropTo 92 k_X5_isStepTrueOf = s_X5_isStepTrueOf_92 := rfl
set_option maxRecDepth 100000 in
theorem t_X5_isStepTrueOf_93 : dropTo 93 k_X5_isStepTrueOf = s_X5_isStepTrueOf_93 := rfl
set_option maxRecDepth 100000 in
theorem t_X5_isStepTrueOf_94 : dropTo 94 k_X5_isStepTrueOf = s_X5_isStepTrueOf_94 := rfl
set_option maxRecDepth 100000 in
theorem t_X5_isStepTrueOf_118 : dropTo 118 k_X5_isStepTrueOf = s_X5_isStepTrueOf_118 := rfl
set_option maxRecDepth 100000 in
theorem t_X5_isStepTrueOf_119 : dropTo 119 k_X5_isStepTrueOf = s_X5_isStepTrueOf_119 := rfl
set_option maxRecDepth 100000 in
theorem t_X5_isStepTrueOf_120 : dropTo 120 k_X5_isStepTrueOf = s_X5_isStepTrueOf_120 := rfl
set_option maxRecDepth 100000 in
theorem t_X5_isStepTrueOf_133 : dropTo 133 k_X5_isStepTrueOf = s_X5_isStepTrueOf_133 := rfl
set_option maxRecDepth 100000 in
theorem t_X5_isStepTrueOf_152 : dropTo 152 k_X5_isStepTrueOf = s_X5_isStepTrueOf_152 := rfl
set_option maxRecDepth 100000 in
theorem t_X5_isStepTrueOf_172 : dropTo 172 k_X5_isStepTrueOf = s_X5_isStepTrueOf_172 := rfl
theorem ok_X5_isStepTrueOf : mOkF m_X5_isStepTrueOf k_X5_isStepTrueOf = true := by decide +kernel
theorem cm_X5_isStepTrueOf : mChkM m_X5_isStepTrueOf = true := by decide +kernel
def s_X5_isTrueOf_135 : List mE := (135, .ireturn, 1, 1, 0, 0, .inl 0, []) :: []
def s_X5_isTrueOf_134 : List mE := (134, .iconst 0, 1, 0, 0, 0, .inl (nI 0), []) :: s_X5_isTrueOf_135
def s_X5_isTrueOf_122 : List mE := (122, .iload 4, 2, 4, 0, 0, .inl 0, []) ::
  (124, .iconst 1, 1, 0, 0, 0, .inl (nI 1), []) ::
  (125, .iand, 1, 0, 0, 0, .inl 0, []) ::
  (126, .iconst 1, 1, 0, 0, 0, .inl (nI 1), []) ::
  (127, .if_icmp .ne 7, 3, 134, 0, 0, .inl 0, []) ::
  (130, .iconst 1, 1, 0, 0, 0, .inl (nI 1), []) ::
  (131, .goto 4, 3, 135, 0, 0, .inl 0, []) :: s_X5_isTrueOf_134
def s_X5_isTrueOf_116 : List mE := (116, .iinc 5 1, 3, 5, 0, 0, .inl (nI 1), []) ::
  (119, .goto (-113), 3, 6, 0, 0, .inl 0, []) :: s_X5_isTrueOf_122
def s_X5_isTrueOf_113 : List mE := (113, .ior, 1, 0, 0, 0, .inl 0, []) ::
  (114, .istore 4, 2, 4, 0, 0, .inl 0, []) :: s_X5_isTrueOf_116
def s_X5_isTrueOf_112 : List mE := (112, .iconst 0, 1, 0, 0, 0, .inl (nI 0), []) :: s_X5_isTrueOf_113
def s_X5_isTrueOf_92 : List mE := (92, .iload 4, 2, 4, 0, 0, .inl 0, []) ::
  (94, .iconst 1, 1, 0, 0, 0, .inl (nI 1), []) ::
  (95, .ishl, 1, 0, 0, 0, .inl 0, []) ::
  (96, .aload_n 0, 1, 0, 0, 0, .inl 0, []) ::
  (97, .iload 5, 2, 5, 0, 0, .inl 0, []) ::
  (99, .iload_n 1, 1, 1, 0, 0, .inl 0, []) ::
  (100, .aload_n 2, 1, 2, 0, 0, .inl 0, []) ::
  (101, .aload_n 3, 1, 3, 0, 0, .inl 0, []) ::
  (102, .invokevirtual 102, 3, 53, 5, 1, .inl 0, [1083, 4]) ::
  (105, .ifCond .eq 7, 3, 112, 0, 0, .inl 0, []) ::
  (108, .iconst 1, 1, 0, 0, 0, .inl (nI 1), []) ::
  (109, .goto 4, 3, 113, 0, 0, .inl 0, []) :: s_X5_isTrueOf_112
def s_X5_isTrueOf_80 : List mE := (80, .iload 4, 2, 4, 0, 0, .inl 0, []) ::
  (82, .iconst 1, 1, 0, 0, 0, .inl (nI 1), []) ::
  (83, .ishr, 1, 0, 0, 0, .inl 0, []) ::
  (84, .iload 6, 2, 6, 0, 0, .inl 0, []) ::
  (86, .ior, 1, 0, 0, 0, .inl 0, []) ::
  (87, .istore 4, 2, 4, 0, 0, .inl 0, []) ::
  (89, .goto 27, 3, 116, 0, 0, .inl 0, []) :: s_X5_isTrueOf_92
def s_X5_isTrueOf_65 : List mE := (65, .iload 4, 2, 4, 0, 0, .inl 0, []) ::
  (67, .iconst 1, 1, 0, 0, 0, .inl (nI 1), []) ::
  (68, .ishr, 1, 0, 0, 0, .inl 0, []) ::
  (69, .iload 6, 2, 6, 0, 0, .inl 0, []) ::
  (71, .bipush (-2), 2, 0, 0, 0, .inl (-2), []) ::
  (73, .ior, 1, 0, 0, 0, .inl 0, []) ::
  (74, .iand, 1, 0, 0, 0, .inl 0, []) ::
  (75, .istore 4, 2, 4, 0, 0, .inl 0, []) ::
  (77, .goto 39, 3, 116, 0, 0, .inl 0, []) :: s_X5_isTrueOf_80
def s_X5_isTrueOf_56 : List mE := (56, .iload 4, 2, 4, 0, 0, .inl 0, []) ::
  (58, .iconst 1, 1, 0, 0, 0, .inl (nI 1), []) ::
  (59, .ixor, 1, 0, 0, 0, .inl 0, []) ::
  (60, .istore 4, 2, 4, 0, 0, .inl 0, []) ::
  (62, .goto 54, 3, 116, 0, 0, .inl 0, []) :: s_X5_isTrueOf_65
def s_X5_isTrueOf_6 : List mE := (6, .iload 5, 2, 5, 0, 0, .inl 0, []) ::
  (8, .aload_n 0, 1, 0, 0, 0, .inl 0, []) ::
  (9, .getfield 25, 3, 4, 1, 0, .inl 0, [357]) ::
  (12, .if_icmp .ge 110, 3, 122, 0, 0, .inl 0, []) ::
  (15, .iload 4, 2, 4, 0, 0, .inl 0, []) ::
  (17, .iconst 1, 1, 0, 0, 0, .inl (nI 1), []) ::
  (18, .iand, 1, 0, 0, 0, .inl 0, []) ::
  (19, .istore 6, 2, 6, 0, 0, .inl 0, []) ::
  (21, .aload_n 0, 1, 0, 0, 0, .inl 0, []) ::
  (22, .getfield 11, 3, 4, 2, 3, .inr (.inr (16, 40, 1)), [358]) ::
  (25, .iload 5, 2, 5, 0, 0, .inl 0, []) ::
  (27, .iaload, 1, 0, 0, 0, .inl 0, []) ::
  (28, .tableswitch 64 9 11 #[52, 37, 28], 28, 92, 9, 0, .inl 0, [80, 65, 56]) :: s_X5_isTrueOf_56
def s_X5_isTrueOf_0 : List mE := (0, .iconst 0, 1, 0, 0, 0, .inl (nI 0), []) ::
  (1, .istore 4, 2, 4, 0, 0, .inl 0, []) ::
  (3, .iconst 0, 1, 0, 0, 0, .inl (nI 0), []) ::
  (4, .istore 5, 2, 5, 0, 0, .inl 0, []) :: s_X5_isTrueOf_6
def k_X5_isTrueOf : List mE := s_X5_isTrueOf_0
set_option maxRecDepth 100000 in
theorem t_X5_isTrueOf_0 : dropTo 0 k_X5_isTrueOf = s_X5_isTrueOf_0 := rfl
set_option maxRecDepth 100000 in
theorem t_X5_isTrueOf_6 : dropTo 6 k_X5_isTrueOf = s_X5_isTrueOf_6 := rfl
set_option maxRecDepth 100000 in
theorem t_X5_isTrueOf_56 : dropTo 56 k_X5_isTrueOf = s_X5_isTrueOf_56 := rfl
set_option maxRecDepth 100000 in
theorem t_X5_isTrueOf_65 : dropTo 65 k_X5_isTrueOf = s_X5_isTrueOf_65 := rfl
set_option maxRecDepth 100000 in
theorem t_X5_isTrueOf_80 : dropTo 80 k_X5_isTrueOf = s_X5_isTrueOf_80 := rfl
set_option maxRecDepth 100000 in
theorem t_X5_isTrueOf_92 : dropTo 92 k_X5_isTrueOf = s_X5_isTrueOf_92 := rfl
set_option maxRecDepth 100000 in
theorem t_X5_isTrueOf_112 : dropTo 112 k_X5_isTrueOf = s_X5_isTrueOf_112 := rfl
set_option maxRecDepth 100000 in
theorem t_X5_isTrueOf_113 : dropTo 113 k_X5_isTrueOf = s_X5_isTrueOf_113 := rfl
set_option maxRecDepth 100000 in
theorem t_X5_isTrueOf_116 : dropTo 116 k_X5_isTrueOf = s_X5_isTrueOf_116 := rfl
set_option maxRecDepth 100000 in
theorem t_X5_isTrueOf_122 : dropTo 122 k_X5_isTrueOf = s_X5_isTrueOf_122 := rfl
set_option maxRecDepth 100000 in
theorem t_X5_isTrueOf_134 : dropTo 134 k_X5_isTrueOf = s_X5_isTrueOf_134 := rfl
set_option maxRecDepth 100000 in
theorem t_X5_isTrueOf_135 : dropTo 135 k_X5_isTrueOf = s_X5_isTrueOf_135 := rfl
theorem ok_X5_isTrueOf : mOkF m_X5_isTrueOf k_X5_isTrueOf = true := by decide +kernel
theorem cm_X5_isTrueOf : mChkM m_X5_isTrueOf = true := by decide +kernel
def s_X5_readAll_62 : List mE := (62, .iconst 1, 1, 0, 0, 0, .inl (nI 1), []) ::
  (63, .ireturn, 1, 1, 0, 0, .inl 0, []) :: []
def s_X5_readAll_47 : List mE := (47, .aload_n 0, 1, 0, 0, 0, .inl 0, []) ::
  (48, .bipush 10, 2, 0, 0, 0, .inl (nI 10), []) ::
  (50, .iconst 0, 1, 0, 0, 0, .inl (nI 0), []) ::
  (51, .iconst 0, 1, 0, 0, 0, .inl (nI 0), []) ::
  (52, .invokevirtual 65, 3, 49, 4, 1, .inl 0, [1052, 4]) ::
  (55, .pop, 1, 0, 0, 0, .inl 0, []) ::
  (56, .iinc 4 1, 3, 4, 0, 0, .inl (nI 1), []) ::
  (59, .goto (-44), 3, 15, 0, 0, .inl 0, []) :: s_X5_readAll_62
def s_X5_readAll_15 : List mE := (15, .iload 4, 2, 4, 0, 0, .inl 0, []) ::
  (17, .bipush 20, 2, 0, 0, 0, .inl (nI 20), []) ::
  (19, .if_icmp .ge 43, 3, 62, 0, 0, .inl 0, []) ::
  (22, .aload_n 1, 1, 1, 0, 0, .inl 0, []) ::
  (23, .getfield 57, 3, 5, 8, 0, .inl 0, [201]) ::
  (26, .bipush 10, 2, 0, 0, 0, .inl (nI 10), []) ::
  (28, .if_icmp .ne 34, 3, 62, 0, 0, .inl 0, []) ::
  (31, .aload_n 1, 1, 1, 0, 0, .inl 0, []) ::
  (32, .invokevirtual 62, 3, 61, 1, 0, .inl 0, [1050, 5]) ::
  (35, .aload_n 0, 1, 0, 0, 0, .inl 0, []) ::
  (36, .aload_n 1, 1, 1, 0, 0, .inl 0, []) ::
  (37, .aload_n 2, 1, 2, 0, 0, .inl 0, []) ::
  (38, .iload_n 3, 1, 3, 0, 0, .inl 0, []) ::
  (39, .invokevirtual 69, 3, 60, 4, 1, .inl 0, [1044, 4]) ::
  (42, .ifCond .ne 5, 3, 47, 0, 0, .inl 0, []) ::
  (45, .iconst 0, 1, 0, 0, 0, .inl (nI 0), []) ::
  (46, .ireturn, 1, 1, 0, 0, .inl 0, []) :: s_X5_readAll_47
def s_X5_readAll_12 : List mE := (12, .iconst 0, 1, 0, 0, 0, .inl (nI 0), []) ::
  (13, .istore 4, 2, 4, 0, 0, .inl 0, []) :: s_X5_readAll_15
def s_X5_readAll_0 : List mE := (0, .aload_n 0, 1, 0, 0, 0, .inl 0, []) ::
  (1, .aload_n 1, 1, 1, 0, 0, .inl 0, []) ::
  (2, .aload_n 2, 1, 2, 0, 0, .inl 0, []) ::
  (3, .iload_n 3, 1, 3, 0, 0, .inl 0, []) ::
  (4, .invokevirtual 69, 3, 60, 4, 1, .inl 0, [1044, 4]) ::
  (7, .ifCond .ne 5, 3, 12, 0, 0, .inl 0, []) ::
  (10, .iconst 0, 1, 0, 0, 0, .inl (nI 0), []) ::
  (11, .ireturn, 1, 1, 0, 0, .inl 0, []) :: s_X5_readAll_12
def k_X5_readAll : List mE := s_X5_readAll_0
set_option maxRecDepth 100000 in
theorem t_X5_readAll_0 : dropTo 0 k_X5_readAll = s_X5_readAll_0 := rfl
set_option maxRecDepth 100000 in
theorem t_X5_readAll_12 : dropTo 12 k_X5_readAll = s_X5_readAll_12 := rfl
set_option maxRecDepth 100000 in
theorem t_X5_readAll_15 : dropTo 15 k_X5_readAll = s_X5_readAll_15 := rfl
set_option maxRecDepth 100000 in
theorem t_X5_readAll_47 : dropTo 47 k_X5_readAll = s_X5_readAll_47 := rfl
set_option maxRecDepth 100000 in
theorem t_X5_readAll_62 : dropTo 62 k_X5_readAll = s_X5_readAll_62 := rfl
theorem ok_X5_readAll : mOkF m_X5_readAll k_X5_readAll = true := by decide +kernel
theorem cm_X5_readAll : mChkM m_X5_readAll = true := by decide +kernel
def s_X5_readComparison_36 : List mE := (36, .aload_n 1, 1, 1, 0, 0, .inl 0, []) ::
  (37, .getfield 99, 3, 5, 7, 0, .inl 0, [198]) ::
  (40, .istore 4, 2, 4, 0, 0, .inl 0, []) ::
  (42, .aload_n 1, 1, 1, 0, 0, .inl 0, []) ::
  (43, .invokevirtual 62, 3, 61, 1, 0, .inl 0, [1050, 5]) ::
  (46, .aload_n 0, 1, 0, 0, 0, .inl 0, []) ::
  (47, .iload_n 2, 1, 2, 0, 0, .inl 0, []) ::
  (48, .iload 4, 2, 4, 0, 0, .inl 0, []) ::
  (50, .iload_n 3, 1, 3, 0, 0, .inl 0, []) ::
  (51, .invokevirtual 65, 3, 49, 4, 1, .inl 0, [1052, 4]) ::
  (54, .ireturn, 1, 1, 0, 0, .inl 0, []) :: []
def s_X5_readComparison_13 : List mE := (13, .aload_n 1, 1, 1, 0, 0, .inl 0, []) ::
  (14, .getfield 99, 3, 5, 7, 0, .inl 0, [198]) ::
  (17, .istore_n 3, 1, 3, 0, 0, .inl 0, []) ::
  (18, .aload_n 1, 1, 1, 0, 0, .inl 0, []) ::
  (19, .invokevirtual 62, 3, 61, 1, 0, .inl 0, [1050, 5]) ::
  (22, .aload_n 1, 1, 1, 0, 0, .inl 0, []) ::
  (23, .getfield 47, 3, 5, 5, 0, .inl 0, [193]) ::
  (26, .iconst 3, 1, 0, 0, 0, .inl (nI 3), []) ::
  (27, .if_icmp .eq 9, 3, 36, 0, 0, .inl 0, []) ::
  (30, .aload_n 1, 1, 1, 0, 0, .inl 0, []) ::
  (31, .iconst 1, 1, 0, 0, 0, .inl (nI 1), []) ::
  (32, .invokevirtual 50, 3, 62, 2, 1, .inl 0, [1049, 5]) ::
  (35, .ireturn, 1, 1, 0, 0, .inl 0, []) :: s_X5_readComparison_36
def s_X5_readComparison_0 : List mE := (0, .aload_n 1, 1, 1, 0, 0, .inl 0, []) ::
  (1, .invokevirtual 95, 3, 64, 1, 1, .inl 0, [1060, 5]) ::
  (4, .ifCond .ne 9, 3, 13, 0, 0, .inl 0, []) ::
  (7, .aload_n 1, 1, 1, 0, 0, .inl 0, []) ::
  (8, .iconst 1, 1, 0, 0, 0, .inl (nI 1), []) ::
  (9, .invokevirtual 50, 3, 62, 2, 1, .inl 0, [1049, 5]) ::
  (12, .ireturn, 1, 1, 0, 0, .inl 0, []) :: s_X5_readComparison_13
def k_X5_readComparison : List mE := s_X5_readComparison_0
set_option maxRecDepth 100000 in
theorem t_X5_readComparison_0 : dropTo 0 k_X5_readComparison = s_X5_readComparison_0 := rfl
set_option maxRecDepth 100000 in
theorem t_X5_readComparison_13 : dropTo 13 k_X5_readComparison = s_X5_readComparison_13 := rfl
set_option maxRecDepth 100000 in
theorem t_X5_readComparison_36 : dropTo 36 k_X5_readComparison = s_X5_readComparison_36 := rfl
theorem ok_X5_readComparison : mOkF m_X5_readComparison k_X5_readComparison = true := by decide +kernel
theorem cm_X5_readComparison : mChkM m_X5_readComparison = true := by decide +kernel
def s_X5_readCondition_62 : List mE := (62, .iconst 1, 1, 0, 0, 0, .inl (nI 1), []) ::
  (63, .ireturn, 1, 1, 0, 0, .inl 0, []) :: []
def s_X5_readCondition_47 : List mE := (47, .aload_n 0, 1, 0, 0, 0, .inl 0, []) ::
  (48, .bipush 9, 2, 0, 0, 0, .inl (nI 9), []) ::
  (50, .iconst 0, 1, 0, 0, 0, .inl (nI 0), []) ::
  (51, .iconst 0, 1, 0, 0, 0, .inl (nI 0), []) ::
  (52, .invokevirtual 65, 3, 49, 4, 1, .inl 0, [1052, 4]) ::
  (55, .pop, 1, 0, 0, 0, .inl 0, []) ::
  (56, .iinc 4 1, 3, 4, 0, 0, .inl (nI 1), []) ::
  (59, .goto (-44), 3, 15, 0, 0, .inl 0, []) :: s_X5_readCondition_62
def s_X5_readCondition_15 : List mE := (15, .iload 4, 2, 4, 0, 0, .inl 0, []) ::
  (17, .bipush 20, 2, 0, 0, 0, .inl (nI 20), []) ::
  (19, .if_icmp .ge 43, 3, 62, 0, 0, .inl 0, []) ::
  (22, .aload_n 1, 1, 1, 0, 0, .inl 0, []) ::
  (23, .getfield 57, 3, 5, 8, 0, .inl 0, [201]) ::
  (26, .bipush 9, 2, 0, 0, 0, .inl (nI 9), []) ::
  (28, .if_icmp .ne 34, 3, 62, 0, 0, .inl 0, []) ::
  (31, .aload_n 1, 1, 1, 0, 0, .inl 0, []) ::
  (32, .invokevirtual 62, 3, 61, 1, 0, .inl 0, [1050, 5]) ::
  (35, .aload_n 0, 1, 0, 0, 0, .inl 0, []) ::
  (36, .aload_n 1, 1, 1, 0, 0, .inl 0, []) ::
  (37, .aload_n 2, 1, 2, 0, 0, .inl 0, []) ::
  (38, .iload_n 3, 1, 3, 0, 0, .inl 0, []) ::
  (39, .invokevirtual 54, 3, 55, 4, 1, .inl 0, [1040, 4]) ::
  (42, .ifCond .ne 5, 3, 47, 0, 0, .inl 0, []) ::
  (45, .iconst 0, 1, 0, 0, 0, .inl (nI 0), []) ::
  (46, .ireturn, 1, 1, 0, 0, .inl 0, []) :: s_X5_readCondition_47
def s_X5_readCondition_12 : List mE := (12, .iconst 0, 1, 0, 0, 0, .inl (nI 0), []) ::
  (13, .istore 4, 2, 4, 0, 0, .inl 0, []) :: s_X5_readCondition_15
def s_X5_readCondition_0 : List mE := (0, .aload_n 0, 1, 0, 0, 0, .inl 0, []) ::
  (1, .aload_n 1, 1, 1, 0, 0, .inl 0, []) ::
  (2, .aload_n 2, 1, 2, 0, 0, .inl 0, []) ::
  (3, .iload_n 3, 1, 3, 0, 0, .inl 0, []) ::
  (4, .invokevirtual 54, 3, 55, 4, 1, .inl 0, [1040, 4]) ::
  (7, .ifCond .ne 5, 3, 12, 0, 0, .inl 0, []) ::
  (10, .iconst 0, 1, 0, 0, 0, .inl (nI 0), []) ::
  (11, .ireturn, 1, 1, 0, 0, .inl 0, []) :: s_X5_readCondition_12
def k_X5_readCondition : List mE := s_X5_readCondition_0
set_option maxRecDepth 100000 in
theorem t_X5_readCondition_0 : dropTo 0 k_X5_readCondition = s_X5_readCondition_0 := rfl
set_option maxRecDepth 100000 in
theorem t_X5_readCondition_12 : dropTo 12 k_X5_readCondition = s_X5_readCondition_12 := rfl
set_option maxRecDepth 100000 in
theorem t_X5_readCondition_15 : dropTo 15 k_X5_readCondition = s_X5_readCondition_15 := rfl
set_option maxRecDepth 100000 in
theorem t_X5_readCondition_47 : dropTo 47 k_X5_readCondition = s_X5_readCondition_47 := rfl
set_option maxRecDepth 100000 in
theorem t_X5_readCondition_62 : dropTo 62 k_X5_readCondition = s_X5_readCondition_62 := rfl
theorem ok_X5_readCondition : mOkF m_X5_readCondition k_X5_readCondition = true := by decide +kernel
theorem cm_X5_readCondition : mChkM m_X5_readCondition = true := by decide +kernel
def s_X5_readFrom_43 : List mE := (43, .ireturn, 1, 1, 0, 0, .inl 0, []) :: []
def s_X5_readFrom_42 : List mE := (42, .iconst 0, 1, 0, 0, 0, .inl (nI 0), []) :: s_X5_readFrom_43
def s_X5_readFrom_38 : List mE := (38, .iconst 1, 1, 0, 0, 0, .inl (nI 1), []) ::
  (39, .goto 4, 3, 43, 0, 0, .inl 0, []) :: s_X5_readFrom_42
def s_X5_readFrom_23 : List mE := (23, .aload_n 1, 1, 1, 0, 0, .inl 0, []) ::
  (24, .getfield 47, 3, 5, 5, 0, .inl 0, [193]) ::
  (27, .ifCond .eq 11, 3, 38, 0, 0, .inl 0, []) ::
  (30, .aload_n 1, 1, 1, 0, 0, .inl 0, []) ::
  (31, .iconst 1, 1, 0, 0, 0, .inl (nI 1), []) ::
  (32, .invokevirtual 50, 3, 62, 2, 1, .inl 0, [1049, 5]) ::
  (35, .ifCond .eq 7, 3, 42, 0, 0, .inl 0, []) :: s_X5_readFrom_38
def s_X5_readFrom_0 : List mE := (0, .aload_n 0, 1, 0, 0, 0, .inl 0, []) ::
  (1, .invokevirtual 34, 3, 50, 1, 0, .inl 0, [1034, 4]) ::
  (4, .aload_n 1, 1, 1, 0, 0, .inl 0, []) ::
  (5, .sipush 200, 3, 0, 0, 0, .inl (nI 200), []) ::
  (8, .invokevirtual 37, 3, 67, 2, 0, .inl 0, [1035, 5]) ::
  (11, .aload_n 0, 1, 0, 0, 0, .inl 0, []) ::
  (12, .aload_n 1, 1, 1, 0, 0, .inl 0, []) ::
  (13, .aload_n 2, 1, 2, 0, 0, .inl 0, []) ::
  (14, .iconst 1, 1, 0, 0, 0, .inl (nI 1), []) ::
  (15, .invokevirtual 43, 3, 57, 4, 1, .inl 0, [1036, 4]) ::
  (18, .ifCond .ne 5, 3, 23, 0, 0, .inl 0, []) ::
  (21, .iconst 0, 1, 0, 0, 0, .inl (nI 0), []) ::
  (22, .ireturn, 1, 1, 0, 0, .inl 0, []) :: s_X5_readFrom_23
def k_X5_readFrom : List mE := s_X5_readFrom_0
set_option maxRecDepth 100000 in
theorem t_X5_readFrom_0 : dropTo 0 k_X5_readFrom = s_X5_readFrom_0 := rfl
set_option maxRecDepth 100000 in
theorem t_X5_readFrom_23 : dropTo 23 k_X5_readFrom = s_X5_readFrom_23 := rfl
set_option maxRecDepth 100000 in
theorem t_X5_readFrom_38 : dropTo 38 k_X5_readFrom = s_X5_readFrom_38 := rfl
set_option maxRecDepth 100000 in
theorem t_X5_readFrom_42 : dropTo 42 k_X5_readFrom = s_X5_readFrom_42 := rfl
set_option maxRecDepth 100000 in
theorem t_X5_readFrom_43 : dropTo 43 k_X5_readFrom = s_X5_readFrom_43 := rfl
theorem ok_X5_readFrom : mOkF m_X5_readFrom k_X5_readFrom = true := by decide +kernel
theorem cm_X5_readFrom : mChkM m_X5_readFrom = true := by decide +kernel
def s_X5_readNamed_29 : List mE := (29, .aload_n 1, 1, 1, 0, 0, .inl 0, []) ::
  (30, .invokevirtual 62, 3, 61, 1, 0, .inl 0, [1050, 5]) ::
  (33, .aload_n 0, 1, 0, 0, 0, .inl 0, []) ::
  (34, .iload_n 3, 1, 3, 0, 0, .inl 0, []) ::
  (35, .iload 4, 2, 4, 0, 0, .inl 0, []) ::
  (37, .iconst 0, 1, 0, 0, 0, .inl (nI 0), []) ::
  (38, .invokevirtual 65, 3, 49, 4, 1, .inl 0, [1052, 4]) ::
  (41, .ireturn, 1, 1, 0, 0, .inl 0, []) :: []
def s_X5_readNamed_19 : List mE := (19, .istore 4, 2, 4, 0, 0, .inl 0, []) ::
  (21, .iload 4, 2, 4, 0, 0, .inl 0, []) ::
  (23, .iconst (-1), 1, 0, 0, 0, .inl (-1), []) ::
  (24, .if_icmp .ne 5, 3, 29, 0, 0, .inl 0, []) ::
  (27, .iconst 0, 1, 0, 0, 0, .inl (nI 0), []) ::
  (28, .ireturn, 1, 1, 0, 0, .inl 0, []) :: s_X5_readNamed_29
def s_X5_readNamed_14 : List mE := (14, .aload_n 2, 1, 2, 0, 0, .inl 0, []) ::
  (15, .aload_n 1, 1, 1, 0, 0, .inl 0, []) ::
  (16, .invokevirtual 92, 3, 7, 2, 1, .inl 0, [1069, 0]) :: s_X5_readNamed_19
def s_X5_readNamed_0 : List mE := (0, .iload_n 3, 1, 3, 0, 0, .inl 0, []) ::
  (1, .bipush 14, 2, 0, 0, 0, .inl (nI 14), []) ::
  (3, .if_icmp .ne 11, 3, 14, 0, 0, .inl 0, []) ::
  (6, .aload_n 2, 1, 2, 0, 0, .inl 0, []) ::
  (7, .aload_n 1, 1, 1, 0, 0, .inl 0, []) ::
  (8, .invokevirtual 86, 3, 8, 2, 1, .inl 0, [1068, 0]) ::
  (11, .goto 8, 3, 19, 0, 0, .inl 0, []) :: s_X5_readNamed_14
def k_X5_readNamed : List mE := s_X5_readNamed_0
set_option maxRecDepth 100000 in
theorem t_X5_readNamed_0 : dropTo 0 k_X5_readNamed = s_X5_readNamed_0 := rfl
set_option maxRecDepth 100000 in
theorem t_X5_readNamed_14 : dropTo 14 k_X5_readNamed = s_X5_readNamed_14 := rfl
set_option maxRecDepth 100000 in
theorem t_X5_readNamed_19 : dropTo 19 k_X5_readNamed = s_X5_readNamed_19 := rfl
set_option maxRecDepth 100000 in
theorem t_X5_readNamed_29 : dropTo 29 k_X5_readNamed = s_X5_readNamed_29 := rfl
theorem ok_X5_readNamed : mOkF m_X5_readNamed k_X5_readNamed = true := by decide +kernel
theorem cm_X5_readNamed : mChkM m_X5_readNamed = true := by decide +kernel
def s_X5_readOne_150 : List mE := (150, .aload_n 0, 1, 0, 0, 0, .inl 0, []) ::
  (151, .aload_n 1, 1, 1, 0, 0, .inl 0, []) ::
  (152, .aload_n 2, 1, 2, 0, 0, .inl 0, []) ::
  (153, .iload 5, 2, 5, 0, 0, .inl 0, []) ::
  (155, .invokevirtual 83, 3, 59, 4, 1, .inl 0, [1064, 4]) ::
  (158, .ireturn, 1, 1, 0, 0, .inl 0, []) :: []
def s_X5_readOne_135 : List mE := (135, .iload 5, 2, 5, 0, 0, .inl 0, []) ::
  (137, .bipush 15, 2, 0, 0, 0, .inl (nI 15), []) ::
  (139, .if_icmp .lt 11, 3, 150, 0, 0, .inl 0, []) ::
  (142, .aload_n 0, 1, 0, 0, 0, .inl 0, []) ::
  (143, .aload_n 1, 1, 1, 0, 0, .inl 0, []) ::
  (144, .iload 5, 2, 5, 0, 0, .inl 0, []) ::
  (146, .invokevirtual 79, 3, 56, 3, 1, .inl 0, [1056, 4]) ::
  (149, .ireturn, 1, 1, 0, 0, .inl 0, []) :: s_X5_readOne_150
def s_X5_readOne_134 : List mE := (134, .ireturn, 1, 1, 0, 0, .inl 0, []) :: s_X5_readOne_135
def s_X5_readOne_133 : List mE := (133, .iconst 0, 1, 0, 0, 0, .inl (nI 0), []) :: s_X5_readOne_134
def s_X5_readOne_99 : List mE := (99, .iload 5, 2, 5, 0, 0, .inl 0, []) ::
  (101, .bipush 11, 2, 0, 0, 0, .inl (nI 11), []) ::
  (103, .if_icmp .ne 32, 3, 135, 0, 0, .inl 0, []) ::
  (106, .aload_n 0, 1, 0, 0, 0, .inl 0, []) ::
  (107, .aload_n 1, 1, 1, 0, 0, .inl 0, []) ::
  (108, .aload_n 2, 1, 2, 0, 0, .inl 0, []) ::
  (109, .iload_n 3, 1, 3, 0, 0, .inl 0, []) ::
  (110, .iconst 1, 1, 0, 0, 0, .inl (nI 1), []) ::
  (111, .iadd, 1, 0, 0, 0, .inl 0, []) ::
  (112, .invokevirtual 69, 3, 60, 4, 1, .inl 0, [1044, 4]) ::
  (115, .ifCond .eq 18, 3, 133, 0, 0, .inl 0, []) ::
  (118, .aload_n 0, 1, 0, 0, 0, .inl 0, []) ::
  (119, .iload 5, 2, 5, 0, 0, .inl 0, []) ::
  (121, .iconst 0, 1, 0, 0, 0, .inl (nI 0), []) ::
  (122, .iconst 0, 1, 0, 0, 0, .inl (nI 0), []) ::
  (123, .invokevirtual 65, 3, 49, 4, 1, .inl 0, [1052, 4]) ::
  (126, .ifCond .eq 7, 3, 133, 0, 0, .inl 0, []) ::
  (129, .iconst 1, 1, 0, 0, 0, .inl (nI 1), []) ::
  (130, .goto 4, 3, 134, 0, 0, .inl 0, []) :: s_X5_readOne_133
def s_X5_readOne_98 : List mE := (98, .ireturn, 1, 1, 0, 0, .inl 0, []) :: s_X5_readOne_99
def s_X5_readOne_97 : List mE := (97, .iconst 0, 1, 0, 0, 0, .inl (nI 0), []) :: s_X5_readOne_98
def s_X5_readOne_53 : List mE := (53, .aload_n 0, 1, 0, 0, 0, .inl 0, []) ::
  (54, .dup, 1, 0, 0, 0, .inl 0, []) ::
  (55, .getfield 21, 3, 4, 0, 0, .inl 0, [355]) ::
  (58, .iconst 1, 1, 0, 0, 0, .inl (nI 1), []) ::
  (59, .iadd, 1, 0, 0, 0, .inl 0, []) ::
  (60, .putfield 21, 3, 4, 0, 0, .inl 0, [355]) ::
  (63, .aload_n 1, 1, 1, 0, 0, .inl 0, []) ::
  (64, .invokevirtual 62, 3, 61, 1, 0, .inl 0, [1050, 5]) ::
  (67, .iload 4, 2, 4, 0, 0, .inl 0, []) ::
  (69, .ifCond .eq 30, 3, 99, 0, 0, .inl 0, []) ::
  (72, .aload_n 0, 1, 0, 0, 0, .inl 0, []) ::
  (73, .aload_n 1, 1, 1, 0, 0, .inl 0, []) ::
  (74, .aload_n 2, 1, 2, 0, 0, .inl 0, []) ::
  (75, .iload_n 3, 1, 3, 0, 0, .inl 0, []) ::
  (76, .iconst 1, 1, 0, 0, 0, .inl (nI 1), []) ::
  (77, .iadd, 1, 0, 0, 0, .inl 0, []) ::
  (78, .invokevirtual 43, 3, 57, 4, 1, .inl 0, [1036, 4]) ::
  (81, .ifCond .eq 16, 3, 97, 0, 0, .inl 0, []) ::
  (84, .aload_n 1, 1, 1, 0, 0, .inl 0, []) ::
  (85, .bipush 41, 2, 0, 0, 0, .inl (nI 41), []) ::
  (87, .invokevirtual 76, 3, 71, 2, 1, .inl 0, [1051, 5]) ::
  (90, .ifCond .eq 7, 3, 97, 0, 0, .inl 0, []) ::
  (93, .iconst 1, 1, 0, 0, 0, .inl (nI 1), []) ::
  (94, .goto 4, 3, 98, 0, 0, .inl 0, []) :: s_X5_readOne_97
def s_X5_readOne_47 : List mE := (47, .aload_n 1, 1, 1, 0, 0, .inl 0, []) ::
  (48, .iconst 4, 1, 0, 0, 0, .inl (nI 4), []) ::
  (49, .invokevirtual 50, 3, 62, 2, 1, .inl 0, [1049, 5]) ::
  (52, .ireturn, 1, 1, 0, 0, .inl 0, []) :: s_X5_readOne_53
def s_X5_readOne_32 : List mE := (32, .aload_n 0, 1, 0, 0, 0, .inl 0, []) ::
  (33, .getfield 21, 3, 4, 0, 0, .inl 0, [355]) ::
  (36, .bipush 20, 2, 0, 0, 0, .inl (nI 20), []) ::
  (38, .if_icmp .ge 9, 3, 47, 0, 0, .inl 0, []) ::
  (41, .iload_n 3, 1, 3, 0, 0, .inl 0, []) ::
  (42, .bipush 8, 2, 0, 0, 0, .inl (nI 8), []) ::
  (44, .if_icmp .le 9, 3, 53, 0, 0, .inl 0, []) :: s_X5_readOne_47
def s_X5_readOne_0 : List mE := (0, .aload_n 1, 1, 1, 0, 0, .inl 0, []) ::
  (1, .bipush 40, 2, 0, 0, 0, .inl (nI 40), []) ::
  (3, .invokevirtual 72, 3, 66, 2, 1, .inl 0, [1048, 5]) ::
  (6, .istore 4, 2, 4, 0, 0, .inl 0, []) ::
  (8, .aload_n 1, 1, 1, 0, 0, .inl 0, []) ::
  (9, .getfield 57, 3, 5, 8, 0, .inl 0, [201]) ::
  (12, .istore 5, 2, 5, 0, 0, .inl 0, []) ::
  (14, .iload 4, 2, 4, 0, 0, .inl 0, []) ::
  (16, .ifCond .ne 16, 3, 32, 0, 0, .inl 0, []) ::
  (19, .iload 5, 2, 5, 0, 0, .inl 0, []) ::
  (21, .bipush 11, 2, 0, 0, 0, .inl (nI 11), []) ::
  (23, .if_icmp .ge 9, 3, 32, 0, 0, .inl 0, []) ::
  (26, .aload_n 1, 1, 1, 0, 0, .inl 0, []) ::
  (27, .iconst 1, 1, 0, 0, 0, .inl (nI 1), []) ::
  (28, .invokevirtual 50, 3, 62, 2, 1, .inl 0, [1049, 5]) ::
  (31, .ireturn, 1, 1, 0, 0, .inl 0, []) :: s_X5_readOne_32
def k_X5_readOne : List mE := s_X5_readOne_0
set_option maxRecDepth 100000 in
theorem t_X5_readOne_0 : dropTo 0 k_X5_readOne = s_X5_readOne_0 := rfl
set_option maxRecDepth 100000 in
theorem t_X5_readOne_32 : dropTo 32 k_X5_readOne = s_X5_readOne_32 := rfl
set_option maxRecDepth 100000 in
theorem t_X5_readOne_47 : dropTo 47 k_X5_readOne = s_X5_readOne_47 := rfl
set_option maxRecDepth 100000 in
theorem t_X5_readOne_53 : dropTo 53 k_X5_readOne = s_X5_readOne_53 := rfl
set_option maxRecDepth 100000 in
theorem t_X5_readOne_97 : dropTo 97 k_X5_readOne = s_X5_readOne_97 := rfl
set_option maxRecDepth 100000 in
theorem t_X5_readOne_98 : dropTo 98 k_X5_readOne = s_X5_readOne_98 := rfl
set_option maxRecDepth 100000 in
theorem t_X5_readOne_99 : dropTo 99 k_X5_readOne = s_X5_readOne_99 := rfl
set_option maxRecDepth 100000 in
theorem t_X5_readOne_133 : dropTo 133 k_X5_readOne = s_X5_readOne_133 := rfl
set_option maxRecDepth 100000 in
theorem t_X5_readOne_134 : dropTo 134 k_X5_readOne = s_X5_readOne_134 := rfl
set_option maxRecDepth 100000 in
theorem t_X5_readOne_135 : dropTo 135 k_X5_readOne = s_X5_readOne_135 := rfl
set_option maxRecDepth 100000 in
theorem t_X5_readOne_150 : dropTo 150 k_X5_readOne = s_X5_readOne_150 := rfl
theorem ok_X5_readOne : mOkF m_X5_readOne k_X5_readOne = true := by decide +kernel
theorem cm_X5_readOne : mChkM m_X5_readOne = true := by decide +kernel
def s_X6_advance_122 : List mE := (122, .return_, 1, 0, 0, 0, .inl 0, []) :: []
def s_X6_advance_118 : List mE := (118, .aload_n 0, 1, 0, 0, 0, .inl 0, []) ::
  (119, .invokevirtual 62, 3, 69, 1, 0, .inl 0, [573, 5]) :: s_X6_advance_122
def s_X6_advance_89 : List mE := (89, .aload_n 0, 1, 0, 0, 0, .inl 0, []) ::
  (90, .iload_n 1, 1, 1, 0, 0, .inl 0, []) ::
  (91, .putfield 59, 3, 5, 6, 0, .inl 0, [196]) ::
  (94, .iload_n 1, 1, 1, 0, 0, .inl 0, []) ::
  (95, .aload_n 0, 1, 0, 0, 0, .inl 0, []) ::
  (96, .getfield 28, 3, 5, 2, 0, .inl 0, [188]) ::
  (99, .if_icmp .lt 19, 3, 118, 0, 0, .inl 0, []) ::
  (102, .aload_n 0, 1, 0, 0, 0, .inl 0, []) ::
  (103, .iconst 0, 1, 0, 0, 0, .inl (nI 0), []) ::
  (104, .putfield 56, 3, 5, 5, 0, .inl 0, [194]) ::
  (107, .aload_n 0, 1, 0, 0, 0, .inl 0, []) ::
  (108, .aload_n 0, 1, 0, 0, 0, .inl 0, []) ::
  (109, .getfield 28, 3, 5, 2, 0, .inl 0, [188]) ::
  (112, .putfield 35, 3, 5, 4, 0, .inl 0, [191]) ::
  (115, .goto 7, 3, 122, 0, 0, .inl 0, []) :: s_X6_advance_118
def s_X6_advance_41 : List mE := (41, .aload_n 0, 1, 0, 0, 0, .inl 0, []) ::
  (42, .iconst 0, 1, 0, 0, 0, .inl (nI 0), []) ::
  (43, .putfield 50, 3, 5, 7, 0, .inl 0, [197]) ::
  (46, .aload_n 0, 1, 0, 0, 0, .inl 0, []) ::
  (47, .iconst (-1), 1, 0, 0, 0, .inl (-1), []) ::
  (48, .putfield 53, 3, 5, 8, 0, .inl 0, [202]) ::
  (51, .iload_n 1, 1, 1, 0, 0, .inl 0, []) ::
  (52, .aload_n 0, 1, 0, 0, 0, .inl 0, []) ::
  (53, .getfield 32, 3, 5, 3, 0, .inl 0, [190]) ::
  (56, .if_icmp .lt 33, 3, 89, 0, 0, .inl 0, []) ::
  (59, .aload_n 0, 1, 0, 0, 0, .inl 0, []) ::
  (60, .getfield 28, 3, 5, 2, 0, .inl 0, [188]) ::
  (63, .aload_n 0, 1, 0, 0, 0, .inl 0, []) ::
  (64, .getfield 32, 3, 5, 3, 0, .inl 0, [190]) ::
  (67, .if_icmp .le 22, 3, 89, 0, 0, .inl 0, []) ::
  (70, .aload_n 0, 1, 0, 0, 0, .inl 0, []) ::
  (71, .iconst 1, 1, 0, 0, 0, .inl (nI 1), []) ::
  (72, .putfield 56, 3, 5, 5, 0, .inl 0, [194]) ::
  (75, .aload_n 0, 1, 0, 0, 0, .inl 0, []) ::
  (76, .aload_n 0, 1, 0, 0, 0, .inl 0, []) ::
  (77, .getfield 32, 3, 5, 3, 0, .inl 0, [190]) ::
  (80, .putfield 59, 3, 5, 6, 0, .inl 0, [196]) ::
  (83, .aload_n 0, 1, 0, 0, 0, .inl 0, []) ::
  (84, .iload_n 1, 1, 1, 0, 0, .inl 0, []) ::
  (85, .putfield 35, 3, 5, 4, 0, .inl 0, [191]) ::
  (88, .return_, 1, 0, 0, 0, .inl 0, []) :: s_X6_advance_89
def s_X6_advance_35 : List mE := (35, .iinc 1 1, 3, 1, 0, 0, .inl (nI 1), []) ::
  (38, .goto (-33), 3, 5, 0, 0, .inl 0, []) :: s_X6_advance_41
def s_X6_advance_5 : List mE := (5, .iload_n 1, 1, 1, 0, 0, .inl 0, []) ::
  (6, .aload_n 0, 1, 0, 0, 0, .inl 0, []) ::
  (7, .getfield 28, 3, 5, 2, 0, .inl 0, [188]) ::
  (10, .if_icmp .ge 31, 3, 41, 0, 0, .inl 0, []) ::
  (13, .aload_n 0, 1, 0, 0, 0, .inl 0, []) ::
  (14, .getfield 11, 3, 5, 0, 3, .inr (.inr (16, 940, 1)), [185]) ::
  (17, .iload_n 1, 1, 1, 0, 0, .inl 0, []) ::
  (18, .iaload, 1, 0, 0, 0, .inl 0, []) ::
  (19, .bipush 32, 2, 0, 0, 0, .inl (nI 32), []) ::
  (21, .if_icmp .eq 14, 3, 35, 0, 0, .inl 0, []) ::
  (24, .aload_n 0, 1, 0, 0, 0, .inl 0, []) ::
  (25, .getfield 11, 3, 5, 0, 3, .inr (.inr (16, 940, 1)), [185]) ::
  (28, .iload_n 1, 1, 1, 0, 0, .inl 0, []) ::
  (29, .iaload, 1, 0, 0, 0, .inl 0, []) ::
  (30, .bipush 10, 2, 0, 0, 0, .inl (nI 10), []) ::
  (32, .if_icmp .ne 9, 3, 41, 0, 0, .inl 0, []) :: s_X6_advance_35
def s_X6_advance_0 : List mE := (0, .aload_n 0, 1, 0, 0, 0, .inl 0, []) ::
  (1, .getfield 35, 3, 5, 4, 0, .inl 0, [191]) ::
  (4, .istore_n 1, 1, 1, 0, 0, .inl 0, []) :: s_X6_advance_5
def k_X6_advance : List mE := s_X6_advance_0
set_option maxRecDepth 100000 in
theorem t_X6_advance_0 : dropTo 0 k_X6_advance = s_X6_advance_0 := rfl
set_option maxRecDepth 100000 in
theorem t_X6_advance_5 : dropTo 5 k_X6_advance = s_X6_advance_5 := rfl
set_option maxRecDepth 100000 in
theorem t_X6_advance_35 : dropTo 35 k_X6_advance = s_X6_advance_35 := rfl
set_option maxRecDepth 100000 in
theorem t_X6_advance_41 : dropTo 41 k_X6_advance = s_X6_advance_41 := rfl
set_option maxRecDepth 100000 in
theorem t_X6_advance_89 : dropTo 89 k_X6_advance = s_X6_advance_89 := rfl
set_option maxRecDepth 100000 in
theorem t_X6_advance_118 : dropTo 118 k_X6_advance = s_X6_advance_118 := rfl
set_option maxRecDepth 100000 in
theorem t_X6_advance_122 : dropTo 122 k_X6_advance = s_X6_advance_122 := rfl
theorem ok_X6_advance : mOkF m_X6_advance k_X6_advance = true := by decide +kernel
theorem cm_X6_advance : mChkM m_X6_advance = true := by decide +kernel
def s_X6_fail_0 : List mE := (0, .aload_n 0, 1, 0, 0, 0, .inl 0, []) ::
  (1, .iload_n 1, 1, 1, 0, 0, .inl 0, []) ::
  (2, .putfield 41, 3, 5, 10, 0, .inl 0, [207]) ::
  (5, .aload_n 0, 1, 0, 0, 0, .inl 0, []) ::
  (6, .aload_n 0, 1, 0, 0, 0, .inl 0, []) ::
  (7, .getfield 59, 3, 5, 6, 0, .inl 0, [196]) ::
  (10, .putfield 44, 3, 5, 11, 0, .inl 0, [209]) ::
  (13, .iconst 0, 1, 0, 0, 0, .inl (nI 0), []) ::
  (14, .ireturn, 1, 1, 0, 0, .inl 0, []) :: []
def k_X6_fail : List mE := s_X6_fail_0
set_option maxRecDepth 100000 in
theorem t_X6_fail_0 : dropTo 0 k_X6_fail = s_X6_fail_0 := rfl
theorem ok_X6_fail : mOkF m_X6_fail k_X6_fail = true := by decide +kernel
theorem cm_X6_fail : mChkM m_X6_fail = true := by decide +kernel
def s_X6_hasRoomForFive_18 : List mE := (18, .ireturn, 1, 1, 0, 0, .inl 0, []) :: []
def s_X6_hasRoomForFive_17 : List mE := (17, .iconst 0, 1, 0, 0, 0, .inl (nI 0), []) :: s_X6_hasRoomForFive_18
def s_X6_hasRoomForFive_0 : List mE := (0, .aload_n 0, 1, 0, 0, 0, .inl 0, []) ::
  (1, .getfield 28, 3, 5, 2, 0, .inl 0, [188]) ::
  (4, .bipush 20, 2, 0, 0, 0, .inl (nI 20), []) ::
  (6, .iadd, 1, 0, 0, 0, .inl 0, []) ::
  (7, .sipush 940, 3, 0, 0, 0, .inl (nI 940), []) ::
  (10, .if_icmp .gt 7, 3, 17, 0, 0, .inl 0, []) ::
  (13, .iconst 1, 1, 0, 0, 0, .inl (nI 1), []) ::
  (14, .goto 4, 3, 18, 0, 0, .inl 0, []) :: s_X6_hasRoomForFive_17
def k_X6_hasRoomForFive : List mE := s_X6_hasRoomForFive_0
set_option maxRecDepth 100000 in
theorem t_X6_hasRoomForFive_0 : dropTo 0 k_X6_hasRoomForFive = s_X6_hasRoomForFive_0 := rfl
set_option maxRecDepth 100000 in
theorem t_X6_hasRoomForFive_17 : dropTo 17 k_X6_hasRoomForFive = s_X6_hasRoomForFive_17 := rfl
set_option maxRecDepth 100000 in
theorem t_X6_hasRoomForFive_18 : dropTo 18 k_X6_hasRoomForFive = s_X6_hasRoomForFive_18 := rfl
theorem ok_X6_hasRoomForFive : mOkF m_X6_hasRoomForFive k_X6_hasRoomForFive = true := by decide +kernel
theorem cm_X6_hasRoomForFive : mChkM m_X6_hasRoomForFive = true := by decide +kernel
def s_X6_isComparing_40 : List mE := (40, .ireturn, 1, 1, 0, 0, .inl 0, []) :: []
def s_X6_isComparing_39 : List mE := (39, .iconst 0, 1, 0, 0, 0, .inl (nI 0), []) :: s_X6_isComparing_40
def s_X6_isComparing_35 : List mE := (35, .iconst 1, 1, 0, 0, 0, .inl (nI 1), []) ::
  (36, .goto 4, 3, 40, 0, 0, .inl 0, []) :: s_X6_isComparing_39
def s_X6_isComparing_0 : List mE := (0, .aload_n 0, 1, 0, 0, 0, .inl 0, []) ::
  (1, .getfield 56, 3, 5, 5, 0, .inl 0, [194]) ::
  (4, .iconst 4, 1, 0, 0, 0, .inl (nI 4), []) ::
  (5, .if_icmp .ne 34, 3, 39, 0, 0, .inl 0, []) ::
  (8, .aload_n 0, 1, 0, 0, 0, .inl 0, []) ::
  (9, .getfield 50, 3, 5, 7, 0, .inl 0, [197]) ::
  (12, .bipush 60, 2, 0, 0, 0, .inl (nI 60), []) ::
  (14, .if_icmp .eq 21, 3, 35, 0, 0, .inl 0, []) ::
  (17, .aload_n 0, 1, 0, 0, 0, .inl 0, []) ::
  (18, .getfield 50, 3, 5, 7, 0, .inl 0, [197]) ::
  (21, .bipush 61, 2, 0, 0, 0, .inl (nI 61), []) ::
  (23, .if_icmp .eq 12, 3, 35, 0, 0, .inl 0, []) ::
  (26, .aload_n 0, 1, 0, 0, 0, .inl 0, []) ::
  (27, .getfield 50, 3, 5, 7, 0, .inl 0, [197]) ::
  (30, .bipush 62, 2, 0, 0, 0, .inl (nI 62), []) ::
  (32, .if_icmp .ne 7, 3, 39, 0, 0, .inl 0, []) :: s_X6_isComparing_35
def k_X6_isComparing : List mE := s_X6_isComparing_0
set_option maxRecDepth 100000 in
theorem t_X6_isComparing_0 : dropTo 0 k_X6_isComparing = s_X6_isComparing_0 := rfl
set_option maxRecDepth 100000 in
theorem t_X6_isComparing_35 : dropTo 35 k_X6_isComparing = s_X6_isComparing_35 := rfl
set_option maxRecDepth 100000 in
theorem t_X6_isComparing_39 : dropTo 39 k_X6_isComparing = s_X6_isComparing_39 := rfl
set_option maxRecDepth 100000 in
theorem t_X6_isComparing_40 : dropTo 40 k_X6_isComparing = s_X6_isComparing_40 := rfl
theorem ok_X6_isComparing : mOkF m_X6_isComparing k_X6_isComparing = true := by decide +kernel
theorem cm_X6_isComparing : mChkM m_X6_isComparing = true := by decide +kernel
def s_X6_isName_21 : List mE := (21, .ireturn, 1, 1, 0, 0, .inl 0, []) :: []
def s_X6_isName_20 : List mE := (20, .iconst 0, 1, 0, 0, 0, .inl (nI 0), []) :: s_X6_isName_21
def s_X6_isName_0 : List mE := (0, .aload_n 0, 1, 0, 0, 0, .inl 0, []) ::
  (1, .getfield 56, 3, 5, 5, 0, .inl 0, [194]) ::
  (4, .iconst 2, 1, 0, 0, 0, .inl (nI 2), []) ::
  (5, .if_icmp .ne 15, 3, 20, 0, 0, .inl 0, []) ::
  (8, .aload_n 0, 1, 0, 0, 0, .inl 0, []) ::
  (9, .getfield 53, 3, 5, 8, 0, .inl 0, [202]) ::
  (12, .iconst (-1), 1, 0, 0, 0, .inl (-1), []) ::
  (13, .if_icmp .ne 7, 3, 20, 0, 0, .inl 0, []) ::
  (16, .iconst 1, 1, 0, 0, 0, .inl (nI 1), []) ::
  (17, .goto 4, 3, 21, 0, 0, .inl 0, []) :: s_X6_isName_20
def k_X6_isName : List mE := s_X6_isName_0
set_option maxRecDepth 100000 in
theorem t_X6_isName_0 : dropTo 0 k_X6_isName = s_X6_isName_0 := rfl
set_option maxRecDepth 100000 in
theorem t_X6_isName_20 : dropTo 20 k_X6_isName = s_X6_isName_20 := rfl
set_option maxRecDepth 100000 in
theorem t_X6_isName_21 : dropTo 21 k_X6_isName = s_X6_isName_21 := rfl
theorem ok_X6_isName : mOkF m_X6_isName k_X6_isName = true := by decide +kernel
theorem cm_X6_isName : mChkM m_X6_isName = true := by decide +kernel
def s_X6_isThisSign_21 : List mE := (21, .ireturn, 1, 1, 0, 0, .inl 0, []) :: []
def s_X6_isThisSign_20 : List mE := (20, .iconst 0, 1, 0, 0, 0, .inl (nI 0), []) :: s_X6_isThisSign_21
def s_X6_isThisSign_0 : List mE := (0, .aload_n 0, 1, 0, 0, 0, .inl 0, []) ::
  (1, .getfield 56, 3, 5, 5, 0, .inl 0, [194]) ::
  (4, .iconst 4, 1, 0, 0, 0, .inl (nI 4), []) ::
  (5, .if_icmp .ne 15, 3, 20, 0, 0, .inl 0, []) ::
  (8, .aload_n 0, 1, 0, 0, 0, .inl 0, []) ::
  (9, .getfield 50, 3, 5, 7, 0, .inl 0, [197]) ::
  (12, .iload_n 1, 1, 1, 0, 0, .inl 0, []) ::
  (13, .if_icmp .ne 7, 3, 20, 0, 0, .inl 0, []) ::
  (16, .iconst 1, 1, 0, 0, 0, .inl (nI 1), []) ::
  (17, .goto 4, 3, 21, 0, 0, .inl 0, []) :: s_X6_isThisSign_20
def k_X6_isThisSign : List mE := s_X6_isThisSign_0
set_option maxRecDepth 100000 in
theorem t_X6_isThisSign_0 : dropTo 0 k_X6_isThisSign = s_X6_isThisSign_0 := rfl
set_option maxRecDepth 100000 in
theorem t_X6_isThisSign_20 : dropTo 20 k_X6_isThisSign = s_X6_isThisSign_20 := rfl
set_option maxRecDepth 100000 in
theorem t_X6_isThisSign_21 : dropTo 21 k_X6_isThisSign = s_X6_isThisSign_21 := rfl
theorem ok_X6_isThisSign : mOkF m_X6_isThisSign k_X6_isThisSign = true := by decide +kernel
theorem cm_X6_isThisSign : mChkM m_X6_isThisSign = true := by decide +kernel
def s_X6_openText_0 : List mE := (0, .aload_n 0, 1, 0, 0, 0, .inl 0, []) ::
  (1, .iload_n 1, 1, 1, 0, 0, .inl 0, []) ::
  (2, .putfield 32, 3, 5, 3, 0, .inl 0, [190]) ::
  (5, .aload_n 0, 1, 0, 0, 0, .inl 0, []) ::
  (6, .iconst 0, 1, 0, 0, 0, .inl (nI 0), []) ::
  (7, .putfield 35, 3, 5, 4, 0, .inl 0, [191]) ::
  (10, .aload_n 0, 1, 0, 0, 0, .inl 0, []) ::
  (11, .iconst 0, 1, 0, 0, 0, .inl (nI 0), []) ::
  (12, .putfield 38, 3, 5, 9, 0, .inl 0, [204]) ::
  (15, .aload_n 0, 1, 0, 0, 0, .inl 0, []) ::
  (16, .iconst 0, 1, 0, 0, 0, .inl (nI 0), []) ::
  (17, .putfield 41, 3, 5, 10, 0, .inl 0, [207]) ::
  (20, .aload_n 0, 1, 0, 0, 0, .inl 0, []) ::
  (21, .iconst 0, 1, 0, 0, 0, .inl (nI 0), []) ::
  (22, .putfield 44, 3, 5, 11, 0, .inl 0, [209]) ::
  (25, .aload_n 0, 1, 0, 0, 0, .inl 0, []) ::
  (26, .invokevirtual 47, 3, 61, 1, 0, .inl 0, [569, 5]) ::
  (29, .return_, 1, 0, 0, 0, .inl 0, []) :: []
def k_X6_openText : List mE := s_X6_openText_0
set_option maxRecDepth 100000 in
theorem t_X6_openText_0 : dropTo 0 k_X6_openText = s_X6_openText_0 := rfl
theorem ok_X6_openText : mOkF m_X6_openText k_X6_openText = true := by decide +kernel
theorem cm_X6_openText : mChkM m_X6_openText = true := by decide +kernel
def s_X6_putNumber_49 : List mE := (49, .return_, 1, 0, 0, 0, .inl 0, []) :: []
def s_X6_putNumber_3 : List mE := (3, .iload_n 2, 1, 2, 0, 0, .inl 0, []) ::
  (4, .ifCond .lt 45, 3, 49, 0, 0, .inl 0, []) ::
  (7, .aload_n 0, 1, 0, 0, 0, .inl 0, []) ::
  (8, .getfield 28, 3, 5, 2, 0, .inl 0, [188]) ::
  (11, .sipush 940, 3, 0, 0, 0, .inl (nI 940), []) ::
  (14, .if_icmp .ge 35, 3, 49, 0, 0, .inl 0, []) ::
  (17, .aload_n 0, 1, 0, 0, 0, .inl 0, []) ::
  (18, .getfield 11, 3, 5, 0, 3, .inr (.inr (16, 940, 1)), [185]) ::
  (21, .aload_n 0, 1, 0, 0, 0, .inl 0, []) ::
  (22, .getfield 28, 3, 5, 2, 0, .inl 0, [188]) ::
  (25, .iload_n 1, 1, 1, 0, 0, .inl 0, []) ::
  (26, .iload_n 2, 1, 2, 0, 0, .inl 0, []) ::
  (27, .ishr, 1, 0, 0, 0, .inl 0, []) ::
  (28, .sipush 255, 3, 0, 0, 0, .inl (nI 255), []) ::
  (31, .iand, 1, 0, 0, 0, .inl 0, []) ::
  (32, .iastore, 1, 0, 0, 0, .inl 0, []) ::
  (33, .aload_n 0, 1, 0, 0, 0, .inl 0, []) ::
  (34, .dup, 1, 0, 0, 0, .inl 0, []) ::
  (35, .getfield 28, 3, 5, 2, 0, .inl 0, [188]) ::
  (38, .iconst 1, 1, 0, 0, 0, .inl (nI 1), []) ::
  (39, .iadd, 1, 0, 0, 0, .inl 0, []) ::
  (40, .putfield 28, 3, 5, 2, 0, .inl 0, [188]) ::
  (43, .iinc 2 (-8), 3, 2, 0, 0, .inl (-8), []) ::
  (46, .goto (-43), 3, 3, 0, 0, .inl 0, []) :: s_X6_putNumber_49
def s_X6_putNumber_0 : List mE := (0, .bipush 24, 2, 0, 0, 0, .inl (nI 24), []) ::
  (2, .istore_n 2, 1, 2, 0, 0, .inl 0, []) :: s_X6_putNumber_3
def k_X6_putNumber : List mE := s_X6_putNumber_0
set_option maxRecDepth 100000 in
theorem t_X6_putNumber_0 : dropTo 0 k_X6_putNumber = s_X6_putNumber_0 := rfl
set_option maxRecDepth 100000 in
theorem t_X6_putNumber_3 : dropTo 3 k_X6_putNumber = s_X6_putNumber_3 := rfl
set_option maxRecDepth 100000 in
theorem t_X6_putNumber_49 : dropTo 49 k_X6_putNumber = s_X6_putNumber_49 := rfl
theorem ok_X6_putNumber : mOkF m_X6_putNumber k_X6_putNumber = true := by decide +kernel
theorem cm_X6_putNumber : mChkM m_X6_putNumber = true := by decide +kernel
def s_X6_readToken_264 : List mE := (264, .return_, 1, 0, 0, 0, .inl 0, []) :: []
def s_X6_readToken_258 : List mE := (258, .iinc 6 1, 3, 6, 0, 0, .inl (nI 1), []) ::
  (261, .goto (-35), 3, 226, 0, 0, .inl 0, []) :: s_X6_readToken_264
def s_X6_readToken_226 : List mE := (226, .iload 6, 2, 6, 0, 0, .inl 0, []) ::
  (228, .bipush 19, 2, 0, 0, 0, .inl (nI 19), []) ::
  (230, .if_icmp .ge 34, 3, 264, 0, 0, .inl 0, []) ::
  (233, .aload_n 0, 1, 0, 0, 0, .inl 0, []) ::
  (234, .getfield 56, 3, 5, 5, 0, .inl 0, [194]) ::
  (237, .iconst 2, 1, 0, 0, 0, .inl (nI 2), []) ::
  (238, .if_icmp .ne 26, 3, 264, 0, 0, .inl 0, []) ::
  (241, .aload_n 0, 1, 0, 0, 0, .inl 0, []) ::
  (242, .getfield 17, 3, 5, 1, 3, .inr (.inr (16, 19, 2)), [187]) ::
  (245, .iload 6, 2, 6, 0, 0, .inl 0, []) ::
  (247, .iaload, 1, 0, 0, 0, .inl 0, []) ::
  (248, .iload_n 3, 1, 3, 0, 0, .inl 0, []) ::
  (249, .if_icmp .ne 9, 3, 258, 0, 0, .inl 0, []) ::
  (252, .aload_n 0, 1, 0, 0, 0, .inl 0, []) ::
  (253, .iload 6, 2, 6, 0, 0, .inl 0, []) ::
  (255, .putfield 53, 3, 5, 8, 0, .inl 0, [202]) :: s_X6_readToken_258
def s_X6_readToken_223 : List mE := (223, .iconst 0, 1, 0, 0, 0, .inl (nI 0), []) ::
  (224, .istore 6, 2, 6, 0, 0, .inl 0, []) :: s_X6_readToken_226
def s_X6_readToken_203 : List mE := (203, .iload_n 1, 1, 1, 0, 0, .inl 0, []) ::
  (204, .ifCond .ne 19, 3, 223, 0, 0, .inl 0, []) ::
  (207, .iload_n 2, 1, 2, 0, 0, .inl 0, []) ::
  (208, .iconst 3, 1, 0, 0, 0, .inl (nI 3), []) ::
  (209, .if_icmp .gt 14, 3, 223, 0, 0, .inl 0, []) ::
  (212, .aload_n 0, 1, 0, 0, 0, .inl 0, []) ::
  (213, .iconst 3, 1, 0, 0, 0, .inl (nI 3), []) ::
  (214, .putfield 56, 3, 5, 5, 0, .inl 0, [194]) ::
  (217, .aload_n 0, 1, 0, 0, 0, .inl 0, []) ::
  (218, .iload 4, 2, 4, 0, 0, .inl 0, []) ::
  (220, .putfield 50, 3, 5, 7, 0, .inl 0, [197]) :: s_X6_readToken_223
def s_X6_readToken_180 : List mE := (180, .iload_n 2, 1, 2, 0, 0, .inl 0, []) ::
  (181, .ifCond .ne 22, 3, 203, 0, 0, .inl 0, []) ::
  (184, .iload_n 1, 1, 1, 0, 0, .inl 0, []) ::
  (185, .bipush 6, 2, 0, 0, 0, .inl (nI 6), []) ::
  (187, .if_icmp .gt 16, 3, 203, 0, 0, .inl 0, []) ::
  (190, .aload_n 0, 1, 0, 0, 0, .inl 0, []) ::
  (191, .iconst 2, 1, 0, 0, 0, .inl (nI 2), []) ::
  (192, .putfield 56, 3, 5, 5, 0, .inl 0, [194]) ::
  (195, .aload_n 0, 1, 0, 0, 0, .inl 0, []) ::
  (196, .iload_n 3, 1, 3, 0, 0, .inl 0, []) ::
  (197, .putfield 50, 3, 5, 7, 0, .inl 0, [197]) ::
  (200, .goto 23, 3, 223, 0, 0, .inl 0, []) :: s_X6_readToken_203
def s_X6_readToken_132 : List mE := (132, .aload_n 0, 1, 0, 0, 0, .inl 0, []) ::
  (133, .iconst 1, 1, 0, 0, 0, .inl (nI 1), []) ::
  (134, .putfield 56, 3, 5, 5, 0, .inl 0, [194]) ::
  (137, .aload_n 0, 1, 0, 0, 0, .inl 0, []) ::
  (138, .iload 5, 2, 5, 0, 0, .inl 0, []) ::
  (140, .putfield 35, 3, 5, 4, 0, .inl 0, [191]) ::
  (143, .iload_n 1, 1, 1, 0, 0, .inl 0, []) ::
  (144, .iload_n 2, 1, 2, 0, 0, .inl 0, []) ::
  (145, .iadd, 1, 0, 0, 0, .inl 0, []) ::
  (146, .ifCond .ne 34, 3, 180, 0, 0, .inl 0, []) ::
  (149, .aload_n 0, 1, 0, 0, 0, .inl 0, []) ::
  (150, .iconst 4, 1, 0, 0, 0, .inl (nI 4), []) ::
  (151, .putfield 56, 3, 5, 5, 0, .inl 0, [194]) ::
  (154, .aload_n 0, 1, 0, 0, 0, .inl 0, []) ::
  (155, .aload_n 0, 1, 0, 0, 0, .inl 0, []) ::
  (156, .getfield 11, 3, 5, 0, 3, .inr (.inr (16, 940, 1)), [185]) ::
  (159, .aload_n 0, 1, 0, 0, 0, .inl 0, []) ::
  (160, .getfield 59, 3, 5, 6, 0, .inl 0, [196]) ::
  (163, .iaload, 1, 0, 0, 0, .inl 0, []) ::
  (164, .putfield 50, 3, 5, 7, 0, .inl 0, [197]) ::
  (167, .aload_n 0, 1, 0, 0, 0, .inl 0, []) ::
  (168, .aload_n 0, 1, 0, 0, 0, .inl 0, []) ::
  (169, .getfield 59, 3, 5, 6, 0, .inl 0, [196]) ::
  (172, .iconst 1, 1, 0, 0, 0, .inl (nI 1), []) ::
  (173, .iadd, 1, 0, 0, 0, .inl 0, []) ::
  (174, .putfield 35, 3, 5, 4, 0, .inl 0, [191]) ::
  (177, .goto 46, 3, 223, 0, 0, .inl 0, []) :: s_X6_readToken_180
def s_X6_readToken_126 : List mE := (126, .iinc 5 1, 3, 5, 0, 0, .inl (nI 1), []) ::
  (129, .goto (-114), 3, 15, 0, 0, .inl 0, []) :: s_X6_readToken_132
def s_X6_readToken_105 : List mE := (105, .iload 4, 2, 4, 0, 0, .inl 0, []) ::
  (107, .bipush 10, 2, 0, 0, 0, .inl (nI 10), []) ::
  (109, .imul, 1, 0, 0, 0, .inl 0, []) ::
  (110, .aload_n 0, 1, 0, 0, 0, .inl 0, []) ::
  (111, .getfield 11, 3, 5, 0, 3, .inr (.inr (16, 940, 1)), [185]) ::
  (114, .iload 5, 2, 5, 0, 0, .inl 0, []) ::
  (116, .iaload, 1, 0, 0, 0, .inl 0, []) ::
  (117, .iadd, 1, 0, 0, 0, .inl 0, []) ::
  (118, .bipush 48, 2, 0, 0, 0, .inl (nI 48), []) ::
  (120, .isub, 1, 0, 0, 0, .inl 0, []) ::
  (121, .istore 4, 2, 4, 0, 0, .inl 0, []) ::
  (123, .iinc 2 1, 3, 2, 0, 0, .inl (nI 1), []) :: s_X6_readToken_126
def s_X6_readToken_72 : List mE := (72, .aload_n 0, 1, 0, 0, 0, .inl 0, []) ::
  (73, .getfield 11, 3, 5, 0, 3, .inr (.inr (16, 940, 1)), [185]) ::
  (76, .iload 5, 2, 5, 0, 0, .inl 0, []) ::
  (78, .iaload, 1, 0, 0, 0, .inl 0, []) ::
  (79, .bipush 97, 2, 0, 0, 0, .inl (nI 97), []) ::
  (81, .if_icmp .lt 24, 3, 105, 0, 0, .inl 0, []) ::
  (84, .iload_n 3, 1, 3, 0, 0, .inl 0, []) ::
  (85, .iconst 5, 1, 0, 0, 0, .inl (nI 5), []) ::
  (86, .ishl, 1, 0, 0, 0, .inl 0, []) ::
  (87, .aload_n 0, 1, 0, 0, 0, .inl 0, []) ::
  (88, .getfield 11, 3, 5, 0, 3, .inr (.inr (16, 940, 1)), [185]) ::
  (91, .iload 5, 2, 5, 0, 0, .inl 0, []) ::
  (93, .iaload, 1, 0, 0, 0, .inl 0, []) ::
  (94, .bipush 96, 2, 0, 0, 0, .inl (nI 96), []) ::
  (96, .isub, 1, 0, 0, 0, .inl 0, []) ::
  (97, .ior, 1, 0, 0, 0, .inl 0, []) ::
  (98, .istore_n 3, 1, 3, 0, 0, .inl 0, []) ::
  (99, .iinc 1 1, 3, 1, 0, 0, .inl (nI 1), []) ::
  (102, .goto 24, 3, 126, 0, 0, .inl 0, []) :: s_X6_readToken_105
def s_X6_readToken_48 : List mE := (48, .aload_n 0, 1, 0, 0, 0, .inl 0, []) ::
  (49, .getfield 11, 3, 5, 0, 3, .inr (.inr (16, 940, 1)), [185]) ::
  (52, .iload 5, 2, 5, 0, 0, .inl 0, []) ::
  (54, .iaload, 1, 0, 0, 0, .inl 0, []) ::
  (55, .bipush 48, 2, 0, 0, 0, .inl (nI 48), []) ::
  (57, .if_icmp .lt 75, 3, 132, 0, 0, .inl 0, []) ::
  (60, .aload_n 0, 1, 0, 0, 0, .inl 0, []) ::
  (61, .getfield 11, 3, 5, 0, 3, .inr (.inr (16, 940, 1)), [185]) ::
  (64, .iload 5, 2, 5, 0, 0, .inl 0, []) ::
  (66, .iaload, 1, 0, 0, 0, .inl 0, []) ::
  (67, .bipush 57, 2, 0, 0, 0, .inl (nI 57), []) ::
  (69, .if_icmp .gt 63, 3, 132, 0, 0, .inl 0, []) :: s_X6_readToken_72
def s_X6_readToken_15 : List mE := (15, .iload 5, 2, 5, 0, 0, .inl 0, []) ::
  (17, .aload_n 0, 1, 0, 0, 0, .inl 0, []) ::
  (18, .getfield 28, 3, 5, 2, 0, .inl 0, [188]) ::
  (21, .if_icmp .ge 111, 3, 132, 0, 0, .inl 0, []) ::
  (24, .aload_n 0, 1, 0, 0, 0, .inl 0, []) ::
  (25, .getfield 11, 3, 5, 0, 3, .inr (.inr (16, 940, 1)), [185]) ::
  (28, .iload 5, 2, 5, 0, 0, .inl 0, []) ::
  (30, .iaload, 1, 0, 0, 0, .inl 0, []) ::
  (31, .bipush 97, 2, 0, 0, 0, .inl (nI 97), []) ::
  (33, .if_icmp .lt 15, 3, 48, 0, 0, .inl 0, []) ::
  (36, .aload_n 0, 1, 0, 0, 0, .inl 0, []) ::
  (37, .getfield 11, 3, 5, 0, 3, .inr (.inr (16, 940, 1)), [185]) ::
  (40, .iload 5, 2, 5, 0, 0, .inl 0, []) ::
  (42, .iaload, 1, 0, 0, 0, .inl 0, []) ::
  (43, .bipush 122, 2, 0, 0, 0, .inl (nI 122), []) ::
  (45, .if_icmp .le 27, 3, 72, 0, 0, .inl 0, []) :: s_X6_readToken_48
def s_X6_readToken_0 : List mE := (0, .iconst 0, 1, 0, 0, 0, .inl (nI 0), []) ::
  (1, .istore_n 1, 1, 1, 0, 0, .inl 0, []) ::
  (2, .iconst 0, 1, 0, 0, 0, .inl (nI 0), []) ::
  (3, .istore_n 2, 1, 2, 0, 0, .inl 0, []) ::
  (4, .iconst 0, 1, 0, 0, 0, .inl (nI 0), []) ::
  (5, .istore_n 3, 1, 3, 0, 0, .inl 0, []) ::
  (6, .iconst 0, 1, 0, 0, 0, .inl (nI 0), []) ::
  (7, .istore 4, 2, 4, 0, 0, .inl 0, []) ::
  (9, .aload_n 0, 1, 0, 0, 0, .inl 0, []) ::
  (10, .getfield 59, 3, 5, 6, 0, .inl 0, [196]) ::
  (13, .istore 5, 2, 5, 0, 0, .inl 0, []) :: s_X6_readToken_15
def k_X6_readToken : List mE := s_X6_readToken_0
set_option maxRecDepth 100000 in
theorem t_X6_readToken_0 : dropTo 0 k_X6_readToken = s_X6_readToken_0 := rfl
set_option maxRecDepth 100000 in
theorem t_X6_readToken_15 : dropTo 15 k_X6_readToken = s_X6_readToken_15 := rfl
set_option maxRecDepth 100000 in
theorem t_X6_readToken_48 : dropTo 48 k_X6_readToken = s_X6_readToken_48 := rfl
set_option maxRecDepth 100000 in
theorem t_X6_readToken_72 : dropTo 72 k_X6_readToken = s_X6_readToken_72 := rfl
set_option maxRecDepth 100000 in
theorem t_X6_readToken_105 : dropTo 105 k_X6_readToken = s_X6_readToken_105 := rfl
set_option maxRecDepth 100000 in
theorem t_X6_readToken_126 : dropTo 126 k_X6_readToken = s_X6_readToken_126 := rfl
set_option maxRecDepth 100000 in
theorem t_X6_readToken_132 : dropTo 132 k_X6_readToken = s_X6_readToken_132 := rfl
set_option maxRecDepth 100000 in
theorem t_X6_readToken_180 : dropTo 180 k_X6_readToken = s_X6_readToken_180 := rfl
set_option maxRecDepth 100000 in
theorem t_X6_readToken_203 : dropTo 203 k_X6_readToken = s_X6_readToken_203 := rfl
set_option maxRecDepth 100000 in
theorem t_X6_readToken_223 : dropTo 223 k_X6_readToken = s_X6_readToken_223 := rfl
set_option maxRecDepth 100000 in
theorem t_X6_readToken_226 : dropTo 226 k_X6_readToken = s_X6_readToken_226 := rfl
set_option maxRecDepth 100000 in
theorem t_X6_readToken_258 : dropTo 258 k_X6_readToken = s_X6_readToken_258 := rfl
set_option maxRecDepth 100000 in
theorem t_X6_readToken_264 : dropTo 264 k_X6_readToken = s_X6_readToken_264 := rfl
theorem ok_X6_readToken : mOkF m_X6_readToken k_X6_readToken = true := by decide +kernel
theorem cm_X6_readToken : mChkM m_X6_readToken = true := by decide +kernel
def s_X6_takeNumber_36 : List mE := (36, .aload_n 0, 1, 0, 0, 0, .inl 0, []) ::
  (37, .aload_n 0, 1, 0, 0, 0, .inl 0, []) ::
  (38, .getfield 50, 3, 5, 7, 0, .inl 0, [197]) ::
  (41, .putfield 38, 3, 5, 9, 0, .inl 0, [204]) ::
  (44, .aload_n 0, 1, 0, 0, 0, .inl 0, []) ::
  (45, .invokevirtual 47, 3, 61, 1, 0, .inl 0, [569, 5]) ::
  (48, .iconst 1, 1, 0, 0, 0, .inl (nI 1), []) ::
  (49, .ireturn, 1, 1, 0, 0, .inl 0, []) :: []
def s_X6_takeNumber_30 : List mE := (30, .aload_n 0, 1, 0, 0, 0, .inl 0, []) ::
  (31, .iconst 2, 1, 0, 0, 0, .inl (nI 2), []) ::
  (32, .invokevirtual 69, 3, 62, 2, 1, .inl 0, [610, 5]) ::
  (35, .ireturn, 1, 1, 0, 0, .inl 0, []) :: s_X6_takeNumber_36
def s_X6_takeNumber_14 : List mE := (14, .aload_n 0, 1, 0, 0, 0, .inl 0, []) ::
  (15, .getfield 50, 3, 5, 7, 0, .inl 0, [197]) ::
  (18, .iload_n 1, 1, 1, 0, 0, .inl 0, []) ::
  (19, .if_icmp .lt 11, 3, 30, 0, 0, .inl 0, []) ::
  (22, .aload_n 0, 1, 0, 0, 0, .inl 0, []) ::
  (23, .getfield 50, 3, 5, 7, 0, .inl 0, [197]) ::
  (26, .iload_n 2, 1, 2, 0, 0, .inl 0, []) ::
  (27, .if_icmp .le 9, 3, 36, 0, 0, .inl 0, []) :: s_X6_takeNumber_30
def s_X6_takeNumber_0 : List mE := (0, .aload_n 0, 1, 0, 0, 0, .inl 0, []) ::
  (1, .getfield 56, 3, 5, 5, 0, .inl 0, [194]) ::
  (4, .iconst 3, 1, 0, 0, 0, .inl (nI 3), []) ::
  (5, .if_icmp .eq 9, 3, 14, 0, 0, .inl 0, []) ::
  (8, .aload_n 0, 1, 0, 0, 0, .inl 0, []) ::
  (9, .iconst 1, 1, 0, 0, 0, .inl (nI 1), []) ::
  (10, .invokevirtual 69, 3, 62, 2, 1, .inl 0, [610, 5]) ::
  (13, .ireturn, 1, 1, 0, 0, .inl 0, []) :: s_X6_takeNumber_14
def k_X6_takeNumber : List mE := s_X6_takeNumber_0
set_option maxRecDepth 100000 in
theorem t_X6_takeNumber_0 : dropTo 0 k_X6_takeNumber = s_X6_takeNumber_0 := rfl
set_option maxRecDepth 100000 in
theorem t_X6_takeNumber_14 : dropTo 14 k_X6_takeNumber = s_X6_takeNumber_14 := rfl
set_option maxRecDepth 100000 in
theorem t_X6_takeNumber_30 : dropTo 30 k_X6_takeNumber = s_X6_takeNumber_30 := rfl
set_option maxRecDepth 100000 in
theorem t_X6_takeNumber_36 : dropTo 36 k_X6_takeNumber = s_X6_takeNumber_36 := rfl
theorem ok_X6_takeNumber : mOkF m_X6_takeNumber k_X6_takeNumber = true := by decide +kernel
theorem cm_X6_takeNumber : mChkM m_X6_takeNumber = true := by decide +kernel
def s_X6_takeSign_14 : List mE := (14, .aload_n 0, 1, 0, 0, 0, .inl 0, []) ::
  (15, .invokevirtual 47, 3, 61, 1, 0, .inl 0, [569, 5]) ::
  (18, .iconst 1, 1, 0, 0, 0, .inl (nI 1), []) ::
  (19, .ireturn, 1, 1, 0, 0, .inl 0, []) :: []
def s_X6_takeSign_0 : List mE := (0, .aload_n 0, 1, 0, 0, 0, .inl 0, []) ::
  (1, .iload_n 1, 1, 1, 0, 0, .inl 0, []) ::
  (2, .invokevirtual 65, 3, 66, 2, 1, .inl 0, [651, 5]) ::
  (5, .ifCond .ne 9, 3, 14, 0, 0, .inl 0, []) ::
  (8, .aload_n 0, 1, 0, 0, 0, .inl 0, []) ::
  (9, .iconst 1, 1, 0, 0, 0, .inl (nI 1), []) ::
  (10, .invokevirtual 69, 3, 62, 2, 1, .inl 0, [610, 5]) ::
  (13, .ireturn, 1, 1, 0, 0, .inl 0, []) :: s_X6_takeSign_14
def k_X6_takeSign : List mE := s_X6_takeSign_0
set_option maxRecDepth 100000 in
theorem t_X6_takeSign_0 : dropTo 0 k_X6_takeSign = s_X6_takeSign_0 := rfl
set_option maxRecDepth 100000 in
theorem t_X6_takeSign_14 : dropTo 14 k_X6_takeSign = s_X6_takeSign_14 := rfl
theorem ok_X6_takeSign : mOkF m_X6_takeSign k_X6_takeSign = true := by decide +kernel
theorem cm_X6_takeSign : mChkM m_X6_takeSign = true := by decide +kernel
def s_X7_putByte_30 : List mE := (30, .return_, 1, 0, 0, 0, .inl 0, []) :: []
def s_X7_putByte_0 : List mE := (0, .aload_n 0, 1, 0, 0, 0, .inl 0, []) ::
  (1, .getfield 15, 3, 6, 1, 0, .inl 0, [471]) ::
  (4, .sipush 136, 3, 0, 0, 0, .inl (nI 136), []) ::
  (7, .if_icmp .ge 23, 3, 30, 0, 0, .inl 0, []) ::
  (10, .aload_n 0, 1, 0, 0, 0, .inl 0, []) ::
  (11, .getfield 11, 3, 6, 0, 3, .inr (.inr (16, 136, 1)), [469]) ::
  (14, .aload_n 0, 1, 0, 0, 0, .inl 0, []) ::
  (15, .getfield 15, 3, 6, 1, 0, .inl 0, [471]) ::
  (18, .iload_n 1, 1, 1, 0, 0, .inl 0, []) ::
  (19, .iastore, 1, 0, 0, 0, .inl 0, []) ::
  (20, .aload_n 0, 1, 0, 0, 0, .inl 0, []) ::
  (21, .dup, 1, 0, 0, 0, .inl 0, []) ::
  (22, .getfield 15, 3, 6, 1, 0, .inl 0, [471]) ::
  (25, .iconst 1, 1, 0, 0, 0, .inl (nI 1), []) ::
  (26, .iadd, 1, 0, 0, 0, .inl 0, []) ::
  (27, .putfield 15, 3, 6, 1, 0, .inl 0, [471]) :: s_X7_putByte_30
def k_X7_putByte : List mE := s_X7_putByte_0
set_option maxRecDepth 100000 in
theorem t_X7_putByte_0 : dropTo 0 k_X7_putByte = s_X7_putByte_0 := rfl
set_option maxRecDepth 100000 in
theorem t_X7_putByte_30 : dropTo 30 k_X7_putByte = s_X7_putByte_30 := rfl
theorem ok_X7_putByte : mOkF m_X7_putByte k_X7_putByte = true := by decide +kernel
theorem cm_X7_putByte : mChkM m_X7_putByte = true := by decide +kernel
def s_X7_putName_32 : List mE := (32, .return_, 1, 0, 0, 0, .inl 0, []) :: []
def s_X7_putName_26 : List mE := (26, .iinc 2 (-5), 3, 2, 0, 0, .inl (-5), []) ::
  (29, .goto (-26), 3, 3, 0, 0, .inl 0, []) :: s_X7_putName_32
def s_X7_putName_3 : List mE := (3, .iload_n 2, 1, 2, 0, 0, .inl 0, []) ::
  (4, .ifCond .lt 28, 3, 32, 0, 0, .inl 0, []) ::
  (7, .iload_n 1, 1, 1, 0, 0, .inl 0, []) ::
  (8, .iload_n 2, 1, 2, 0, 0, .inl 0, []) ::
  (9, .ishr, 1, 0, 0, 0, .inl 0, []) ::
  (10, .bipush 31, 2, 0, 0, 0, .inl (nI 31), []) ::
  (12, .iand, 1, 0, 0, 0, .inl 0, []) ::
  (13, .istore_n 3, 1, 3, 0, 0, .inl 0, []) ::
  (14, .iload_n 3, 1, 3, 0, 0, .inl 0, []) ::
  (15, .ifCond .le 11, 3, 26, 0, 0, .inl 0, []) ::
  (18, .aload_n 0, 1, 0, 0, 0, .inl 0, []) ::
  (19, .iload_n 3, 1, 3, 0, 0, .inl 0, []) ::
  (20, .bipush 96, 2, 0, 0, 0, .inl (nI 96), []) ::
  (22, .iadd, 1, 0, 0, 0, .inl 0, []) ::
  (23, .invokevirtual 23, 3, 72, 2, 0, .inl 0, [1013, 6]) :: s_X7_putName_26
def s_X7_putName_0 : List mE := (0, .bipush 25, 2, 0, 0, 0, .inl (nI 25), []) ::
  (2, .istore_n 2, 1, 2, 0, 0, .inl 0, []) :: s_X7_putName_3
def k_X7_putName : List mE := s_X7_putName_0
set_option maxRecDepth 100000 in
theorem t_X7_putName_0 : dropTo 0 k_X7_putName = s_X7_putName_0 := rfl
set_option maxRecDepth 100000 in
theorem t_X7_putName_3 : dropTo 3 k_X7_putName = s_X7_putName_3 := rfl
set_option maxRecDepth 100000 in
theorem t_X7_putName_26 : dropTo 26 k_X7_putName = s_X7_putName_26 := rfl
set_option maxRecDepth 100000 in
theorem t_X7_putName_32 : dropTo 32 k_X7_putName = s_X7_putName_32 := rfl
theorem ok_X7_putName : mOkF m_X7_putName k_X7_putName = true := by decide +kernel
theorem cm_X7_putName : mChkM m_X7_putName = true := by decide +kernel
def s_X7_putNumber_40 : List mE := (40, .return_, 1, 0, 0, 0, .inl 0, []) :: []
def s_X7_putNumber_32 : List mE := (32, .iload_n 2, 1, 2, 0, 0, .inl 0, []) ::
  (33, .bipush 10, 2, 0, 0, 0, .inl (nI 10), []) ::
  (35, .idiv, 1, 0, 0, 0, .inl 0, []) ::
  (36, .istore_n 2, 1, 2, 0, 0, .inl 0, []) ::
  (37, .goto (-33), 3, 4, 0, 0, .inl 0, []) :: s_X7_putNumber_40
def s_X7_putNumber_19 : List mE := (19, .aload_n 0, 1, 0, 0, 0, .inl 0, []) ::
  (20, .bipush 48, 2, 0, 0, 0, .inl (nI 48), []) ::
  (22, .iload_n 1, 1, 1, 0, 0, .inl 0, []) ::
  (23, .iload_n 2, 1, 2, 0, 0, .inl 0, []) ::
  (24, .idiv, 1, 0, 0, 0, .inl 0, []) ::
  (25, .bipush 10, 2, 0, 0, 0, .inl (nI 10), []) ::
  (27, .irem, 1, 0, 0, 0, .inl 0, []) ::
  (28, .iadd, 1, 0, 0, 0, .inl 0, []) ::
  (29, .invokevirtual 23, 3, 72, 2, 0, .inl 0, [1013, 6]) :: s_X7_putNumber_32
def s_X7_putNumber_4 : List mE := (4, .iload_n 2, 1, 2, 0, 0, .inl 0, []) ::
  (5, .iconst 1, 1, 0, 0, 0, .inl (nI 1), []) ::
  (6, .if_icmp .lt 34, 3, 40, 0, 0, .inl 0, []) ::
  (9, .iload_n 1, 1, 1, 0, 0, .inl 0, []) ::
  (10, .iload_n 2, 1, 2, 0, 0, .inl 0, []) ::
  (11, .if_icmp .ge 8, 3, 19, 0, 0, .inl 0, []) ::
  (14, .iload_n 2, 1, 2, 0, 0, .inl 0, []) ::
  (15, .iconst 1, 1, 0, 0, 0, .inl (nI 1), []) ::
  (16, .if_icmp .ne 16, 3, 32, 0, 0, .inl 0, []) :: s_X7_putNumber_19
def s_X7_putNumber_0 : List mE := (0, .sipush 10000, 3, 0, 0, 0, .inl (nI 10000), []) ::
  (3, .istore_n 2, 1, 2, 0, 0, .inl 0, []) :: s_X7_putNumber_4
def k_X7_putNumber : List mE := s_X7_putNumber_0
set_option maxRecDepth 100000 in
theorem t_X7_putNumber_0 : dropTo 0 k_X7_putNumber = s_X7_putNumber_0 := rfl
set_option maxRecDepth 100000 in
theorem t_X7_putNumber_4 : dropTo 4 k_X7_putNumber = s_X7_putNumber_4 := rfl
set_option maxRecDepth 100000 in
theorem t_X7_putNumber_19 : dropTo 19 k_X7_putNumber = s_X7_putNumber_19 := rfl
set_option maxRecDepth 100000 in
theorem t_X7_putNumber_32 : dropTo 32 k_X7_putNumber = s_X7_putNumber_32 := rfl
set_option maxRecDepth 100000 in
theorem t_X7_putNumber_40 : dropTo 40 k_X7_putNumber = s_X7_putNumber_40 := rfl
theorem ok_X7_putNumber : mOkF m_X7_putNumber k_X7_putNumber = true := by decide +kernel
theorem cm_X7_putNumber : mChkM m_X7_putNumber = true := by decide +kernel
def s_X8_again_35 : List mE := (35, .aload_n 0, 1, 0, 0, 0, .inl 0, []) ::
  (36, .iload_n 2, 1, 2, 0, 0, .inl 0, []) ::
  (37, .invokevirtual 261, 3, 94, 2, 1, .inl 0, [866, 7]) ::
  (40, .ireturn, 1, 0, 0, 0, .inl 0, []) :: []
def s_X8_again_34 : List mE := (34, .ireturn, 1, 0, 0, 0, .inl 0, []) :: s_X8_again_35
def s_X8_again_33 : List mE := (33, .iload_n 2, 1, 2, 0, 0, .inl 0, []) :: s_X8_again_34
def s_X8_again_25 : List mE := (25, .iload_n 2, 1, 2, 0, 0, .inl 0, []) ::
  (26, .ifCond .ne 7, 3, 33, 0, 0, .inl 0, []) ::
  (29, .iconst (-1), 1, 0, 0, 0, .inl (-1), []) ::
  (30, .goto 4, 3, 34, 0, 0, .inl 0, []) :: s_X8_again_33
def s_X8_again_11 : List mE := (11, .aload_n 0, 1, 0, 0, 0, .inl 0, []) ::
  (12, .invokevirtual 258, 3, 119, 1, 1, .inl 0, [858, 7]) ::
  (15, .istore_n 2, 1, 2, 0, 0, .inl 0, []) ::
  (16, .iload_n 2, 1, 2, 0, 0, .inl 0, []) ::
  (17, .ifCond .eq 8, 3, 25, 0, 0, .inl 0, []) ::
  (20, .iload_n 1, 1, 1, 0, 0, .inl 0, []) ::
  (21, .iconst 1, 1, 0, 0, 0, .inl (nI 1), []) ::
  (22, .if_icmp .ne 13, 3, 35, 0, 0, .inl 0, []) :: s_X8_again_25
def s_X8_again_0 : List mE := (0, .iload_n 1, 1, 1, 0, 0, .inl 0, []) ::
  (1, .ifCond .eq 10, 3, 11, 0, 0, .inl 0, []) ::
  (4, .iload_n 1, 1, 1, 0, 0, .inl 0, []) ::
  (5, .iconst 1, 1, 0, 0, 0, .inl (nI 1), []) ::
  (6, .if_icmp .eq 5, 3, 11, 0, 0, .inl 0, []) ::
  (9, .iconst (-1), 1, 0, 0, 0, .inl (-1), []) ::
  (10, .ireturn, 1, 0, 0, 0, .inl 0, []) :: s_X8_again_11
def k_X8_again : List mE := s_X8_again_0
set_option maxRecDepth 100000 in
theorem t_X8_again_0 : dropTo 0 k_X8_again = s_X8_again_0 := rfl
set_option maxRecDepth 100000 in
theorem t_X8_again_11 : dropTo 11 k_X8_again = s_X8_again_11 := rfl
set_option maxRecDepth 100000 in
theorem t_X8_again_25 : dropTo 25 k_X8_again = s_X8_again_25 := rfl
set_option maxRecDepth 100000 in
theorem t_X8_again_33 : dropTo 33 k_X8_again = s_X8_again_33 := rfl
set_option maxRecDepth 100000 in
theorem t_X8_again_34 : dropTo 34 k_X8_again = s_X8_again_34 := rfl
set_option maxRecDepth 100000 in
theorem t_X8_again_35 : dropTo 35 k_X8_again = s_X8_again_35 := rfl
theorem ok_X8_again : mOkF m_X8_again k_X8_again = true := by decide +kernel
theorem cm_X8_again : mChkM m_X8_again = true := by decide +kernel
def s_X8_areHours_17 : List mE := (17, .ireturn, 1, 1, 0, 0, .inl 0, []) :: []
def s_X8_areHours_16 : List mE := (16, .iconst 0, 1, 0, 0, 0, .inl (nI 0), []) :: s_X8_areHours_17
def s_X8_areHours_0 : List mE := (0, .iload_n 0, 1, 0, 0, 0, .inl 0, []) ::
  (1, .iconst 1, 1, 0, 0, 0, .inl (nI 1), []) ::
  (2, .if_icmp .lt 14, 3, 16, 0, 0, .inl 0, []) ::
  (5, .iload_n 0, 1, 0, 0, 0, .inl 0, []) ::
  (6, .sipush 200, 3, 0, 0, 0, .inl (nI 200), []) ::
  (9, .if_icmp .gt 7, 3, 16, 0, 0, .inl 0, []) ::
  (12, .iconst 1, 1, 0, 0, 0, .inl (nI 1), []) ::
  (13, .goto 4, 3, 17, 0, 0, .inl 0, []) :: s_X8_areHours_16
def k_X8_areHours : List mE := s_X8_areHours_0
set_option maxRecDepth 100000 in
theorem t_X8_areHours_0 : dropTo 0 k_X8_areHours = s_X8_areHours_0 := rfl
set_option maxRecDepth 100000 in
theorem t_X8_areHours_16 : dropTo 16 k_X8_areHours = s_X8_areHours_16 := rfl
set_option maxRecDepth 100000 in
theorem t_X8_areHours_17 : dropTo 17 k_X8_areHours = s_X8_areHours_17 := rfl
theorem ok_X8_areHours : mOkF m_X8_areHours k_X8_areHours = true := by decide +kernel
theorem cm_X8_areHours : mChkM m_X8_areHours = true := by decide +kernel
def s_X8_at_115 : List mE := (115, .iconst (-1), 1, 0, 0, 0, .inl (-1), []) ::
  (116, .ireturn, 1, 0, 0, 0, .inl 0, []) :: []
def s_X8_at_104 : List mE := (104, .aload_n 0, 1, 0, 0, 0, .inl 0, []) ::
  (105, .getfield 19, 3, 7, 1, 3, .inr (.inr (0, 0, 4)), [479]) ::
  (108, .getfield 160, 3, 0, 14, 3, .inr (.inr (16, 48, 11)), [287]) ::
  (111, .iload 4, 2, 4, 0, 0, .inl 0, []) ::
  (113, .iaload, 1, 0, 0, 0, .inl 0, []) ::
  (114, .ireturn, 1, 0, 0, 0, .inl 0, []) :: s_X8_at_115
def s_X8_at_93 : List mE := (93, .aload_n 0, 1, 0, 0, 0, .inl 0, []) ::
  (94, .getfield 19, 3, 7, 1, 3, .inr (.inr (0, 0, 4)), [479]) ::
  (97, .getfield 157, 3, 0, 13, 3, .inr (.inr (16, 48, 10)), [283]) ::
  (100, .iload 4, 2, 4, 0, 0, .inl 0, []) ::
  (102, .iaload, 1, 0, 0, 0, .inl 0, []) ::
  (103, .ireturn, 1, 0, 0, 0, .inl 0, []) :: s_X8_at_104
def s_X8_at_82 : List mE := (82, .aload_n 0, 1, 0, 0, 0, .inl 0, []) ::
  (83, .getfield 19, 3, 7, 1, 3, .inr (.inr (0, 0, 4)), [479]) ::
  (86, .getfield 169, 3, 0, 12, 3, .inr (.inr (16, 48, 9)), [281]) ::
  (89, .iload 4, 2, 4, 0, 0, .inl 0, []) ::
  (91, .iaload, 1, 0, 0, 0, .inl 0, []) ::
  (92, .ireturn, 1, 0, 0, 0, .inl 0, []) :: s_X8_at_93
def s_X8_at_71 : List mE := (71, .aload_n 0, 1, 0, 0, 0, .inl 0, []) ::
  (72, .getfield 19, 3, 7, 1, 3, .inr (.inr (0, 0, 4)), [479]) ::
  (75, .getfield 166, 3, 0, 11, 3, .inr (.inr (16, 48, 8)), [278]) ::
  (78, .iload 4, 2, 4, 0, 0, .inl 0, []) ::
  (80, .iaload, 1, 0, 0, 0, .inl 0, []) ::
  (81, .ireturn, 1, 0, 0, 0, .inl 0, []) :: s_X8_at_82
def s_X8_at_60 : List mE := (60, .aload_n 0, 1, 0, 0, 0, .inl 0, []) ::
  (61, .getfield 19, 3, 7, 1, 3, .inr (.inr (0, 0, 4)), [479]) ::
  (64, .getfield 150, 3, 0, 10, 3, .inr (.inr (16, 48, 7)), [274]) ::
  (67, .iload 4, 2, 4, 0, 0, .inl 0, []) ::
  (69, .iaload, 1, 0, 0, 0, .inl 0, []) ::
  (70, .ireturn, 1, 0, 0, 0, .inl 0, []) :: s_X8_at_71
def s_X8_at_18 : List mE := (18, .iload_n 1, 1, 1, 0, 0, .inl 0, []) ::
  (19, .bipush 6, 2, 0, 0, 0, .inl (nI 6), []) ::
  (21, .imul, 1, 0, 0, 0, .inl 0, []) ::
  (22, .iload_n 2, 1, 2, 0, 0, .inl 0, []) ::
  (23, .iadd, 1, 0, 0, 0, .inl 0, []) ::
  (24, .istore 4, 2, 4, 0, 0, .inl 0, []) ::
  (26, .iload_n 3, 1, 3, 0, 0, .inl 0, []) ::
  (27, .tableswitch 88 0 4 #[33, 44, 55, 66, 77], 33, 115, 0, 0, .inl 0, [60, 71, 82, 93, 104]) :: s_X8_at_60
def s_X8_at_16 : List mE := (16, .iconst (-1), 1, 0, 0, 0, .inl (-1), []) ::
  (17, .ireturn, 1, 0, 0, 0, .inl 0, []) :: s_X8_at_18
def s_X8_at_0 : List mE := (0, .aload_n 0, 1, 0, 0, 0, .inl 0, []) ::
  (1, .iload_n 1, 1, 1, 0, 0, .inl 0, []) ::
  (2, .invokevirtual 130, 3, 106, 2, 1, .inl 0, [682, 7]) ::
  (5, .ifCond .eq 11, 3, 16, 0, 0, .inl 0, []) ::
  (8, .aload_n 0, 1, 0, 0, 0, .inl 0, []) ::
  (9, .iload_n 2, 1, 2, 0, 0, .inl 0, []) ::
  (10, .invokevirtual 163, 3, 102, 2, 1, .inl 0, [686, 7]) ::
  (13, .ifCond .ne 5, 3, 18, 0, 0, .inl 0, []) :: s_X8_at_16
def k_X8_at : List mE := s_X8_at_0
set_option maxRecDepth 100000 in
theorem t_X8_at_0 : dropTo 0 k_X8_at = s_X8_at_0 := rfl
set_option maxRecDepth 100000 in
theorem t_X8_at_16 : dropTo 16 k_X8_at = s_X8_at_16 := rfl
set_option maxRecDepth 100000 in
theorem t_X8_at_18 : dropTo 18 k_X8_at = s_X8_at_18 := rfl
set_option maxRecDepth 100000 in
theorem t_X8_at_60 : dropTo 60 k_X8_at = s_X8_at_60 := rfl
set_option maxRecDepth 100000 in
theorem t_X8_at_71 : dropTo 71 k_X8_at = s_X8_at_71 := rfl
set_option maxRecDepth 100000 in
theorem t_X8_at_82 : dropTo 82 k_X8_at = s_X8_at_82 := rfl
set_option maxRecDepth 100000 in
theorem t_X8_at_93 : dropTo 93 k_X8_at = s_X8_at_93 := rfl
set_option maxRecDepth 100000 in
theorem t_X8_at_104 : dropTo 104 k_X8_at = s_X8_at_104 := rfl
set_option maxRecDepth 100000 in
theorem t_X8_at_115 : dropTo 115 k_X8_at = s_X8_at_115 := rfl
theorem ok_X8_at : mOkF m_X8_at k_X8_at = true := by decide +kernel
theorem cm_X8_at : mChkM m_X8_at = true := by decide +kernel
