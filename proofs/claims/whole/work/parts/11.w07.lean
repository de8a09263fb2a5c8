section
variable {X : mC} {P : mP} {h : Nat} {K : MV → Mem → Prop} {J : mJ} {ls : List (Nat × MV)} {st : List MV} {μ : Mem} {S : List Nat} {n : Nat}
theorem w_L_law_0 : bb X P m_L_law h K J s_L_law_0 ls st μ = bb X P m_L_law h K J ((0, .new 8, 3, 0, 0, 0, .inl 0, []) ::
  (3, .dup, 1, 0, 0, 0, .inl 0, []) ::
  (4, .invokespecial 19, 3, 0, 0, 0, .inl 0, []) ::
  (7, .astore_n 1, 1, 1, 0, 0, .inl 0, []) ::
  (8, .new 20, 3, 0, 0, 0, .inl 0, []) ::
  (11, .dup, 1, 0, 0, 0, .inl 0, []) ::
  (12, .invokespecial 22, 3, 0, 0, 0, .inl 0, []) ::
  (15, .astore_n 2, 1, 2, 0, 0, .inl 0, []) ::
  (16, .iconst 1, 1, 0, 0, 0, .inl (nI 1), []) ::
  (17, .newarray .long, 2, 0, 0, 0, .inl 0, []) ::
  (19, .astore_n 3, 1, 3, 0, 0, .inl 0, []) ::
  (20, .iconst 0, 1, 0, 0, 0, .inl (nI 0), []) ::
  (21, .istore 4, 2, 4, 0, 0, .inl 0, []) :: s_L_law_23) ls st μ := by rw [s_L_law_0]
theorem v_L_law_0 : vc X P m_L_law h K k_L_law S (n + 1) 0 ls st μ = if 0 ∈ S then mAt X m_L_law h K 0 ls st μ else bb X P m_L_law h K (vc X P m_L_law h K k_L_law S n) s_L_law_0 ls st μ := by rw [vc_s, t_L_law_0]
theorem w_L_law_23 : bb X P m_L_law h K J s_L_law_23 ls st μ = bb X P m_L_law h K J ((23, .iload 4, 2, 4, 0, 0, .inl 0, []) ::
  (25, .aload_n 0, 1, 0, 0, 0, .inl 0, []) ::
  (26, .arraylength, 1, 0, 0, 0, .inl 0, []) ::
  (27, .bipush 6, 2, 0, 0, 0, .inl (nI 6), []) ::
  (29, .isub, 1, 0, 0, 0, .inl 0, []) ::
  (30, .if_icmp .gt 1501, 3, 1531, 0, 0, .inl 0, []) ::
  (33, .aload_n 0, 1, 0, 0, 0, .inl 0, []) ::
  (34, .iload 4, 2, 4, 0, 0, .inl 0, []) ::
  (36, .iaload, 1, 0, 0, 0, .inl 0, []) ::
  (37, .bipush 63, 2, 0, 0, 0, .inl (nI 63), []) ::
  (39, .iand, 1, 0, 0, 0, .inl 0, []) ::
  (40, .tableswitch 1485 0 43 #[192, 265, 290, 303, 316, 384, 433, 458, 471, 496, 509, 546, 583, 620, 657, 694, 731, 756, 769, 782, 807, 844, 881, 906, 973, 998, 1023, 1048, 1073, 1098, 1123, 1160, 1173, 1210, 1247, 1272, 1321, 1334, 1347, 1372, 1385, 1410, 1435, 1460], 192, 1525, 0, 0, .inl 0, [232, 305, 330, 343, 356, 424, 473, 498, 511, 536, 549, 586, 623, 660, 697, 734, 771, 796, 809, 822, 847, 884, 921, 946, 1013, 1038, 1063, 1088, 1113, 1138, 1163, 1200, 1213, 1250, 1287, 1312, 1361, 1374, 1387, 1412, 1425, 1450, 1475, 1500]) :: s_L_law_232) ls st μ := by rw [s_L_law_23]
theorem v_L_law_23 : vc X P m_L_law h K k_L_law S (n + 1) 23 ls st μ = if 23 ∈ S then mAt X m_L_law h K 23 ls st μ else bb X P m_L_law h K (vc X P m_L_law h K k_L_law S n) s_L_law_23 ls st μ := by rw [vc_s, t_L_law_23]
theorem w_L_law_232 : bb X P m_L_law h K J s_L_law_232 ls st μ = bb X P m_L_law h K J ((232, .aload_n 1, 1, 1, 0, 0, .inl 0, []) ::
  (233, .aload_n 0, 1, 0, 0, 0, .inl 0, []) ::
  (234, .iload 4, 2, 4, 0, 0, .inl 0, []) ::
  (236, .iconst 1, 1, 0, 0, 0, .inl (nI 1), []) ::
  (237, .iadd, 1, 0, 0, 0, .inl 0, []) ::
  (238, .iaload, 1, 0, 0, 0, .inl 0, []) ::
  (239, .aload_n 0, 1, 0, 0, 0, .inl 0, []) ::
  (240, .iload 4, 2, 4, 0, 0, .inl 0, []) ::
  (242, .iconst 2, 1, 0, 0, 0, .inl (nI 2), []) ::
  (243, .iadd, 1, 0, 0, 0, .inl 0, []) ::
  (244, .iaload, 1, 0, 0, 0, .inl 0, []) ::
  (245, .aload_n 0, 1, 0, 0, 0, .inl 0, []) ::
  (246, .iload 4, 2, 4, 0, 0, .inl 0, []) ::
  (248, .iconst 3, 1, 0, 0, 0, .inl (nI 3), []) ::
  (249, .iadd, 1, 0, 0, 0, .inl 0, []) ::
  (250, .iaload, 1, 0, 0, 0, .inl 0, []) ::
  (251, .aload_n 0, 1, 0, 0, 0, .inl 0, []) ::
  (252, .iload 4, 2, 4, 0, 0, .inl 0, []) ::
  (254, .iconst 4, 1, 0, 0, 0, .inl (nI 4), []) ::
  (255, .iadd, 1, 0, 0, 0, .inl 0, []) ::
  (256, .iaload, 1, 0, 0, 0, .inl 0, []) ::
  (257, .aload_n 0, 1, 0, 0, 0, .inl 0, []) ::
  (258, .iload 4, 2, 4, 0, 0, .inl 0, []) ::
  (260, .iconst 5, 1, 0, 0, 0, .inl (nI 5), []) ::
  (261, .iadd, 1, 0, 0, 0, .inl 0, []) ::
  (262, .iaload, 1, 0, 0, 0, .inl 0, []) ::
  (263, .invokevirtual 23, 3, 93, 6, 1, .inl 0, [534, 7]) ::
  (266, .aload_n 2, 1, 2, 0, 0, .inl 0, []) ::
  (267, .aload_n 0, 1, 0, 0, 0, .inl 0, []) ::
  (268, .iload 4, 2, 4, 0, 0, .inl 0, []) ::
  (270, .iconst 1, 1, 0, 0, 0, .inl (nI 1), []) ::
  (271, .iadd, 1, 0, 0, 0, .inl 0, []) ::
  (272, .iaload, 1, 0, 0, 0, .inl 0, []) ::
  (273, .aload_n 0, 1, 0, 0, 0, .inl 0, []) ::
  (274, .iload 4, 2, 4, 0, 0, .inl 0, []) ::
  (276, .iconst 2, 1, 0, 0, 0, .inl (nI 2), []) ::
  (277, .iadd, 1, 0, 0, 0, .inl 0, []) ::
  (278, .iaload, 1, 0, 0, 0, .inl 0, []) ::
  (279, .aload_n 0, 1, 0, 0, 0, .inl 0, []) ::
  (280, .iload 4, 2, 4, 0, 0, .inl 0, []) ::
  (282, .iconst 3, 1, 0, 0, 0, .inl (nI 3), []) ::
  (283, .iadd, 1, 0, 0, 0, .inl 0, []) ::
  (284, .iaload, 1, 0, 0, 0, .inl 0, []) ::
  (285, .aload_n 0, 1, 0, 0, 0, .inl 0, []) ::
  (286, .iload 4, 2, 4, 0, 0, .inl 0, []) ::
  (288, .iconst 4, 1, 0, 0, 0, .inl (nI 4), []) ::
  (289, .iadd, 1, 0, 0, 0, .inl 0, []) ::
  (290, .iaload, 1, 0, 0, 0, .inl 0, []) ::
  (291, .aload_n 0, 1, 0, 0, 0, .inl 0, []) ::
  (292, .iload 4, 2, 4, 0, 0, .inl 0, []) ::
  (294, .iconst 5, 1, 0, 0, 0, .inl (nI 5), []) ::
  (295, .iadd, 1, 0, 0, 0, .inl 0, []) ::
  (296, .iaload, 1, 0, 0, 0, .inl 0, []) ::
  (297, .invokevirtual 27, 3, 159, 6, 1, .inl 0, [1337, 8]) ::
  (300, .if_icmp .eq 1225, 3, 1525, 0, 0, .inl 0, []) ::
  (303, .iconst 0, 1, 0, 0, 0, .inl (nI 0), []) ::
  (304, .ireturn, 1, 1, 0, 0, .inl 0, []) :: s_L_law_305) ls st μ := by rw [s_L_law_232]
theorem v_L_law_232 : vc X P m_L_law h K k_L_law S (n + 1) 232 ls st μ = if 232 ∈ S then mAt X m_L_law h K 232 ls st μ else bb X P m_L_law h K (vc X P m_L_law h K k_L_law S n) s_L_law_232 ls st μ := by rw [vc_s, t_L_law_232]
theorem w_L_law_305 : bb X P m_L_law h K J s_L_law_305 ls st μ = bb X P m_L_law h K J ((305, .aload_n 1, 1, 1, 0, 0, .inl 0, []) ::
  (306, .aload_n 0, 1, 0, 0, 0, .inl 0, []) ::
  (307, .iload 4, 2, 4, 0, 0, .inl 0, []) ::
  (309, .iconst 1, 1, 0, 0, 0, .inl (nI 1), []) ::
  (310, .iadd, 1, 0, 0, 0, .inl 0, []) ::
  (311, .iaload, 1, 0, 0, 0, .inl 0, []) ::
  (312, .invokevirtual 28, 3, 88, 2, 1, .inl 0, [546, 7]) ::
  (315, .aload_n 2, 1, 2, 0, 0, .inl 0, []) ::
  (316, .aload_n 0, 1, 0, 0, 0, .inl 0, []) ::
  (317, .iload 4, 2, 4, 0, 0, .inl 0, []) ::
  (319, .iconst 1, 1, 0, 0, 0, .inl (nI 1), []) ::
  (320, .iadd, 1, 0, 0, 0, .inl 0, []) ::
  (321, .iaload, 1, 0, 0, 0, .inl 0, []) ::
  (322, .invokevirtual 32, 3, 154, 2, 1, .inl 0, [1345, 8]) ::
  (325, .if_icmp .eq 1200, 3, 1525, 0, 0, .inl 0, []) ::
  (328, .iconst 0, 1, 0, 0, 0, .inl (nI 0), []) ::
  (329, .ireturn, 1, 1, 0, 0, .inl 0, []) :: s_L_law_330) ls st μ := by rw [s_L_law_305]
theorem v_L_law_305 : vc X P m_L_law h K k_L_law S (n + 1) 305 ls st μ = if 305 ∈ S then mAt X m_L_law h K 305 ls st μ else bb X P m_L_law h K (vc X P m_L_law h K k_L_law S n) s_L_law_305 ls st μ := by rw [vc_s, t_L_law_305]
theorem w_L_law_330 : bb X P m_L_law h K J s_L_law_330 ls st μ = bb X P m_L_law h K J ((330, .aload_n 1, 1, 1, 0, 0, .inl 0, []) ::
  (331, .invokevirtual 33, 3, 79, 1, 1, .inl 0, [550, 7]) ::
  (334, .aload_n 2, 1, 2, 0, 0, .inl 0, []) ::
  (335, .invokevirtual 37, 3, 145, 1, 1, .inl 0, [1349, 8]) ::
  (338, .if_icmp .eq 1187, 3, 1525, 0, 0, .inl 0, []) ::
  (341, .iconst 0, 1, 0, 0, 0, .inl (nI 0), []) ::
  (342, .ireturn, 1, 1, 0, 0, .inl 0, []) :: s_L_law_343) ls st μ := by rw [s_L_law_330]
theorem v_L_law_330 : vc X P m_L_law h K k_L_law S (n + 1) 330 ls st μ = if 330 ∈ S then mAt X m_L_law h K 330 ls st μ else bb X P m_L_law h K (vc X P m_L_law h K k_L_law S n) s_L_law_330 ls st μ := by rw [vc_s, t_L_law_330]
theorem w_L_law_343 : bb X P m_L_law h K J s_L_law_343 ls st μ = bb X P m_L_law h K J ((343, .aload_n 1, 1, 1, 0, 0, .inl 0, []) ::
  (344, .invokevirtual 38, 3, 91, 1, 1, .inl 0, [674, 7]) ::
  (347, .aload_n 2, 1, 2, 0, 0, .inl 0, []) ::
  (348, .invokevirtual 41, 3, 157, 1, 1, .inl 0, [1460, 8]) ::
  (351, .if_icmp .eq 1174, 3, 1525, 0, 0, .inl 0, []) ::
  (354, .iconst 0, 1, 0, 0, 0, .inl (nI 0), []) ::
  (355, .ireturn, 1, 1, 0, 0, .inl 0, []) :: s_L_law_356) ls st μ := by rw [s_L_law_343]
theorem v_L_law_343 : vc X P m_L_law h K k_L_law S (n + 1) 343 ls st μ = if 343 ∈ S then mAt X m_L_law h K 343 ls st μ else bb X P m_L_law h K (vc X P m_L_law h K k_L_law S n) s_L_law_343 ls st μ := by rw [vc_s, t_L_law_343]
theorem w_L_law_356 : bb X P m_L_law h K J s_L_law_356 ls st μ = bb X P m_L_law h K J ((356, .aload_n 1, 1, 1, 0, 0, .inl 0, []) ::
  (357, .aload_n 0, 1, 0, 0, 0, .inl 0, []) ::
  (358, .iload 4, 2, 4, 0, 0, .inl 0, []) ::
  (360, .iconst 1, 1, 0, 0, 0, .inl (nI 1), []) ::
  (361, .iadd, 1, 0, 0, 0, .inl 0, []) ::
  (362, .iaload, 1, 0, 0, 0, .inl 0, []) ::
  (363, .aload_n 0, 1, 0, 0, 0, .inl 0, []) ::
  (364, .iload 4, 2, 4, 0, 0, .inl 0, []) ::
  (366, .iconst 2, 1, 0, 0, 0, .inl (nI 2), []) ::
  (367, .iadd, 1, 0, 0, 0, .inl 0, []) ::
  (368, .iaload, 1, 0, 0, 0, .inl 0, []) ::
  (369, .aload_n 3, 1, 3, 0, 0, .inl 0, []) ::
  (370, .invokestatic 42, 3, 0, 0, 8, .inl 0, []) ::
  (373, .istore 5, 2, 5, 0, 0, .inl 0, []) ::
  (375, .aload_n 2, 1, 2, 0, 0, .inl 0, []) ::
  (376, .aload_n 0, 1, 0, 0, 0, .inl 0, []) ::
  (377, .iload 4, 2, 4, 0, 0, .inl 0, []) ::
  (379, .iconst 1, 1, 0, 0, 0, .inl (nI 1), []) ::
  (380, .iadd, 1, 0, 0, 0, .inl 0, []) ::
  (381, .iaload, 1, 0, 0, 0, .inl 0, []) ::
  (382, .aload_n 0, 1, 0, 0, 0, .inl 0, []) ::
  (383, .iload 4, 2, 4, 0, 0, .inl 0, []) ::
  (385, .iconst 2, 1, 0, 0, 0, .inl (nI 2), []) ::
  (386, .iadd, 1, 0, 0, 0, .inl 0, []) ::
  (387, .iaload, 1, 0, 0, 0, .inl 0, []) ::
  (388, .invokevirtual 47, 3, 252, 3, 1, .inl 0, [1464, 8]) ::
  (391, .istore 6, 2, 6, 0, 0, .inl 0, []) ::
  (393, .aload_n 2, 1, 2, 0, 0, .inl 0, []) ::
  (394, .invokevirtual 48, 3, 247, 1, 1, .inl 0, [1333, 8]) ::
  (397, .iload 5, 2, 5, 0, 0, .inl 0, []) ::
  (399, .if_icmp .eq 5, 3, 404, 0, 0, .inl 0, []) ::
  (402, .iconst 0, 1, 0, 0, 0, .inl (nI 0), []) ::
  (403, .ireturn, 1, 1, 0, 0, .inl 0, []) :: s_L_law_404) ls st μ := by rw [s_L_law_356]
theorem v_L_law_356 : vc X P m_L_law h K k_L_law S (n + 1) 356 ls st μ = if 356 ∈ S then mAt X m_L_law h K 356 ls st μ else bb X P m_L_law h K (vc X P m_L_law h K k_L_law S n) s_L_law_356 ls st μ := by rw [vc_s, t_L_law_356]
theorem w_L_law_404 : bb X P m_L_law h K J s_L_law_404 ls st μ = bb X P m_L_law h K J ((404, .iload 5, 2, 5, 0, 0, .inl 0, []) ::
  (406, .ifCond .ne 15, 3, 421, 0, 0, .inl 0, []) ::
  (409, .aload_n 3, 1, 3, 0, 0, .inl 0, []) ::
  (410, .iconst 0, 1, 0, 0, 0, .inl (nI 0), []) ::
  (411, .laload, 1, 0, 0, 0, .inl 0, []) ::
  (412, .iload 6, 2, 6, 0, 0, .inl 0, []) ::
  (414, .i2l, 1, 0, 0, 0, .inl 0, []) ::
  (415, .lcmp, 1, 0, 0, 0, .inl 0, []) ::
  (416, .ifCond .eq 5, 3, 421, 0, 0, .inl 0, []) ::
  (419, .iconst 0, 1, 0, 0, 0, .inl (nI 0), []) ::
  (420, .ireturn, 1, 1, 0, 0, .inl 0, []) :: s_L_law_421) ls st μ := by rw [s_L_law_404]
theorem v_L_law_404 : vc X P m_L_law h K k_L_law S (n + 1) 404 ls st μ = if 404 ∈ S then mAt X m_L_law h K 404 ls st μ else bb X P m_L_law h K (vc X P m_L_law h K k_L_law S n) s_L_law_404 ls st μ := by rw [vc_s, t_L_law_404]
theorem w_L_law_421 : bb X P m_L_law h K J s_L_law_421 ls st μ = bb X P m_L_law h K J ((421, .goto 1104, 3, 1525, 0, 0, .inl 0, []) :: s_L_law_424) ls st μ := by rw [s_L_law_421]
theorem v_L_law_421 : vc X P m_L_law h K k_L_law S (n + 1) 421 ls st μ = if 421 ∈ S then mAt X m_L_law h K 421 ls st μ else bb X P m_L_law h K (vc X P m_L_law h K k_L_law S n) s_L_law_421 ls st μ := by rw [vc_s, t_L_law_421]
theorem w_L_law_424 : bb X P m_L_law h K J s_L_law_424 ls st μ = bb X P m_L_law h K J ((424, .aload_n 1, 1, 1, 0, 0, .inl 0, []) ::
  (425, .aload_n 0, 1, 0, 0, 0, .inl 0, []) ::
  (426, .iload 4, 2, 4, 0, 0, .inl 0, []) ::
  (428, .iconst 1, 1, 0, 0, 0, .inl (nI 1), []) ::
  (429, .iadd, 1, 0, 0, 0, .inl 0, []) ::
  (430, .iaload, 1, 0, 0, 0, .inl 0, []) ::
  (431, .aload_n 0, 1, 0, 0, 0, .inl 0, []) ::
  (432, .iload 4, 2, 4, 0, 0, .inl 0, []) ::
  (434, .iconst 2, 1, 0, 0, 0, .inl (nI 2), []) ::
  (435, .iadd, 1, 0, 0, 0, .inl 0, []) ::
  (436, .iaload, 1, 0, 0, 0, .inl 0, []) ::
  (437, .aload_n 0, 1, 0, 0, 0, .inl 0, []) ::
  (438, .iload 4, 2, 4, 0, 0, .inl 0, []) ::
  (440, .iconst 3, 1, 0, 0, 0, .inl (nI 3), []) ::
  (441, .iadd, 1, 0, 0, 0, .inl 0, []) ::
  (442, .iaload, 1, 0, 0, 0, .inl 0, []) ::
  (443, .invokevirtual 51, 3, 77, 4, 1, .inl 0, [678, 7]) ::
  (446, .aload_n 2, 1, 2, 0, 0, .inl 0, []) ::
  (447, .aload_n 0, 1, 0, 0, 0, .inl 0, []) ::
  (448, .iload 4, 2, 4, 0, 0, .inl 0, []) ::
  (450, .iconst 1, 1, 0, 0, 0, .inl (nI 1), []) ::
  (451, .iadd, 1, 0, 0, 0, .inl 0, []) ::
  (452, .iaload, 1, 0, 0, 0, .inl 0, []) ::
  (453, .aload_n 0, 1, 0, 0, 0, .inl 0, []) ::
  (454, .iload 4, 2, 4, 0, 0, .inl 0, []) ::
  (456, .iconst 2, 1, 0, 0, 0, .inl (nI 2), []) ::
  (457, .iadd, 1, 0, 0, 0, .inl 0, []) ::
  (458, .iaload, 1, 0, 0, 0, .inl 0, []) ::
  (459, .aload_n 0, 1, 0, 0, 0, .inl 0, []) ::
  (460, .iload 4, 2, 4, 0, 0, .inl 0, []) ::
  (462, .iconst 3, 1, 0, 0, 0, .inl (nI 3), []) ::
  (463, .iadd, 1, 0, 0, 0, .inl 0, []) ::
  (464, .iaload, 1, 0, 0, 0, .inl 0, []) ::
  (465, .invokevirtual 55, 3, 139, 4, 1, .inl 0, [1488, 8]) ::
  (468, .if_icmp .eq 1057, 3, 1525, 0, 0, .inl 0, []) ::
  (471, .iconst 0, 1, 0, 0, 0, .inl (nI 0), []) ::
  (472, .ireturn, 1, 1, 0, 0, .inl 0, []) :: s_L_law_473) ls st μ := by rw [s_L_law_424]
theorem v_L_law_424 : vc X P m_L_law h K k_L_law S (n + 1) 424 ls st μ = if 424 ∈ S then mAt X m_L_law h K 424 ls st μ else bb X P m_L_law h K (vc X P m_L_law h K k_L_law S n) s_L_law_424 ls st μ := by rw [vc_s, t_L_law_424]
theorem w_L_law_473 : bb X P m_L_law h K J s_L_law_473 ls st μ = bb X P m_L_law h K J ((473, .aload_n 1, 1, 1, 0, 0, .inl 0, []) ::
  (474, .aload_n 0, 1, 0, 0, 0, .inl 0, []) ::
  (475, .iload 4, 2, 4, 0, 0, .inl 0, []) ::
  (477, .iconst 1, 1, 0, 0, 0, .inl (nI 1), []) ::
  (478, .iadd, 1, 0, 0, 0, .inl 0, []) ::
  (479, .iaload, 1, 0, 0, 0, .inl 0, []) ::
  (480, .invokevirtual 56, 3, 112, 2, 1, .inl 0, [690, 7]) ::
  (483, .aload_n 2, 1, 2, 0, 0, .inl 0, []) ::
  (484, .aload_n 0, 1, 0, 0, 0, .inl 0, []) ::
  (485, .iload 4, 2, 4, 0, 0, .inl 0, []) ::
  (487, .iconst 1, 1, 0, 0, 0, .inl (nI 1), []) ::
  (488, .iadd, 1, 0, 0, 0, .inl 0, []) ::
  (489, .iaload, 1, 0, 0, 0, .inl 0, []) ::
  (490, .invokevirtual 60, 3, 202, 2, 1, .inl 0, [1496, 8]) ::
  (493, .if_icmp .eq 1032, 3, 1525, 0, 0, .inl 0, []) ::
  (496, .iconst 0, 1, 0, 0, 0, .inl (nI 0), []) ::
  (497, .ireturn, 1, 1, 0, 0, .inl 0, []) :: s_L_law_498) ls st μ := by rw [s_L_law_473]
theorem v_L_law_473 : vc X P m_L_law h K k_L_law S (n + 1) 473 ls st μ = if 473 ∈ S then mAt X m_L_law h K 473 ls st μ else bb X P m_L_law h K (vc X P m_L_law h K k_L_law S n) s_L_law_473 ls st μ := by rw [vc_s, t_L_law_473]
theorem w_L_law_498 : bb X P m_L_law h K J s_L_law_498 ls st μ = bb X P m_L_law h K J ((498, .aload_n 1, 1, 1, 0, 0, .inl 0, []) ::
  (499, .invokevirtual 61, 3, 78, 1, 1, .inl 0, [694, 7]) ::
  (502, .aload_n 2, 1, 2, 0, 0, .inl 0, []) ::
  (503, .invokevirtual 65, 3, 142, 1, 1, .inl 0, [1500, 8]) ::
  (506, .if_icmp .eq 1019, 3, 1525, 0, 0, .inl 0, []) ::
  (509, .iconst 0, 1, 0, 0, 0, .inl (nI 0), []) ::
  (510, .ireturn, 1, 1, 0, 0, .inl 0, []) :: s_L_law_511) ls st μ := by rw [s_L_law_498]
theorem v_L_law_498 : vc X P m_L_law h K k_L_law S (n + 1) 498 ls st μ = if 498 ∈ S then mAt X m_L_law h K 498 ls st μ else bb X P m_L_law h K (vc X P m_L_law h K k_L_law S n) s_L_law_498 ls st μ := by rw [vc_s, t_L_law_498]
theorem w_L_law_511 : bb X P m_L_law h K J s_L_law_511 ls st μ = bb X P m_L_law h K J ((511, .aload_n 1, 1, 1, 0, 0, .inl 0, []) ::
  (512, .aload_n 0, 1, 0, 0, 0, .inl 0, []) ::
  (513, .iload 4, 2, 4, 0, 0, .inl 0, []) ::
  (515, .iconst 1, 1, 0, 0, 0, .inl (nI 1), []) ::
  (516, .iadd, 1, 0, 0, 0, .inl 0, []) ::
  (517, .iaload, 1, 0, 0, 0, .inl 0, []) ::
  (518, .invokevirtual 66, 3, 116, 2, 1, .inl 0, [708, 7]) ::
  (521, .aload_n 2, 1, 2, 0, 0, .inl 0, []) ::
  (522, .aload_n 0, 1, 0, 0, 0, .inl 0, []) ::
  (523, .iload 4, 2, 4, 0, 0, .inl 0, []) ::
  (525, .iconst 1, 1, 0, 0, 0, .inl (nI 1), []) ::
  (526, .iadd, 1, 0, 0, 0, .inl 0, []) ::
  (527, .iaload, 1, 0, 0, 0, .inl 0, []) ::
  (528, .invokevirtual 69, 3, 208, 2, 1, .inl 0, [1512, 8]) ::
  (531, .if_icmp .eq 994, 3, 1525, 0, 0, .inl 0, []) ::
  (534, .iconst 0, 1, 0, 0, 0, .inl (nI 0), []) ::
  (535, .ireturn, 1, 1, 0, 0, .inl 0, []) :: s_L_law_536) ls st μ := by rw [s_L_law_511]
theorem v_L_law_511 : vc X P m_L_law h K k_L_law S (n + 1) 511 ls st μ = if 511 ∈ S then mAt X m_L_law h K 511 ls st μ else bb X P m_L_law h K (vc X P m_L_law h K k_L_law S n) s_L_law_511 ls st μ := by rw [vc_s, t_L_law_511]
theorem w_L_law_536 : bb X P m_L_law h K J s_L_law_536 ls st μ = bb X P m_L_law h K J ((536, .aload_n 1, 1, 1, 0, 0, .inl 0, []) ::
  (537, .invokevirtual 70, 3, 100, 1, 1, .inl 0, [764, 7]) ::
  (540, .aload_n 2, 1, 2, 0, 0, .inl 0, []) ::
  (541, .invokevirtual 73, 3, 172, 1, 1, .inl 0, [1554, 8]) ::
  (544, .if_icmp .eq 981, 3, 1525, 0, 0, .inl 0, []) ::
  (547, .iconst 0, 1, 0, 0, 0, .inl (nI 0), []) ::
  (548, .ireturn, 1, 1, 0, 0, .inl 0, []) :: s_L_law_549) ls st μ := by rw [s_L_law_536]
theorem v_L_law_536 : vc X P m_L_law h K k_L_law S (n + 1) 536 ls st μ = if 536 ∈ S then mAt X m_L_law h K 536 ls st μ else bb X P m_L_law h K (vc X P m_L_law h K k_L_law S n) s_L_law_536 ls st μ := by rw [vc_s, t_L_law_536]
theorem w_L_law_549 : bb X P m_L_law h K J s_L_law_549 ls st μ = bb X P m_L_law h K J ((549, .aload_n 1, 1, 1, 0, 0, .inl 0, []) ::
  (550, .aload_n 0, 1, 0, 0, 0, .inl 0, []) ::
  (551, .iload 4, 2, 4, 0, 0, .inl 0, []) ::
  (553, .iconst 1, 1, 0, 0, 0, .inl (nI 1), []) ::
  (554, .iadd, 1, 0, 0, 0, .inl 0, []) ::
  (555, .iaload, 1, 0, 0, 0, .inl 0, []) ::
  (556, .aload_n 0, 1, 0, 0, 0, .inl 0, []) ::
  (557, .iload 4, 2, 4, 0, 0, .inl 0, []) ::
  (559, .iconst 2, 1, 0, 0, 0, .inl (nI 2), []) ::
  (560, .iadd, 1, 0, 0, 0, .inl 0, []) ::
  (561, .iaload, 1, 0, 0, 0, .inl 0, []) ::
  (562, .invokevirtual 74, 3, 129, 3, 1, .inl 0, [768, 7]) ::
  (565, .aload_n 2, 1, 2, 0, 0, .inl 0, []) ::
  (566, .aload_n 0, 1, 0, 0, 0, .inl 0, []) ::
  (567, .iload 4, 2, 4, 0, 0, .inl 0, []) ::
  (569, .iconst 1, 1, 0, 0, 0, .inl (nI 1), []) ::
  (570, .iadd, 1, 0, 0, 0, .inl 0, []) ::
  (571, .iaload, 1, 0, 0, 0, .inl 0, []) ::
  (572, .aload_n 0, 1, 0, 0, 0, .inl 0, []) ::
  (573, .iload 4, 2, 4, 0, 0, .inl 0, []) ::
  (575, .iconst 2, 1, 0, 0, 0, .inl (nI 2), []) ::
  (576, .iadd, 1, 0, 0, 0, .inl 0, []) ::
  (577, .iaload, 1, 0, 0, 0, .inl 0, []) ::
  (578, .invokevirtual 77, 3, 248, 3, 1, .inl 0, [1558, 8]) ::
  (581, .if_icmp .eq 944, 3, 1525, 0, 0, .inl 0, []) ::
  (584, .iconst 0, 1, 0, 0, 0, .inl (nI 0), []) ::
  (585, .ireturn, 1, 1, 0, 0, .inl 0, []) :: s_L_law_586) ls st μ := by rw [s_L_law_549]
theorem v_L_law_549 : vc X P m_L_law h K k_L_law S (n + 1) 549 ls st μ = if 549 ∈ S then mAt X m_L_law h K 549 ls st μ else bb X P m_L_law h K (vc X P m_L_law h K k_L_law S n) s_L_law_549 ls st μ := by rw [vc_s, t_L_law_549]
theorem w_L_law_586 : bb X P m_L_law h K J s_L_law_586 ls st μ = bb X P m_L_law h K J ((586, .aload_n 1, 1, 1, 0, 0, .inl 0, []) ::
  (587, .aload_n 0, 1, 0, 0, 0, .inl 0, []) ::
  (588, .iload 4, 2, 4, 0, 0, .inl 0, []) ::
  (590, .iconst 1, 1, 0, 0, 0, .inl (nI 1), []) ::
  (591, .iadd, 1, 0, 0, 0, .inl 0, []) ::
  (592, .iaload, 1, 0, 0, 0, .inl 0, []) ::
  (593, .aload_n 0, 1, 0, 0, 0, .inl 0, []) ::
  (594, .iload 4, 2, 4, 0, 0, .inl 0, []) ::
  (596, .iconst 2, 1, 0, 0, 0, .inl (nI 2), []) ::
  (597, .iadd, 1, 0, 0, 0, .inl 0, []) ::
  (598, .iaload, 1, 0, 0, 0, .inl 0, []) ::
  (599, .invokevirtual 78, 3, 130, 3, 1, .inl 0, [776, 7]) ::
  (602, .aload_n 2, 1, 2, 0, 0, .inl 0, []) ::
  (603, .aload_n 0, 1, 0, 0, 0, .inl 0, []) ::
  (604, .iload 4, 2, 4, 0, 0, .inl 0, []) ::
  (606, .iconst 1, 1, 0, 0, 0, .inl (nI 1), []) ::
  (607, .iadd, 1, 0, 0, 0, .inl 0, []) ::
  (608, .iaload, 1, 0, 0, 0, .inl 0, []) ::
  (609, .aload_n 0, 1, 0, 0, 0, .inl 0, []) ::
  (610, .iload 4, 2, 4, 0, 0, .inl 0, []) ::
  (612, .iconst 2, 1, 0, 0, 0, .inl (nI 2), []) ::
  (613, .iadd, 1, 0, 0, 0, .inl 0, []) ::
  (614, .iaload, 1, 0, 0, 0, .inl 0, []) ::
  (615, .invokevirtual 81, 3, 249, 3, 1, .inl 0, [1574, 8]) ::
  (618, .if_icmp .eq 907, 3, 1525, 0, 0, .inl 0, []) ::
  (621, .iconst 0, 1, 0, 0, 0, .inl (nI 0), []) ::
  (622, .ireturn, 1, 1, 0, 0, .inl 0, []) :: s_L_law_623) ls st μ := by rw [s_L_law_586]
theorem v_L_law_586 : vc X P m_L_law h K k_L_law S (n + 1) 586 ls st μ = if 586 ∈ S then mAt X m_L_law h K 586 ls st μ else bb X P m_L_law h K (vc X P m_L_law h K k_L_law S n) s_L_law_586 ls st μ := by rw [vc_s, t_L_law_586]
theorem w_L_law_623 : bb X P m_L_law h K J s_L_law_623 ls st μ = bb X P m_L_law h K J ((623, .aload_n 1, 1, 1, 0, 0, .inl 0, []) ::
  (624, .aload_n 0, 1, 0, 0, 0, .inl 0, []) ::
  (625, .iload 4, 2, 4, 0, 0, .inl 0, []) ::
  (627, .iconst 1, 1, 0, 0, 0, .inl (nI 1), []) ::
  (628, .iadd, 1, 0, 0, 0, .inl 0, []) ::
  (629, .iaload, 1, 0, 0, 0, .inl 0, []) ::
  (630, .aload_n 0, 1, 0, 0, 0, .inl 0, []) ::
  (631, .iload 4, 2, 4, 0, 0, .inl 0, []) ::
  (633, .iconst 2, 1, 0, 0, 0, .inl (nI 2), []) ::
  (634, .iadd, 1, 0, 0, 0, .inl 0, []) ::
  (635, .iaload, 1, 0, 0, 0, .inl 0, []) ::
  (636, .invokevirtual 82, 3, 118, 3, 1, .inl 0, [784, 7]) ::
  (639, .aload_n 2, 1, 2, 0, 0, .inl 0, []) ::
  (640, .aload_n 0, 1, 0, 0, 0, .inl 0, []) ::
  (641, .iload 4, 2, 4, 0, 0, .inl 0, []) ::
  (643, .iconst 1, 1, 0, 0, 0, .inl (nI 1), []) ::
  (644, .iadd, 1, 0, 0, 0, .inl 0, []) ::
  (645, .iaload, 1, 0, 0, 0, .inl 0, []) ::
  (646, .aload_n 0, 1, 0, 0, 0, .inl 0, []) ::
  (647, .iload 4, 2, 4, 0, 0, .inl 0, []) ::
  (649, .iconst 2, 1, 0, 0, 0, .inl (nI 2), []) ::
  (650, .iadd, 1, 0, 0, 0, .inl 0, []) ::
  (651, .iaload, 1, 0, 0, 0, .inl 0, []) ::
  (652, .invokevirtual 85, 3, 211, 3, 1, .inl 0, [1578, 8]) ::
  (655, .if_icmp .eq 870, 3, 1525, 0, 0, .inl 0, []) ::
  (658, .iconst 0, 1, 0, 0, 0, .inl (nI 0), []) ::
  (659, .ireturn, 1, 1, 0, 0, .inl 0, []) :: s_L_law_660) ls st μ := by rw [s_L_law_623]
theorem v_L_law_623 : vc X P m_L_law h K k_L_law S (n + 1) 623 ls st μ = if 623 ∈ S then mAt X m_L_law h K 623 ls st μ else bb X P m_L_law h K (vc X P m_L_law h K k_L_law S n) s_L_law_623 ls st μ := by rw [vc_s, t_L_law_623]
theorem w_L_law_660 : bb X P m_L_law h K J s_L_law_660 ls st μ = bb X P m_L_law h K J ((660, .aload_n 1, 1, 1, 0, 0, .inl 0, []) ::
  (661, .aload_n 0, 1, 0, 0, 0, .inl 0, []) ::
  (662, .iload 4, 2, 4, 0, 0, .inl 0, []) ::
  (664, .iconst 1, 1, 0, 0, 0, .inl (nI 1), []) ::
  (665, .iadd, 1, 0, 0, 0, .inl 0, []) ::
  (666, .iaload, 1, 0, 0, 0, .inl 0, []) ::
  (667, .aload_n 0, 1, 0, 0, 0, .inl 0, []) ::
  (668, .iload 4, 2, 4, 0, 0, .inl 0, []) ::
  (670, .iconst 2, 1, 0, 0, 0, .inl (nI 2), []) ::
  (671, .iadd, 1, 0, 0, 0, .inl 0, []) ::
  (672, .iaload, 1, 0, 0, 0, .inl 0, []) ::
  (673, .invokevirtual 86, 3, 83, 3, 1, .inl 0, [792, 7]) ::
  (676, .aload_n 2, 1, 2, 0, 0, .inl 0, []) ::
  (677, .aload_n 0, 1, 0, 0, 0, .inl 0, []) ::
  (678, .iload 4, 2, 4, 0, 0, .inl 0, []) ::
  (680, .iconst 1, 1, 0, 0, 0, .inl (nI 1), []) ::
  (681, .iadd, 1, 0, 0, 0, .inl 0, []) ::
  (682, .iaload, 1, 0, 0, 0, .inl 0, []) ::
  (683, .aload_n 0, 1, 0, 0, 0, .inl 0, []) ::
  (684, .iload 4, 2, 4, 0, 0, .inl 0, []) ::
  (686, .iconst 2, 1, 0, 0, 0, .inl (nI 2), []) ::
  (687, .iadd, 1, 0, 0, 0, .inl 0, []) ::
  (688, .iaload, 1, 0, 0, 0, .inl 0, []) ::
  (689, .invokevirtual 89, 3, 151, 3, 1, .inl 0, [1566, 8]) ::
  (692, .if_icmp .eq 833, 3, 1525, 0, 0, .inl 0, []) ::
  (695, .iconst 0, 1, 0, 0, 0, .inl (nI 0), []) ::
  (696, .ireturn, 1, 1, 0, 0, .inl 0, []) :: s_L_law_697) ls st μ := by rw [s_L_law_660]
theorem v_L_law_660 : vc X P m_L_law h K k_L_law S (n + 1) 660 ls st μ = if 660 ∈ S then mAt X m_L_law h K 660 ls st μ else bb X P m_L_law h K (vc X P m_L_law h K k_L_law S n) s_L_law_660 ls st μ := by rw [vc_s, t_L_law_660]
theorem w_L_law_697 : bb X P m_L_law h K J s_L_law_697 ls st μ = bb X P m_L_law h K J ((697, .aload_n 1, 1, 1, 0, 0, .inl 0, []) ::
  (698, .aload_n 0, 1, 0, 0, 0, .inl 0, []) ::
  (699, .iload 4, 2, 4, 0, 0, .inl 0, []) ::
  (701, .iconst 1, 1, 0, 0, 0, .inl (nI 1), []) ::
  (702, .iadd, 1, 0, 0, 0, .inl 0, []) ::
  (703, .iaload, 1, 0, 0, 0, .inl 0, []) ::
  (704, .aload_n 0, 1, 0, 0, 0, .inl 0, []) ::
  (705, .iload 4, 2, 4, 0, 0, .inl 0, []) ::
  (707, .iconst 2, 1, 0, 0, 0, .inl (nI 2), []) ::
  (708, .iadd, 1, 0, 0, 0, .inl 0, []) ::
  (709, .iaload, 1, 0, 0, 0, .inl 0, []) ::
  (710, .invokevirtual 90, 3, 110, 3, 1, .inl 0, [796, 7]) ::
  (713, .aload_n 2, 1, 2, 0, 0, .inl 0, []) ::
  (714, .aload_n 0, 1, 0, 0, 0, .inl 0, []) ::
  (715, .iload 4, 2, 4, 0, 0, .inl 0, []) ::
  (717, .iconst 1, 1, 0, 0, 0, .inl (nI 1), []) ::
  (718, .iadd, 1, 0, 0, 0, .inl 0, []) ::
  (719, .iaload, 1, 0, 0, 0, .inl 0, []) ::
  (720, .aload_n 0, 1, 0, 0, 0, .inl 0, []) ::
  (721, .iload 4, 2, 4, 0, 0, .inl 0, []) ::
  (723, .iconst 2, 1, 0, 0, 0, .inl (nI 2), []) ::
  (724, .iadd, 1, 0, 0, 0, .inl 0, []) ::
  (725, .iaload, 1, 0, 0, 0, .inl 0, []) ::
  (726, .invokevirtual 93, 3, 195, 3, 1, .inl 0, [1570, 8]) ::
  (729, .if_icmp .eq 796, 3, 1525, 0, 0, .inl 0, []) ::
  (732, .iconst 0, 1, 0, 0, 0, .inl (nI 0), []) ::
  (733, .ireturn, 1, 1, 0, 0, .inl 0, []) :: s_L_law_734) ls st μ := by rw [s_L_law_697]
theorem v_L_law_697 : vc X P m_L_law h K k_L_law S (n + 1) 697 ls st μ = if 697 ∈ S then mAt X m_L_law h K 697 ls st μ else bb X P m_L_law h K (vc X P m_L_law h K k_L_law S n) s_L_law_697 ls st μ := by rw [vc_s, t_L_law_697]
theorem w_L_law_734 : bb X P m_L_law h K J s_L_law_734 ls st μ = bb X P m_L_law h K J ((734, .aload_n 1, 1, 1, 0, 0, .inl 0, []) ::
  (735, .aload_n 0, 1, 0, 0, 0, .inl 0, []) ::
  (736, .iload 4, 2, 4, 0, 0, .inl 0, []) ::
  (738, .iconst 1, 1, 0, 0, 0, .inl (nI 1), []) ::
  (739, .iadd, 1, 0, 0, 0, .inl 0, []) ::
  (740, .iaload, 1, 0, 0, 0, .inl 0, []) ::
  (741, .aload_n 0, 1, 0, 0, 0, .inl 0, []) ::
  (742, .iload 4, 2, 4, 0, 0, .inl 0, []) ::
  (744, .iconst 2, 1, 0, 0, 0, .inl (nI 2), []) ::
  (745, .iadd, 1, 0, 0, 0, .inl 0, []) ::
  (746, .iaload, 1, 0, 0, 0, .inl 0, []) ::
  (747, .invokevirtual 94, 3, 96, 3, 1, .inl 0, [841, 7]) ::
  (750, .aload_n 2, 1, 2, 0, 0, .inl 0, []) ::
  (751, .aload_n 0, 1, 0, 0, 0, .inl 0, []) ::
  (752, .iload 4, 2, 4, 0, 0, .inl 0, []) ::
  (754, .iconst 1, 1, 0, 0, 0, .inl (nI 1), []) ::
  (755, .iadd, 1, 0, 0, 0, .inl 0, []) ::
  (756, .iaload, 1, 0, 0, 0, .inl 0, []) ::
  (757, .aload_n 0, 1, 0, 0, 0, .inl 0, []) ::
  (758, .iload 4, 2, 4, 0, 0, .inl 0, []) ::
  (760, .iconst 2, 1, 0, 0, 0, .inl (nI 2), []) ::
  (761, .iadd, 1, 0, 0, 0, .inl 0, []) ::
  (762, .iaload, 1, 0, 0, 0, .inl 0, []) ::
  (763, .invokevirtual 97, 3, 164, 3, 1, .inl 0, [1590, 8]) ::
  (766, .if_icmp .eq 759, 3, 1525, 0, 0, .inl 0, []) ::
  (769, .iconst 0, 1, 0, 0, 0, .inl (nI 0), []) ::
  (770, .ireturn, 1, 1, 0, 0, .inl 0, []) :: s_L_law_771) ls st μ := by rw [s_L_law_734]
theorem v_L_law_734 : vc X P m_L_law h K k_L_law S (n + 1) 734 ls st μ = if 734 ∈ S then mAt X m_L_law h K 734 ls st μ else bb X P m_L_law h K (vc X P m_L_law h K k_L_law S n) s_L_law_734 ls st μ := by rw [vc_s, t_L_law_734]
theorem w_L_law_771 : bb X P m_L_law h K J s_L_law_771 ls st μ = bb X P m_L_law h K J ((771, .aload_n 1, 1, 1, 0, 0, .inl 0, []) ::
  (772, .aload_n 0, 1, 0, 0, 0, .inl 0, []) ::
  (773, .iload 4, 2, 4, 0, 0, .inl 0, []) ::
  (775, .iconst 1, 1, 0, 0, 0, .inl (nI 1), []) ::
  (776, .iadd, 1, 0, 0, 0, .inl 0, []) ::
  (777, .iaload, 1, 0, 0, 0, .inl 0, []) ::
  (778, .invokevirtual 98, 3, 117, 2, 1, .inl 0, [850, 7]) ::
  (781, .aload_n 2, 1, 2, 0, 0, .inl 0, []) ::
  (782, .aload_n 0, 1, 0, 0, 0, .inl 0, []) ::
  (783, .iload 4, 2, 4, 0, 0, .inl 0, []) ::
  (785, .iconst 1, 1, 0, 0, 0, .inl (nI 1), []) ::
  (786, .iadd, 1, 0, 0, 0, .inl 0, []) ::
  (787, .iaload, 1, 0, 0, 0, .inl 0, []) ::
  (788, .invokevirtual 101, 3, 209, 2, 1, .inl 0, [1594, 8]) ::
  (791, .if_icmp .eq 734, 3, 1525, 0, 0, .inl 0, []) ::
  (794, .iconst 0, 1, 0, 0, 0, .inl (nI 0), []) ::
  (795, .ireturn, 1, 1, 0, 0, .inl 0, []) :: s_L_law_796) ls st μ := by rw [s_L_law_771]
theorem v_L_law_771 : vc X P m_L_law h K k_L_law S (n + 1) 771 ls st μ = if 771 ∈ S then mAt X m_L_law h K 771 ls st μ else bb X P m_L_law h K (vc X P m_L_law h K k_L_law S n) s_L_law_771 ls st μ := by rw [vc_s, t_L_law_771]
theorem w_L_law_796 : bb X P m_L_law h K J s_L_law_796 ls st μ = bb X P m_L_law h K J ((796, .aload_n 1, 1, 1, 0, 0, .inl 0, []) ::
  (797, .invokevirtual 102, 3, 113, 1, 1, .inl 0, [800, 7]) ::
  (800, .aload_n 2, 1, 2, 0, 0, .inl 0, []) ::
  (801, .invokevirtual 105, 3, 203, 1, 1, .inl 0, [1582, 8]) ::
  (804, .if_icmp .eq 721, 3, 1525, 0, 0, .inl 0, []) ::
  (807, .iconst 0, 1, 0, 0, 0, .inl (nI 0), []) ::
  (808, .ireturn, 1, 1, 0, 0, .inl 0, []) :: s_L_law_809) ls st μ := by rw [s_L_law_796]
theorem v_L_law_796 : vc X P m_L_law h K k_L_law S (n + 1) 796 ls st μ = if 796 ∈ S then mAt X m_L_law h K 796 ls st μ else bb X P m_L_law h K (vc X P m_L_law h K k_L_law S n) s_L_law_796 ls st μ := by rw [vc_s, t_L_law_796]
theorem w_L_law_809 : bb X P m_L_law h K J s_L_law_809 ls st μ = bb X P m_L_law h K J ((809, .aload_n 1, 1, 1, 0, 0, .inl 0, []) ::
  (810, .invokevirtual 106, 3, 120, 1, 1, .inl 0, [808, 7]) ::
  (813, .aload_n 2, 1, 2, 0, 0, .inl 0, []) ::
  (814, .invokevirtual 109, 3, 212, 1, 1, .inl 0, [1743, 8]) ::
  (817, .if_icmp .eq 708, 3, 1525, 0, 0, .inl 0, []) ::
  (820, .iconst 0, 1, 0, 0, 0, .inl (nI 0), []) ::
  (821, .ireturn, 1, 1, 0, 0, .inl 0, []) :: s_L_law_822) ls st μ := by rw [s_L_law_809]
theorem v_L_law_809 : vc X P m_L_law h K k_L_law S (n + 1) 809 ls st μ = if 809 ∈ S then mAt X m_L_law h K 809 ls st μ else bb X P m_L_law h K (vc X P m_L_law h K k_L_law S n) s_L_law_809 ls st μ := by rw [vc_s, t_L_law_809]
theorem w_L_law_822 : bb X P m_L_law h K J s_L_law_822 ls st μ = bb X P m_L_law h K J ((822, .aload_n 1, 1, 1, 0, 0, .inl 0, []) ::
  (823, .aload_n 0, 1, 0, 0, 0, .inl 0, []) ::
  (824, .iload 4, 2, 4, 0, 0, .inl 0, []) ::
  (826, .iconst 1, 1, 0, 0, 0, .inl (nI 1), []) ::
  (827, .iadd, 1, 0, 0, 0, .inl 0, []) ::
  (828, .iaload, 1, 0, 0, 0, .inl 0, []) ::
  (829, .invokevirtual 110, 3, 75, 2, 1, .inl 0, [854, 7]) ::
  (832, .aload_n 2, 1, 2, 0, 0, .inl 0, []) ::
  (833, .aload_n 0, 1, 0, 0, 0, .inl 0, []) ::
  (834, .iload 4, 2, 4, 0, 0, .inl 0, []) ::
  (836, .iconst 1, 1, 0, 0, 0, .inl (nI 1), []) ::
  (837, .iadd, 1, 0, 0, 0, .inl 0, []) ::
  (838, .iaload, 1, 0, 0, 0, .inl 0, []) ::
  (839, .invokevirtual 113, 3, 136, 2, 1, .inl 0, [1598, 8]) ::
  (842, .if_icmp .eq 683, 3, 1525, 0, 0, .inl 0, []) ::
  (845, .iconst 0, 1, 0, 0, 0, .inl (nI 0), []) ::
  (846, .ireturn, 1, 1, 0, 0, .inl 0, []) :: s_L_law_847) ls st μ := by rw [s_L_law_822]
theorem v_L_law_822 : vc X P m_L_law h K k_L_law S (n + 1) 822 ls st μ = if 822 ∈ S then mAt X m_L_law h K 822 ls st μ else bb X P m_L_law h K (vc X P m_L_law h K k_L_law S n) s_L_law_822 ls st μ := by rw [vc_s, t_L_law_822]
theorem w_L_law_847 : bb X P m_L_law h K J s_L_law_847 ls st μ = bb X P m_L_law h K J ((847, .aload_n 1, 1, 1, 0, 0, .inl 0, []) ::
  (848, .aload_n 0, 1, 0, 0, 0, .inl 0, []) ::
  (849, .iload 4, 2, 4, 0, 0, .inl 0, []) ::
  (851, .iconst 1, 1, 0, 0, 0, .inl (nI 1), []) ::
  (852, .iadd, 1, 0, 0, 0, .inl 0, []) ::
  (853, .iaload, 1, 0, 0, 0, .inl 0, []) ::
  (854, .aload_n 0, 1, 0, 0, 0, .inl 0, []) ::
  (855, .iload 4, 2, 4, 0, 0, .inl 0, []) ::
  (857, .iconst 2, 1, 0, 0, 0, .inl (nI 2), []) ::
  (858, .iadd, 1, 0, 0, 0, .inl 0, []) ::
  (859, .iaload, 1, 0, 0, 0, .inl 0, []) ::
  (860, .invokevirtual 114, 3, 80, 3, 1, .inl 0, [870, 7]) ::
  (863, .aload_n 2, 1, 2, 0, 0, .inl 0, []) ::
  (864, .aload_n 0, 1, 0, 0, 0, .inl 0, []) ::
  (865, .iload 4, 2, 4, 0, 0, .inl 0, []) ::
  (867, .iconst 1, 1, 0, 0, 0, .inl (nI 1), []) ::
  (868, .iadd, 1, 0, 0, 0, .inl 0, []) ::
  (869, .iaload, 1, 0, 0, 0, .inl 0, []) ::
  (870, .aload_n 0, 1, 0, 0, 0, .inl 0, []) ::
  (871, .iload 4, 2, 4, 0, 0, .inl 0, []) ::
  (873, .iconst 2, 1, 0, 0, 0, .inl (nI 2), []) ::
  (874, .iadd, 1, 0, 0, 0, .inl 0, []) ::
  (875, .iaload, 1, 0, 0, 0, .inl 0, []) ::
  (876, .invokevirtual 117, 3, 146, 3, 1, .inl 0, [1606, 8]) ::
  (879, .if_icmp .eq 646, 3, 1525, 0, 0, .inl 0, []) ::
  (882, .iconst 0, 1, 0, 0, 0, .inl (nI 0), []) ::
  (883, .ireturn, 1, 1, 0, 0, .inl 0, []) :: s_L_law_884) ls st μ := by rw [s_L_law_847]
theorem v_L_law_847 : vc X P m_L_law h K k_L_law S (n + 1) 847 ls st μ = if 847 ∈ S then mAt X m_L_law h K 847 ls st μ else bb X P m_L_law h K (vc X P m_L_law h K k_L_law S n) s_L_law_847 ls st μ := by rw [vc_s, t_L_law_847]
theorem w_L_law_884 : bb X P m_L_law h K J s_L_law_884 ls st μ = bb X P m_L_law h K J ((884, .aload_n 1, 1, 1, 0, 0, .inl 0, []) ::
  (885, .aload_n 0, 1, 0, 0, 0, .inl 0, []) ::
  (886, .iload 4, 2, 4, 0, 0, .inl 0, []) ::
  (888, .iconst 1, 1, 0, 0, 0, .inl (nI 1), []) ::
  (889, .iadd, 1, 0, 0, 0, .inl 0, []) ::
  (890, .iaload, 1, 0, 0, 0, .inl 0, []) ::
  (891, .aload_n 0, 1, 0, 0, 0, .inl 0, []) ::
  (892, .iload 4, 2, 4, 0, 0, .inl 0, []) ::
  (894, .iconst 2, 1, 0, 0, 0, .inl (nI 2), []) ::
  (895, .iadd, 1, 0, 0, 0, .inl 0, []) ::
  (896, .iaload, 1, 0, 0, 0, .inl 0, []) ::
  (897, .invokevirtual 118, 3, 115, 3, 1, .inl 0, [889, 7]) ::
  (900, .aload_n 2, 1, 2, 0, 0, .inl 0, []) ::
  (901, .aload_n 0, 1, 0, 0, 0, .inl 0, []) ::
  (902, .iload 4, 2, 4, 0, 0, .inl 0, []) ::
  (904, .iconst 1, 1, 0, 0, 0, .inl (nI 1), []) ::
  (905, .iadd, 1, 0, 0, 0, .inl 0, []) ::
  (906, .iaload, 1, 0, 0, 0, .inl 0, []) ::
  (907, .aload_n 0, 1, 0, 0, 0, .inl 0, []) ::
  (908, .iload 4, 2, 4, 0, 0, .inl 0, []) ::
  (910, .iconst 2, 1, 0, 0, 0, .inl (nI 2), []) ::
  (911, .iadd, 1, 0, 0, 0, .inl 0, []) ::
  (912, .iaload, 1, 0, 0, 0, .inl 0, []) ::
  (913, .invokevirtual 121, 3, 207, 3, 1, .inl 0, [1625, 8]) ::
  (916, .if_icmp .eq 609, 3, 1525, 0, 0, .inl 0, []) ::
  (919, .iconst 0, 1, 0, 0, 0, .inl (nI 0), []) ::
  (920, .ireturn, 1, 1, 0, 0, .inl 0, []) :: s_L_law_921) ls st μ := by rw [s_L_law_884]
theorem v_L_law_884 : vc X P m_L_law h K k_L_law S (n + 1) 884 ls st μ = if 884 ∈ S then mAt X m_L_law h K 884 ls st μ else bb X P m_L_law h K (vc X P m_L_law h K k_L_law S n) s_L_law_884 ls st μ := by rw [vc_s, t_L_law_884]
theorem w_L_law_921 : bb X P m_L_law h K J s_L_law_921 ls st μ = bb X P m_L_law h K J ((921, .aload_n 1, 1, 1, 0, 0, .inl 0, []) ::
  (922, .aload_n 0, 1, 0, 0, 0, .inl 0, []) ::
  (923, .iload 4, 2, 4, 0, 0, .inl 0, []) ::
  (925, .iconst 1, 1, 0, 0, 0, .inl (nI 1), []) ::
  (926, .iadd, 1, 0, 0, 0, .inl 0, []) ::
  (927, .iaload, 1, 0, 0, 0, .inl 0, []) ::
  (928, .invokevirtual 122, 3, 133, 2, 1, .inl 0, [893, 7]) ::
  (931, .aload_n 2, 1, 2, 0, 0, .inl 0, []) ::
  (932, .aload_n 0, 1, 0, 0, 0, .inl 0, []) ::
  (933, .iload 4, 2, 4, 0, 0, .inl 0, []) ::
  (935, .iconst 1, 1, 0, 0, 0, .inl (nI 1), []) ::
  (936, .iadd, 1, 0, 0, 0, .inl 0, []) ::
  (937, .iaload, 1, 0, 0, 0, .inl 0, []) ::
  (938, .invokevirtual 125, 3, 254, 2, 1, .inl 0, [1633, 8]) ::
  (941, .if_icmp .eq 584, 3, 1525, 0, 0, .inl 0, []) ::
  (944, .iconst 0, 1, 0, 0, 0, .inl (nI 0), []) ::
  (945, .ireturn, 1, 1, 0, 0, .inl 0, []) :: s_L_law_946) ls st μ := by rw [s_L_law_921]
theorem v_L_law_921 : vc X P m_L_law h K k_L_law S (n + 1) 921 ls st μ = if 921 ∈ S then mAt X m_L_law h K 921 ls st μ else bb X P m_L_law h K (vc X P m_L_law h K k_L_law S n) s_L_law_921 ls st μ := by rw [vc_s, t_L_law_921]
theorem w_L_law_946 : bb X P m_L_law h K J s_L_law_946 ls st μ = bb X P m_L_law h K J ((946, .aload_n 1, 1, 1, 0, 0, .inl 0, []) ::
  (947, .aload_n 0, 1, 0, 0, 0, .inl 0, []) ::
  (948, .iload 4, 2, 4, 0, 0, .inl 0, []) ::
  (950, .iconst 1, 1, 0, 0, 0, .inl (nI 1), []) ::
  (951, .iadd, 1, 0, 0, 0, .inl 0, []) ::
  (952, .iaload, 1, 0, 0, 0, .inl 0, []) ::
  (953, .aload_n 0, 1, 0, 0, 0, .inl 0, []) ::
  (954, .iload 4, 2, 4, 0, 0, .inl 0, []) ::
  (956, .iconst 2, 1, 0, 0, 0, .inl (nI 2), []) ::
  (957, .iadd, 1, 0, 0, 0, .inl 0, []) ::
  (958, .iaload, 1, 0, 0, 0, .inl 0, []) ::
  (959, .aload_n 3, 1, 3, 0, 0, .inl 0, []) ::
  (960, .invokestatic 126, 3, 0, 0, 8, .inl 0, []) ::
  (963, .istore 5, 2, 5, 0, 0, .inl 0, []) ::
  (965, .aload_n 2, 1, 2, 0, 0, .inl 0, []) ::
  (966, .aload_n 0, 1, 0, 0, 0, .inl 0, []) ::
  (967, .iload 4, 2, 4, 0, 0, .inl 0, []) ::
  (969, .iconst 1, 1, 0, 0, 0, .inl (nI 1), []) ::
  (970, .iadd, 1, 0, 0, 0, .inl 0, []) ::
  (971, .iaload, 1, 0, 0, 0, .inl 0, []) ::
  (972, .aload_n 0, 1, 0, 0, 0, .inl 0, []) ::
  (973, .iload 4, 2, 4, 0, 0, .inl 0, []) ::
  (975, .iconst 2, 1, 0, 0, 0, .inl (nI 2), []) ::
  (976, .iadd, 1, 0, 0, 0, .inl 0, []) ::
  (977, .iaload, 1, 0, 0, 0, .inl 0, []) ::
  (978, .invokevirtual 128, 3, 255, 3, 2, .inl 0, [1647, 8]) ::
  (981, .lstore 6, 2, 6, 0, 0, .inl 0, []) ::
  (983, .aload_n 2, 1, 2, 0, 0, .inl 0, []) ::
  (984, .invokevirtual 48, 3, 247, 1, 1, .inl 0, [1333, 8]) ::
  (987, .iload 5, 2, 5, 0, 0, .inl 0, []) ::
  (989, .if_icmp .eq 5, 3, 994, 0, 0, .inl 0, []) ::
  (992, .iconst 0, 1, 0, 0, 0, .inl (nI 0), []) ::
  (993, .ireturn, 1, 1, 0, 0, .inl 0, []) :: s_L_law_994) ls st μ := by rw [s_L_law_946]
theorem v_L_law_946 : vc X P m_L_law h K k_L_law S (n + 1) 946 ls st μ = if 946 ∈ S then mAt X m_L_law h K 946 ls st μ else bb X P m_L_law h K (vc X P m_L_law h K k_L_law S n) s_L_law_946 ls st μ := by rw [vc_s, t_L_law_946]
theorem w_L_law_994 : bb X P m_L_law h K J s_L_law_994 ls st μ = bb X P m_L_law h K J ((994, .iload 5, 2, 5, 0, 0, .inl 0, []) ::
  (996, .ifCond .ne 14, 3, 1010, 0, 0, .inl 0, []) ::
  (999, .aload_n 3, 1, 3, 0, 0, .inl 0, []) ::
  (1000, .iconst 0, 1, 0, 0, 0, .inl (nI 0), []) ::
  (1001, .laload, 1, 0, 0, 0, .inl 0, []) ::
  (1002, .lload 6, 2, 6, 0, 0, .inl 0, []) ::
  (1004, .lcmp, 1, 0, 0, 0, .inl 0, []) ::
  (1005, .ifCond .eq 5, 3, 1010, 0, 0, .inl 0, []) ::
  (1008, .iconst 0, 1, 0, 0, 0, .inl (nI 0), []) ::
  (1009, .ireturn, 1, 1, 0, 0, .inl 0, []) :: s_L_law_1010) ls st μ := by rw [s_L_law_994]
theorem v_L_law_994 : vc X P m_L_law h K k_L_law S (n + 1) 994 ls st μ = if 994 ∈ S then mAt X m_L_law h K 994 ls st μ else bb X P m_L_law h K (vc X P m_L_law h K k_L_law S n) s_L_law_994 ls st μ := by rw [vc_s, t_L_law_994]
theorem w_L_law_1010 : bb X P m_L_law h K J s_L_law_1010 ls st μ = bb X P m_L_law h K J ((1010, .goto 515, 3, 1525, 0, 0, .inl 0, []) :: s_L_law_1013) ls st μ := by rw [s_L_law_1010]
theorem v_L_law_1010 : vc X P m_L_law h K k_L_law S (n + 1) 1010 ls st μ = if 1010 ∈ S then mAt X m_L_law h K 1010 ls st μ else bb X P m_L_law h K (vc X P m_L_law h K k_L_law S n) s_L_law_1010 ls st μ := by rw [vc_s, t_L_law_1010]
theorem w_L_law_1013 : bb X P m_L_law h K J s_L_law_1013 ls st μ = bb X P m_L_law h K J ((1013, .aload_n 1, 1, 1, 0, 0, .inl 0, []) ::
  (1014, .aload_n 0, 1, 0, 0, 0, .inl 0, []) ::
  (1015, .iload 4, 2, 4, 0, 0, .inl 0, []) ::
  (1017, .iconst 1, 1, 0, 0, 0, .inl (nI 1), []) ::
  (1018, .iadd, 1, 0, 0, 0, .inl 0, []) ::
  (1019, .iaload, 1, 0, 0, 0, .inl 0, []) ::
  (1020, .invokevirtual 129, 3, 107, 2, 1, .inl 0, [918, 7]) ::
  (1023, .aload_n 2, 1, 2, 0, 0, .inl 0, []) ::
  (1024, .aload_n 0, 1, 0, 0, 0, .inl 0, []) ::
  (1025, .iload 4, 2, 4, 0, 0, .inl 0, []) ::
  (1027, .iconst 1, 1, 0, 0, 0, .inl (nI 1), []) ::
  (1028, .iadd, 1, 0, 0, 0, .inl 0, []) ::
  (1029, .iaload, 1, 0, 0, 0, .inl 0, []) ::
  (1030, .invokevirtual 132, 3, 191, 2, 1, .inl 0, [1651, 8]) ::
  (1033, .if_icmp .eq 492, 3, 1525, 0, 0, .inl 0, []) ::
  (1036, .iconst 0, 1, 0, 0, 0, .inl (nI 0), []) ::
  (1037, .ireturn, 1, 1, 0, 0, .inl 0, []) :: s_L_law_1038) ls st μ := by rw [s_L_law_1013]
theorem v_L_law_1013 : vc X P m_L_law h K k_L_law S (n + 1) 1013 ls st μ = if 1013 ∈ S then mAt X m_L_law h K 1013 ls st μ else bb X P m_L_law h K (vc X P m_L_law h K k_L_law S n) s_L_law_1013 ls st μ := by rw [vc_s, t_L_law_1013]
theorem w_L_law_1038 : bb X P m_L_law h K J s_L_law_1038 ls st μ = bb X P m_L_law h K J ((1038, .aload_n 1, 1, 1, 0, 0, .inl 0, []) ::
  (1039, .aload_n 0, 1, 0, 0, 0, .inl 0, []) ::
  (1040, .iload 4, 2, 4, 0, 0, .inl 0, []) ::
  (1042, .iconst 1, 1, 0, 0, 0, .inl (nI 1), []) ::
  (1043, .iadd, 1, 0, 0, 0, .inl 0, []) ::
  (1044, .iaload, 1, 0, 0, 0, .inl 0, []) ::
  (1045, .invokevirtual 133, 3, 128, 2, 1, .inl 0, [926, 7]) ::
  (1048, .aload_n 2, 1, 2, 0, 0, .inl 0, []) ::
  (1049, .aload_n 0, 1, 0, 0, 0, .inl 0, []) ::
  (1050, .iload 4, 2, 4, 0, 0, .inl 0, []) ::
  (1052, .iconst 1, 1, 0, 0, 0, .inl (nI 1), []) ::
  (1053, .iadd, 1, 0, 0, 0, .inl 0, []) ::
  (1054, .iaload, 1, 0, 0, 0, .inl 0, []) ::
  (1055, .invokevirtual 136, 3, 244, 2, 1, .inl 0, [1655, 8]) ::
  (1058, .if_icmp .eq 467, 3, 1525, 0, 0, .inl 0, []) ::
  (1061, .iconst 0, 1, 0, 0, 0, .inl (nI 0), []) ::
  (1062, .ireturn, 1, 1, 0, 0, .inl 0, []) :: s_L_law_1063) ls st μ := by rw [s_L_law_1038]
theorem v_L_law_1038 : vc X P m_L_law h K k_L_law S (n + 1) 1038 ls st μ = if 1038 ∈ S then mAt X m_L_law h K 1038 ls st μ else bb X P m_L_law h K (vc X P m_L_law h K k_L_law S n) s_L_law_1038 ls st μ := by rw [vc_s, t_L_law_1038]
theorem w_L_law_1063 : bb X P m_L_law h K J s_L_law_1063 ls st μ = bb X P m_L_law h K J ((1063, .aload_n 1, 1, 1, 0, 0, .inl 0, []) ::
  (1064, .aload_n 0, 1, 0, 0, 0, .inl 0, []) ::
  (1065, .iload 4, 2, 4, 0, 0, .inl 0, []) ::
  (1067, .iconst 1, 1, 0, 0, 0, .inl (nI 1), []) ::
  (1068, .iadd, 1, 0, 0, 0, .inl 0, []) ::
  (1069, .iaload, 1, 0, 0, 0, .inl 0, []) ::
  (1070, .invokevirtual 137, 3, 127, 2, 1, .inl 0, [937, 7]) ::
  (1073, .aload_n 2, 1, 2, 0, 0, .inl 0, []) ::
  (1074, .aload_n 0, 1, 0, 0, 0, .inl 0, []) ::
  (1075, .iload 4, 2, 4, 0, 0, .inl 0, []) ::
  (1077, .iconst 1, 1, 0, 0, 0, .inl (nI 1), []) ::
  (1078, .iadd, 1, 0, 0, 0, .inl 0, []) ::
  (1079, .iaload, 1, 0, 0, 0, .inl 0, []) ::
  (1080, .invokevirtual 140, 3, 243, 2, 1, .inl 0, [1667, 8]) ::
  (1083, .if_icmp .eq 442, 3, 1525, 0, 0, .inl 0, []) ::
  (1086, .iconst 0, 1, 0, 0, 0, .inl (nI 0), []) ::
  (1087, .ireturn, 1, 1, 0, 0, .inl 0, []) :: s_L_law_1088) ls st μ := by rw [s_L_law_1063]
theorem v_L_law_1063 : vc X P m_L_law h K k_L_law S (n + 1) 1063 ls st μ = if 1063 ∈ S then mAt X m_L_law h K 1063 ls st μ else bb X P m_L_law h K (vc X P m_L_law h K k_L_law S n) s_L_law_1063 ls st μ := by rw [vc_s, t_L_law_1063]
theorem w_L_law_1088 : bb X P m_L_law h K J s_L_law_1088 ls st μ = bb X P m_L_law h K J ((1088, .aload_n 1, 1, 1, 0, 0, .inl 0, []) ::
  (1089, .aload_n 0, 1, 0, 0, 0, .inl 0, []) ::
  (1090, .iload 4, 2, 4, 0, 0, .inl 0, []) ::
  (1092, .iconst 1, 1, 0, 0, 0, .inl (nI 1), []) ::
  (1093, .iadd, 1, 0, 0, 0, .inl 0, []) ::
  (1094, .iaload, 1, 0, 0, 0, .inl 0, []) ::
  (1095, .invokevirtual 141, 3, 98, 2, 1, .inl 0, [941, 7]) ::
  (1098, .aload_n 2, 1, 2, 0, 0, .inl 0, []) ::
  (1099, .aload_n 0, 1, 0, 0, 0, .inl 0, []) ::
  (1100, .iload 4, 2, 4, 0, 0, .inl 0, []) ::
  (1102, .iconst 1, 1, 0, 0, 0, .inl (nI 1), []) ::
  (1103, .iadd, 1, 0, 0, 0, .inl 0, []) ::
  (1104, .iaload, 1, 0, 0, 0, .inl 0, []) ::
  (1105, .invokevirtual 144, 3, 167, 2, 1, .inl 0, [1671, 8]) ::
  (1108, .if_icmp .eq 417, 3, 1525, 0, 0, .inl 0, []) ::
  (1111, .iconst 0, 1, 0, 0, 0, .inl (nI 0), []) ::
  (1112, .ireturn, 1, 1, 0, 0, .inl 0, []) :: s_L_law_1113) ls st μ := by rw [s_L_law_1088]
theorem v_L_law_1088 : vc X P m_L_law h K k_L_law S (n + 1) 1088 ls st μ = if 1088 ∈ S then mAt X m_L_law h K 1088 ls st μ else bb X P m_L_law h K (vc X P m_L_law h K k_L_law S n) s_L_law_1088 ls st μ := by rw [vc_s, t_L_law_1088]
theorem w_L_law_1113 : bb X P m_L_law h K J s_L_law_1113 ls st μ = bb X P m_L_law h K J ((1113, .aload_n 1, 1, 1, 0, 0, .inl 0, []) ::
  (1114, .aload_n 0, 1, 0, 0, 0, .inl 0, []) ::
  (1115, .iload 4, 2, 4, 0, 0, .inl 0, []) ::
  (1117, .iconst 1, 1, 0, 0, 0, .inl (nI 1), []) ::
  (1118, .iadd, 1, 0, 0, 0, .inl 0, []) ::
  (1119, .iaload, 1, 0, 0, 0, .inl 0, []) ::
  (1120, .invokevirtual 145, 3, 90, 2, 1, .inl 0, [949, 7]) ::
  (1123, .aload_n 2, 1, 2, 0, 0, .inl 0, []) ::
  (1124, .aload_n 0, 1, 0, 0, 0, .inl 0, []) ::
  (1125, .iload 4, 2, 4, 0, 0, .inl 0, []) ::
  (1127, .iconst 1, 1, 0, 0, 0, .inl (nI 1), []) ::
  (1128, .iadd, 1, 0, 0, 0, .inl 0, []) ::
  (1129, .iaload, 1, 0, 0, 0, .inl 0, []) ::
  (1130, .invokevirtual 148, 3, 156, 2, 1, .inl 0, [1679, 8]) ::
  (1133, .if_icmp .eq 392, 3, 1525, 0, 0, .inl 0, []) ::
  (1136, .iconst 0, 1, 0, 0, 0, .inl (nI 0), []) ::
  (1137, .ireturn, 1, 1, 0, 0, .inl 0, []) :: s_L_law_1138) ls st μ := by rw [s_L_law_1113]
theorem v_L_law_1113 : vc X P m_L_law h K k_L_law S (n + 1) 1113 ls st μ = if 1113 ∈ S then mAt X m_L_law h K 1113 ls st μ else bb X P m_L_law h K (vc X P m_L_law h K k_L_law S n) s_L_law_1113 ls st μ := by rw [vc_s, t_L_law_1113]
theorem w_L_law_1138 : bb X P m_L_law h K J s_L_law_1138 ls st μ = bb X P m_L_law h K J ((1138, .aload_n 1, 1, 1, 0, 0, .inl 0, []) ::
  (1139, .aload_n 0, 1, 0, 0, 0, .inl 0, []) ::
  (1140, .iload 4, 2, 4, 0, 0, .inl 0, []) ::
  (1142, .iconst 1, 1, 0, 0, 0, .inl (nI 1), []) ::
  (1143, .iadd, 1, 0, 0, 0, .inl 0, []) ::
  (1144, .iaload, 1, 0, 0, 0, .inl 0, []) ::
  (1145, .invokevirtual 149, 3, 92, 2, 1, .inl 0, [953, 7]) ::
  (1148, .aload_n 2, 1, 2, 0, 0, .inl 0, []) ::
  (1149, .aload_n 0, 1, 0, 0, 0, .inl 0, []) ::
  (1150, .iload 4, 2, 4, 0, 0, .inl 0, []) ::
  (1152, .iconst 1, 1, 0, 0, 0, .inl (nI 1), []) ::
  (1153, .iadd, 1, 0, 0, 0, .inl 0, []) ::
  (1154, .iaload, 1, 0, 0, 0, .inl 0, []) ::
  (1155, .invokevirtual 152, 3, 158, 2, 1, .inl 0, [1683, 8]) ::
  (1158, .if_icmp .eq 367, 3, 1525, 0, 0, .inl 0, []) ::
  (1161, .iconst 0, 1, 0, 0, 0, .inl (nI 0), []) ::
  (1162, .ireturn, 1, 1, 0, 0, .inl 0, []) :: s_L_law_1163) ls st μ := by rw [s_L_law_1138]
theorem v_L_law_1138 : vc X P m_L_law h K k_L_law S (n + 1) 1138 ls st μ = if 1138 ∈ S then mAt X m_L_law h K 1138 ls st μ else bb X P m_L_law h K (vc X P m_L_law h K k_L_law S n) s_L_law_1138 ls st μ := by rw [vc_s, t_L_law_1138]
theorem w_L_law_1163 : bb X P m_L_law h K J s_L_law_1163 ls st μ = bb X P m_L_law h K J ((1163, .aload_n 1, 1, 1, 0, 0, .inl 0, []) ::
  (1164, .aload_n 0, 1, 0, 0, 0, .inl 0, []) ::
  (1165, .iload 4, 2, 4, 0, 0, .inl 0, []) ::
  (1167, .iconst 1, 1, 0, 0, 0, .inl (nI 1), []) ::
  (1168, .iadd, 1, 0, 0, 0, .inl 0, []) ::
  (1169, .iaload, 1, 0, 0, 0, .inl 0, []) ::
  (1170, .aload_n 0, 1, 0, 0, 0, .inl 0, []) ::
  (1171, .iload 4, 2, 4, 0, 0, .inl 0, []) ::
  (1173, .iconst 2, 1, 0, 0, 0, .inl (nI 2), []) ::
  (1174, .iadd, 1, 0, 0, 0, .inl 0, []) ::
  (1175, .iaload, 1, 0, 0, 0, .inl 0, []) ::
  (1176, .invokevirtual 153, 3, 108, 3, 1, .inl 0, [960, 7]) ::
  (1179, .aload_n 2, 1, 2, 0, 0, .inl 0, []) ::
  (1180, .aload_n 0, 1, 0, 0, 0, .inl 0, []) ::
  (1181, .iload 4, 2, 4, 0, 0, .inl 0, []) ::
  (1183, .iconst 1, 1, 0, 0, 0, .inl (nI 1), []) ::
  (1184, .iadd, 1, 0, 0, 0, .inl 0, []) ::
  (1185, .iaload, 1, 0, 0, 0, .inl 0, []) ::
  (1186, .aload_n 0, 1, 0, 0, 0, .inl 0, []) ::
  (1187, .iload 4, 2, 4, 0, 0, .inl 0, []) ::
  (1189, .iconst 2, 1, 0, 0, 0, .inl (nI 2), []) ::
  (1190, .iadd, 1, 0, 0, 0, .inl 0, []) ::
  (1191, .iaload, 1, 0, 0, 0, .inl 0, []) ::
  (1192, .invokevirtual 156, 3, 192, 3, 1, .inl 0, [1687, 8]) ::
  (1195, .if_icmp .eq 330, 3, 1525, 0, 0, .inl 0, []) ::
  (1198, .iconst 0, 1, 0, 0, 0, .inl (nI 0), []) ::
  (1199, .ireturn, 1, 1, 0, 0, .inl 0, []) :: s_L_law_1200) ls st μ := by rw [s_L_law_1163]
theorem v_L_law_1163 : vc X P m_L_law h K k_L_law S (n + 1) 1163 ls st μ = if 1163 ∈ S then mAt X m_L_law h K 1163 ls st μ else bb X P m_L_law h K (vc X P m_L_law h K k_L_law S n) s_L_law_1163 ls st μ := by rw [vc_s, t_L_law_1163]
theorem w_L_law_1200 : bb X P m_L_law h K J s_L_law_1200 ls st μ = bb X P m_L_law h K J ((1200, .aload_n 1, 1, 1, 0, 0, .inl 0, []) ::
  (1201, .invokevirtual 157, 3, 109, 1, 1, .inl 0, [974, 7]) ::
  (1204, .aload_n 2, 1, 2, 0, 0, .inl 0, []) ::
  (1205, .invokevirtual 160, 3, 193, 1, 1, .inl 0, [1695, 8]) ::
  (1208, .if_icmp .eq 317, 3, 1525, 0, 0, .inl 0, []) ::
  (1211, .iconst 0, 1, 0, 0, 0, .inl (nI 0), []) ::
  (1212, .ireturn, 1, 1, 0, 0, .inl 0, []) :: s_L_law_1213) ls st μ := by rw [s_L_law_1200]
theorem v_L_law_1200 : vc X P m_L_law h K k_L_law S (n + 1) 1200 ls st μ = if 1200 ∈ S then mAt X m_L_law h K 1200 ls st μ else bb X P m_L_law h K (vc X P m_L_law h K k_L_law S n) s_L_law_1200 ls st μ := by rw [vc_s, t_L_law_1200]
theorem w_L_law_1213 : bb X P m_L_law h K J s_L_law_1213 ls st μ = bb X P m_L_law h K J ((1213, .aload_n 1, 1, 1, 0, 0, .inl 0, []) ::
  (1214, .aload_n 0, 1, 0, 0, 0, .inl 0, []) ::
  (1215, .iload 4, 2, 4, 0, 0, .inl 0, []) ::
  (1217, .iconst 1, 1, 0, 0, 0, .inl (nI 1), []) ::
  (1218, .iadd, 1, 0, 0, 0, .inl 0, []) ::
  (1219, .iaload, 1, 0, 0, 0, .inl 0, []) ::
  (1220, .aload_n 0, 1, 0, 0, 0, .inl 0, []) ::
  (1221, .iload 4, 2, 4, 0, 0, .inl 0, []) ::
  (1223, .iconst 2, 1, 0, 0, 0, .inl (nI 2), []) ::
  (1224, .iadd, 1, 0, 0, 0, .inl 0, []) ::
  (1225, .iaload, 1, 0, 0, 0, .inl 0, []) ::
  (1226, .invokevirtual 161, 3, 131, 3, 1, .inl 0, [978, 7]) ::
  (1229, .aload_n 2, 1, 2, 0, 0, .inl 0, []) ::
  (1230, .aload_n 0, 1, 0, 0, 0, .inl 0, []) ::
  (1231, .iload 4, 2, 4, 0, 0, .inl 0, []) ::
  (1233, .iconst 1, 1, 0, 0, 0, .inl (nI 1), []) ::
  (1234, .iadd, 1, 0, 0, 0, .inl 0, []) ::
  (1235, .iaload, 1, 0, 0, 0, .inl 0, []) ::
  (1236, .aload_n 0, 1, 0, 0, 0, .inl 0, []) ::
  (1237, .iload 4, 2, 4, 0, 0, .inl 0, []) ::
  (1239, .iconst 2, 1, 0, 0, 0, .inl (nI 2), []) ::
  (1240, .iadd, 1, 0, 0, 0, .inl 0, []) ::
  (1241, .iaload, 1, 0, 0, 0, .inl 0, []) ::
  (1242, .invokevirtual 164, 3, 250, 3, 1, .inl 0, [1699, 8]) ::
  (1245, .if_icmp .eq 280, 3, 1525, 0, 0, .inl 0, []) ::
  (1248, .iconst 0, 1, 0, 0, 0, .inl (nI 0), []) ::
  (1249, .ireturn, 1, 1, 0, 0, .inl 0, []) :: s_L_law_1250) ls st μ := by rw [s_L_law_1213]
theorem v_L_law_1213 : vc X P m_L_law h K k_L_law S (n + 1) 1213 ls st μ = if 1213 ∈ S then mAt X m_L_law h K 1213 ls st μ else bb X P m_L_law h K (vc X P m_L_law h K k_L_law S n) s_L_law_1213 ls st μ := by rw [vc_s, t_L_law_1213]
theorem w_L_law_1250 : bb X P m_L_law h K J s_L_law_1250 ls st μ = bb X P m_L_law h K J ((1250, .aload_n 1, 1, 1, 0, 0, .inl 0, []) ::
  (1251, .aload_n 0, 1, 0, 0, 0, .inl 0, []) ::
  (1252, .iload 4, 2, 4, 0, 0, .inl 0, []) ::
  (1254, .iconst 1, 1, 0, 0, 0, .inl (nI 1), []) ::
  (1255, .iadd, 1, 0, 0, 0, .inl 0, []) ::
  (1256, .iaload, 1, 0, 0, 0, .inl 0, []) ::
  (1257, .aload_n 0, 1, 0, 0, 0, .inl 0, []) ::
  (1258, .iload 4, 2, 4, 0, 0, .inl 0, []) ::
  (1260, .iconst 2, 1, 0, 0, 0, .inl (nI 2), []) ::
  (1261, .iadd, 1, 0, 0, 0, .inl 0, []) ::
  (1262, .iaload, 1, 0, 0, 0, .inl 0, []) ::
  (1263, .invokevirtual 165, 3, 111, 3, 1, .inl 0, [982, 7]) ::
  (1266, .aload_n 2, 1, 2, 0, 0, .inl 0, []) ::
  (1267, .aload_n 0, 1, 0, 0, 0, .inl 0, []) ::
  (1268, .iload 4, 2, 4, 0, 0, .inl 0, []) ::
  (1270, .iconst 1, 1, 0, 0, 0, .inl (nI 1), []) ::
  (1271, .iadd, 1, 0, 0, 0, .inl 0, []) ::
  (1272, .iaload, 1, 0, 0, 0, .inl 0, []) ::
  (1273, .aload_n 0, 1, 0, 0, 0, .inl 0, []) ::
  (1274, .iload 4, 2, 4, 0, 0, .inl 0, []) ::
  (1276, .iconst 2, 1, 0, 0, 0, .inl (nI 2), []) ::
  (1277, .iadd, 1, 0, 0, 0, .inl 0, []) ::
  (1278, .iaload, 1, 0, 0, 0, .inl 0, []) ::
  (1279, .invokevirtual 168, 3, 200, 3, 1, .inl 0, [1703, 8]) ::
  (1282, .if_icmp .eq 243, 3, 1525, 0, 0, .inl 0, []) ::
  (1285, .iconst 0, 1, 0, 0, 0, .inl (nI 0), []) ::
  (1286, .ireturn, 1, 1, 0, 0, .inl 0, []) :: s_L_law_1287) ls st μ := by rw [s_L_law_1250]
theorem v_L_law_1250 : vc X P m_L_law h K k_L_law S (n + 1) 1250 ls st μ = if 1250 ∈ S then mAt X m_L_law h K 1250 ls st μ else bb X P m_L_law h K (vc X P m_L_law h K k_L_law S n) s_L_law_1250 ls st μ := by rw [vc_s, t_L_law_1250]
theorem w_L_law_1287 : bb X P m_L_law h K J s_L_law_1287 ls st μ = bb X P m_L_law h K J ((1287, .aload_n 1, 1, 1, 0, 0, .inl 0, []) ::
  (1288, .aload_n 0, 1, 0, 0, 0, .inl 0, []) ::
  (1289, .iload 4, 2, 4, 0, 0, .inl 0, []) ::
  (1291, .iconst 1, 1, 0, 0, 0, .inl (nI 1), []) ::
  (1292, .iadd, 1, 0, 0, 0, .inl 0, []) ::
  (1293, .iaload, 1, 0, 0, 0, .inl 0, []) ::
  (1294, .invokevirtual 169, 3, 89, 2, 1, .inl 0, [986, 7]) ::
  (1297, .aload_n 2, 1, 2, 0, 0, .inl 0, []) ::
  (1298, .aload_n 0, 1, 0, 0, 0, .inl 0, []) ::
  (1299, .iload 4, 2, 4, 0, 0, .inl 0, []) ::
  (1301, .iconst 1, 1, 0, 0, 0, .inl (nI 1), []) ::
  (1302, .iadd, 1, 0, 0, 0, .inl 0, []) ::
  (1303, .iaload, 1, 0, 0, 0, .inl 0, []) ::
  (1304, .invokevirtual 172, 3, 155, 2, 1, .inl 0, [1707, 8]) ::
  (1307, .if_icmp .eq 218, 3, 1525, 0, 0, .inl 0, []) ::
  (1310, .iconst 0, 1, 0, 0, 0, .inl (nI 0), []) ::
  (1311, .ireturn, 1, 1, 0, 0, .inl 0, []) :: s_L_law_1312) ls st μ := by rw [s_L_law_1287]
theorem v_L_law_1287 : vc X P m_L_law h K k_L_law S (n + 1) 1287 ls st μ = if 1287 ∈ S then mAt X m_L_law h K 1287 ls st μ else bb X P m_L_law h K (vc X P m_L_law h K k_L_law S n) s_L_law_1287 ls st μ := by rw [vc_s, t_L_law_1287]
theorem w_L_law_1312 : bb X P m_L_law h K J s_L_law_1312 ls st μ = bb X P m_L_law h K J ((1312, .aload_n 1, 1, 1, 0, 0, .inl 0, []) ::
  (1313, .aload_n 0, 1, 0, 0, 0, .inl 0, []) ::
  (1314, .iload 4, 2, 4, 0, 0, .inl 0, []) ::
  (1316, .iconst 1, 1, 0, 0, 0, .inl (nI 1), []) ::
  (1317, .iadd, 1, 0, 0, 0, .inl 0, []) ::
  (1318, .iaload, 1, 0, 0, 0, .inl 0, []) ::
  (1319, .aload_n 0, 1, 0, 0, 0, .inl 0, []) ::
  (1320, .iload 4, 2, 4, 0, 0, .inl 0, []) ::
  (1322, .iconst 2, 1, 0, 0, 0, .inl (nI 2), []) ::
  (1323, .iadd, 1, 0, 0, 0, .inl 0, []) ::
  (1324, .iaload, 1, 0, 0, 0, .inl 0, []) ::
  (1325, .aload_n 0, 1, 0, 0, 0, .inl 0, []) ::
  (1326, .iload 4, 2, 4, 0, 0, .inl 0, []) ::
  (1328, .iconst 3, 1, 0, 0, 0, .inl (nI 3), []) ::
  (1329, .iadd, 1, 0, 0, 0, .inl 0, []) ::
  (1330, .iaload, 1, 0, 0, 0, .inl 0, []) ::
  (1331, .invokevirtual 173, 3, 87, 4, 1, .inl 0, [997, 7]) ::
  (1334, .aload_n 2, 1, 2, 0, 0, .inl 0, []) ::
  (1335, .aload_n 0, 1, 0, 0, 0, .inl 0, []) ::
  (1336, .iload 4, 2, 4, 0, 0, .inl 0, []) ::
  (1338, .iconst 1, 1, 0, 0, 0, .inl (nI 1), []) ::
  (1339, .iadd, 1, 0, 0, 0, .inl 0, []) ::
  (1340, .iaload, 1, 0, 0, 0, .inl 0, []) ::
  (1341, .aload_n 0, 1, 0, 0, 0, .inl 0, []) ::
  (1342, .iload 4, 2, 4, 0, 0, .inl 0, []) ::
  (1344, .iconst 2, 1, 0, 0, 0, .inl (nI 2), []) ::
  (1345, .iadd, 1, 0, 0, 0, .inl 0, []) ::
  (1346, .iaload, 1, 0, 0, 0, .inl 0, []) ::
  (1347, .aload_n 0, 1, 0, 0, 0, .inl 0, []) ::
  (1348, .iload 4, 2, 4, 0, 0, .inl 0, []) ::
  (1350, .iconst 3, 1, 0, 0, 0, .inl (nI 3), []) ::
  (1351, .iadd, 1, 0, 0, 0, .inl 0, []) ::
  (1352, .iaload, 1, 0, 0, 0, .inl 0, []) ::
  (1353, .invokevirtual 176, 3, 153, 4, 1, .inl 0, [1715, 8]) ::
  (1356, .if_icmp .eq 169, 3, 1525, 0, 0, .inl 0, []) ::
  (1359, .iconst 0, 1, 0, 0, 0, .inl (nI 0), []) ::
  (1360, .ireturn, 1, 1, 0, 0, .inl 0, []) :: s_L_law_1361) ls st μ := by rw [s_L_law_1312]
theorem v_L_law_1312 : vc X P m_L_law h K k_L_law S (n + 1) 1312 ls st μ = if 1312 ∈ S then mAt X m_L_law h K 1312 ls st μ else bb X P m_L_law h K (vc X P m_L_law h K k_L_law S n) s_L_law_1312 ls st μ := by rw [vc_s, t_L_law_1312]
theorem w_L_law_1361 : bb X P m_L_law h K J s_L_law_1361 ls st μ = bb X P m_L_law h K J ((1361, .aload_n 1, 1, 1, 0, 0, .inl 0, []) ::
  (1362, .invokevirtual 177, 3, 121, 1, 1, .inl 0, [1001, 7]) ::
  (1365, .aload_n 2, 1, 2, 0, 0, .inl 0, []) ::
  (1366, .invokevirtual 180, 3, 236, 1, 1, .inl 0, [1719, 8]) ::
  (1369, .if_icmp .eq 156, 3, 1525, 0, 0, .inl 0, []) ::
  (1372, .iconst 0, 1, 0, 0, 0, .inl (nI 0), []) ::
  (1373, .ireturn, 1, 1, 0, 0, .inl 0, []) :: s_L_law_1374) ls st μ := by rw [s_L_law_1361]
theorem v_L_law_1361 : vc X P m_L_law h K k_L_law S (n + 1) 1361 ls st μ = if 1361 ∈ S then mAt X m_L_law h K 1361 ls st μ else bb X P m_L_law h K (vc X P m_L_law h K k_L_law S n) s_L_law_1361 ls st μ := by rw [vc_s, t_L_law_1361]
theorem w_L_law_1374 : bb X P m_L_law h K J s_L_law_1374 ls st μ = bb X P m_L_law h K J ((1374, .aload_n 1, 1, 1, 0, 0, .inl 0, []) ::
  (1375, .invokevirtual 181, 3, 135, 1, 1, .inl 0, [1005, 7]) ::
  (1378, .aload_n 2, 1, 2, 0, 0, .inl 0, []) ::
  (1379, .invokevirtual 184, 3, 256, 1, 1, .inl 0, [1723, 8]) ::
  (1382, .if_icmp .eq 143, 3, 1525, 0, 0, .inl 0, []) ::
  (1385, .iconst 0, 1, 0, 0, 0, .inl (nI 0), []) ::
  (1386, .ireturn, 1, 1, 0, 0, .inl 0, []) :: s_L_law_1387) ls st μ := by rw [s_L_law_1374]
theorem v_L_law_1374 : vc X P m_L_law h K k_L_law S (n + 1) 1374 ls st μ = if 1374 ∈ S then mAt X m_L_law h K 1374 ls st μ else bb X P m_L_law h K (vc X P m_L_law h K k_L_law S n) s_L_law_1374 ls st μ := by rw [vc_s, t_L_law_1374]
theorem w_L_law_1387 : bb X P m_L_law h K J s_L_law_1387 ls st μ = bb X P m_L_law h K J ((1387, .aload_n 1, 1, 1, 0, 0, .inl 0, []) ::
  (1388, .aload_n 0, 1, 0, 0, 0, .inl 0, []) ::
  (1389, .iload 4, 2, 4, 0, 0, .inl 0, []) ::
  (1391, .iconst 1, 1, 0, 0, 0, .inl (nI 1), []) ::
  (1392, .iadd, 1, 0, 0, 0, .inl 0, []) ::
  (1393, .iaload, 1, 0, 0, 0, .inl 0, []) ::
  (1394, .invokevirtual 185, 3, 81, 2, 1, .inl 0, [1022, 7]) ::
  (1397, .aload_n 2, 1, 2, 0, 0, .inl 0, []) ::
  (1398, .aload_n 0, 1, 0, 0, 0, .inl 0, []) ::
  (1399, .iload 4, 2, 4, 0, 0, .inl 0, []) ::
  (1401, .iconst 1, 1, 0, 0, 0, .inl (nI 1), []) ::
  (1402, .iadd, 1, 0, 0, 0, .inl 0, []) ::
  (1403, .iaload, 1, 0, 0, 0, .inl 0, []) ::
  (1404, .invokevirtual 188, 3, 147, 2, 1, .inl 0, [1739, 8]) ::
  (1407, .if_icmp .eq 118, 3, 1525, 0, 0, .inl 0, []) ::
  (1410, .iconst 0, 1, 0, 0, 0, .inl (nI 0), []) ::
  (1411, .ireturn, 1, 1, 0, 0, .inl 0, []) :: s_L_law_1412) ls st μ := by rw [s_L_law_1387]
theorem v_L_law_1387 : vc X P m_L_law h K k_L_law S (n + 1) 1387 ls st μ = if 1387 ∈ S then mAt X m_L_law h K 1387 ls st μ else bb X P m_L_law h K (vc X P m_L_law h K k_L_law S n) s_L_law_1387 ls st μ := by rw [vc_s, t_L_law_1387]
theorem w_L_law_1412 : bb X P m_L_law h K J s_L_law_1412 ls st μ = bb X P m_L_law h K J ((1412, .aload_n 1, 1, 1, 0, 0, .inl 0, []) ::
  (1413, .invokevirtual 189, 3, 124, 1, 1, .inl 0, [1026, 7]) ::
  (1416, .aload_n 2, 1, 2, 0, 0, .inl 0, []) ::
  (1417, .invokevirtual 192, 3, 240, 1, 1, .inl 0, [1751, 8]) ::
  (1420, .if_icmp .eq 105, 3, 1525, 0, 0, .inl 0, []) ::
  (1423, .iconst 0, 1, 0, 0, 0, .inl (nI 0), []) ::
  (1424, .ireturn, 1, 1, 0, 0, .inl 0, []) :: s_L_law_1425) ls st μ := by rw [s_L_law_1412]
theorem v_L_law_1412 : vc X P m_L_law h K k_L_law S (n + 1) 1412 ls st μ = if 1412 ∈ S then mAt X m_L_law h K 1412 ls st μ else bb X P m_L_law h K (vc X P m_L_law h K k_L_law S n) s_L_law_1412 ls st μ := by rw [vc_s, t_L_law_1412]
theorem w_L_law_1425 : bb X P m_L_law h K J s_L_law_1425 ls st μ = bb X P m_L_law h K J ((1425, .aload_n 1, 1, 1, 0, 0, .inl 0, []) ::
  (1426, .aload_n 0, 1, 0, 0, 0, .inl 0, []) ::
  (1427, .iload 4, 2, 4, 0, 0, .inl 0, []) ::
  (1429, .iconst 1, 1, 0, 0, 0, .inl (nI 1), []) ::
  (1430, .iadd, 1, 0, 0, 0, .inl 0, []) ::
  (1431, .iaload, 1, 0, 0, 0, .inl 0, []) ::
  (1432, .invokevirtual 193, 3, 123, 2, 1, .inl 0, [1075, 7]) ::
  (1435, .aload_n 2, 1, 2, 0, 0, .inl 0, []) ::
  (1436, .aload_n 0, 1, 0, 0, 0, .inl 0, []) ::
  (1437, .iload 4, 2, 4, 0, 0, .inl 0, []) ::
  (1439, .iconst 1, 1, 0, 0, 0, .inl (nI 1), []) ::
  (1440, .iadd, 1, 0, 0, 0, .inl 0, []) ::
  (1441, .iaload, 1, 0, 0, 0, .inl 0, []) ::
  (1442, .invokevirtual 196, 3, 239, 2, 1, .inl 0, [1787, 8]) ::
  (1445, .if_icmp .eq 80, 3, 1525, 0, 0, .inl 0, []) ::
  (1448, .iconst 0, 1, 0, 0, 0, .inl (nI 0), []) ::
  (1449, .ireturn, 1, 1, 0, 0, .inl 0, []) :: s_L_law_1450) ls st μ := by rw [s_L_law_1425]
theorem v_L_law_1425 : vc X P m_L_law h K k_L_law S (n + 1) 1425 ls st μ = if 1425 ∈ S then mAt X m_L_law h K 1425 ls st μ else bb X P m_L_law h K (vc X P m_L_law h K k_L_law S n) s_L_law_1425 ls st μ := by rw [vc_s, t_L_law_1425]
theorem w_L_law_1450 : bb X P m_L_law h K J s_L_law_1450 ls st μ = bb X P m_L_law h K J ((1450, .aload_n 1, 1, 1, 0, 0, .inl 0, []) ::
  (1451, .aload_n 0, 1, 0, 0, 0, .inl 0, []) ::
  (1452, .iload 4, 2, 4, 0, 0, .inl 0, []) ::
  (1454, .iconst 1, 1, 0, 0, 0, .inl (nI 1), []) ::
  (1455, .iadd, 1, 0, 0, 0, .inl 0, []) ::
  (1456, .iaload, 1, 0, 0, 0, .inl 0, []) ::
  (1457, .invokevirtual 197, 3, 101, 2, 1, .inl 0, [1091, 7]) ::
  (1460, .aload_n 2, 1, 2, 0, 0, .inl 0, []) ::
  (1461, .aload_n 0, 1, 0, 0, 0, .inl 0, []) ::
  (1462, .iload 4, 2, 4, 0, 0, .inl 0, []) ::
  (1464, .iconst 1, 1, 0, 0, 0, .inl (nI 1), []) ::
  (1465, .iadd, 1, 0, 0, 0, .inl 0, []) ::
  (1466, .iaload, 1, 0, 0, 0, .inl 0, []) ::
  (1467, .invokevirtual 200, 3, 173, 2, 1, .inl 0, [1795, 8]) ::
  (1470, .if_icmp .eq 55, 3, 1525, 0, 0, .inl 0, []) ::
  (1473, .iconst 0, 1, 0, 0, 0, .inl (nI 0), []) ::
  (1474, .ireturn, 1, 1, 0, 0, .inl 0, []) :: s_L_law_1475) ls st μ := by rw [s_L_law_1450]
theorem v_L_law_1450 : vc X P m_L_law h K k_L_law S (n + 1) 1450 ls st μ = if 1450 ∈ S then mAt X m_L_law h K 1450 ls st μ else bb X P m_L_law h K (vc X P m_L_law h K k_L_law S n) s_L_law_1450 ls st μ := by rw [vc_s, t_L_law_1450]
theorem w_L_law_1475 : bb X P m_L_law h K J s_L_law_1475 ls st μ = bb X P m_L_law h K J ((1475, .aload_n 1, 1, 1, 0, 0, .inl 0, []) ::
  (1476, .aload_n 0, 1, 0, 0, 0, .inl 0, []) ::
  (1477, .iload 4, 2, 4, 0, 0, .inl 0, []) ::
  (1479, .iconst 1, 1, 0, 0, 0, .inl (nI 1), []) ::
  (1480, .iadd, 1, 0, 0, 0, .inl 0, []) ::
  (1481, .iaload, 1, 0, 0, 0, .inl 0, []) ::
  (1482, .invokevirtual 201, 3, 122, 2, 1, .inl 0, [1095, 7]) ::
  (1485, .aload_n 2, 1, 2, 0, 0, .inl 0, []) ::
  (1486, .aload_n 0, 1, 0, 0, 0, .inl 0, []) ::
  (1487, .iload 4, 2, 4, 0, 0, .inl 0, []) ::
  (1489, .iconst 1, 1, 0, 0, 0, .inl (nI 1), []) ::
  (1490, .iadd, 1, 0, 0, 0, .inl 0, []) ::
  (1491, .iaload, 1, 0, 0, 0, .inl 0, []) ::
  (1492, .invokevirtual 204, 3, 237, 2, 1, .inl 0, [1799, 8]) ::
  (1495, .if_icmp .eq 30, 3, 1525, 0, 0, .inl 0, []) ::
  (1498, .iconst 0, 1, 0, 0, 0, .inl (nI 0), []) ::
  (1499, .ireturn, 1, 1, 0, 0, .inl 0, []) :: s_L_law_1500) ls st μ := by rw [s_L_law_1475]
theorem v_L_law_1475 : vc X P m_L_law h K k_L_law S (n + 1) 1475 ls st μ = if 1475 ∈ S then mAt X m_L_law h K 1475 ls st μ else bb X P m_L_law h K (vc X P m_L_law h K k_L_law S n) s_L_law_1475 ls st μ := by rw [vc_s, t_L_law_1475]
theorem w_L_law_1500 : bb X P m_L_law h K J s_L_law_1500 ls st μ = bb X P m_L_law h K J ((1500, .aload_n 1, 1, 1, 0, 0, .inl 0, []) ::
  (1501, .aload_n 0, 1, 0, 0, 0, .inl 0, []) ::
  (1502, .iload 4, 2, 4, 0, 0, .inl 0, []) ::
  (1504, .iconst 1, 1, 0, 0, 0, .inl (nI 1), []) ::
  (1505, .iadd, 1, 0, 0, 0, .inl 0, []) ::
  (1506, .iaload, 1, 0, 0, 0, .inl 0, []) ::
  (1507, .invokevirtual 205, 3, 85, 2, 1, .inl 0, [1099, 7]) ::
  (1510, .aload_n 2, 1, 2, 0, 0, .inl 0, []) ::
  (1511, .aload_n 0, 1, 0, 0, 0, .inl 0, []) ::
  (1512, .iload 4, 2, 4, 0, 0, .inl 0, []) ::
  (1514, .iconst 1, 1, 0, 0, 0, .inl (nI 1), []) ::
  (1515, .iadd, 1, 0, 0, 0, .inl 0, []) ::
  (1516, .iaload, 1, 0, 0, 0, .inl 0, []) ::
  (1517, .invokevirtual 208, 3, 152, 2, 1, .inl 0, [1803, 8]) ::
  (1520, .if_icmp .eq 5, 3, 1525, 0, 0, .inl 0, []) ::
  (1523, .iconst 0, 1, 0, 0, 0, .inl (nI 0), []) ::
  (1524, .ireturn, 1, 1, 0, 0, .inl 0, []) :: s_L_law_1525) ls st μ := by rw [s_L_law_1500]
theorem v_L_law_1500 : vc X P m_L_law h K k_L_law S (n + 1) 1500 ls st μ = if 1500 ∈ S then mAt X m_L_law h K 1500 ls st μ else bb X P m_L_law h K (vc X P m_L_law h K k_L_law S n) s_L_law_1500 ls st μ := by rw [vc_s, t_L_law_1500]
theorem w_L_law_1525 : bb X P m_L_law h K J s_L_law_1525 ls st μ = bb X P m_L_law h K J ((1525, .iinc 4 6, 3, 4, 0, 0, .inl (nI 6), []) ::
  (1528, .goto (-1505), 3, 23, 0, 0, .inl 0, []) :: s_L_law_1531) ls st μ := by rw [s_L_law_1525]
theorem v_L_law_1525 : vc X P m_L_law h K k_L_law S (n + 1) 1525 ls st μ = if 1525 ∈ S then mAt X m_L_law h K 1525 ls st μ else bb X P m_L_law h K (vc X P m_L_law h K k_L_law S n) s_L_law_1525 ls st μ := by rw [vc_s, t_L_law_1525]
theorem w_L_law_1531 : bb X P m_L_law h K J s_L_law_1531 ls st μ = bb X P m_L_law h K J ((1531, .iconst 1, 1, 0, 0, 0, .inl (nI 1), []) ::
  (1532, .ireturn, 1, 1, 0, 0, .inl 0, []) :: []) ls st μ := by rw [s_L_law_1531]
theorem v_L_law_1531 : vc X P m_L_law h K k_L_law S (n + 1) 1531 ls st μ = if 1531 ∈ S then mAt X m_L_law h K 1531 ls st μ else bb X P m_L_law h K (vc X P m_L_law h K k_L_law S n) s_L_law_1531 ls st μ := by rw [vc_s, t_L_law_1531]
end
