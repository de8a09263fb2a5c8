section
variable {X : mC} {P : mP} {h : Nat} {K : MV → Mem → Prop} {J : mJ} {ls : List (Nat × MV)} {st : List MV} {μ : Mem} {S : List Nat} {n : Nat}
theorem w_J6_bitCount_0f7a4_0 : bb X P m_J6_bitCount_0f7a4 h K J s_J6_bitCount_0f7a4_0 ls st μ = bb X P m_J6_bitCount_0f7a4 h K J ((0, .iload_n 0, 1, 0, 0, 0, .inl 0, []) ::
  (1, .iload_n 0, 1, 0, 0, 0, .inl 0, []) ::
  (2, .iconst 1, 1, 0, 0, 0, .inl (nI 1), []) ::
  (3, .iushr, 1, 0, 0, 0, .inl 0, []) ::
  (4, .ldc_w 265, 3, 0, 0, 0, .inl (nI 1431655765), [904]) ::
  (7, .iand, 1, 0, 0, 0, .inl 0, []) ::
  (8, .isub, 1, 0, 0, 0, .inl 0, []) ::
  (9, .istore_n 0, 1, 0, 0, 0, .inl 0, []) ::
  (10, .iload_n 0, 1, 0, 0, 0, .inl 0, []) ::
  (11, .ldc_w 266, 3, 0, 0, 0, .inl (nI 858993459), [905]) ::
  (14, .iand, 1, 0, 0, 0, .inl 0, []) ::
  (15, .iload_n 0, 1, 0, 0, 0, .inl 0, []) ::
  (16, .iconst 2, 1, 0, 0, 0, .inl (nI 2), []) ::
  (17, .iushr, 1, 0, 0, 0, .inl 0, []) ::
  (18, .ldc_w 266, 3, 0, 0, 0, .inl (nI 858993459), [905]) ::
  (21, .iand, 1, 0, 0, 0, .inl 0, []) ::
  (22, .iadd, 1, 0, 0, 0, .inl 0, []) ::
  (23, .istore_n 0, 1, 0, 0, 0, .inl 0, []) ::
  (24, .iload_n 0, 1, 0, 0, 0, .inl 0, []) ::
  (25, .iload_n 0, 1, 0, 0, 0, .inl 0, []) ::
  (26, .iconst 4, 1, 0, 0, 0, .inl (nI 4), []) ::
  (27, .iushr, 1, 0, 0, 0, .inl 0, []) ::
  (28, .iadd, 1, 0, 0, 0, .inl 0, []) ::
  (29, .ldc_w 267, 3, 0, 0, 0, .inl (nI 252645135), [906]) ::
  (32, .iand, 1, 0, 0, 0, .inl 0, []) ::
  (33, .istore_n 0, 1, 0, 0, 0, .inl 0, []) ::
  (34, .iload_n 0, 1, 0, 0, 0, .inl 0, []) ::
  (35, .iload_n 0, 1, 0, 0, 0, .inl 0, []) ::
  (36, .bipush 8, 2, 0, 0, 0, .inl (nI 8), []) ::
  (38, .iushr, 1, 0, 0, 0, .inl 0, []) ::
  (39, .iadd, 1, 0, 0, 0, .inl 0, []) ::
  (40, .istore_n 0, 1, 0, 0, 0, .inl 0, []) ::
  (41, .iload_n 0, 1, 0, 0, 0, .inl 0, []) ::
  (42, .iload_n 0, 1, 0, 0, 0, .inl 0, []) ::
  (43, .bipush 16, 2, 0, 0, 0, .inl (nI 16), []) ::
  (45, .iushr, 1, 0, 0, 0, .inl 0, []) ::
  (46, .iadd, 1, 0, 0, 0, .inl 0, []) ::
  (47, .istore_n 0, 1, 0, 0, 0, .inl 0, []) ::
  (48, .iload_n 0, 1, 0, 0, 0, .inl 0, []) ::
  (49, .bipush 63, 2, 0, 0, 0, .inl (nI 63), []) ::
  (51, .iand, 1, 0, 0, 0, .inl 0, []) ::
  (52, .ireturn, 1, 0, 0, 0, .inl 0, []) :: []) ls st μ := by rw [s_J6_bitCount_0f7a4_0]
theorem v_J6_bitCount_0f7a4_0 : vc X P m_J6_bitCount_0f7a4 h K k_J6_bitCount_0f7a4 S (n + 1) 0 ls st μ = if 0 ∈ S then mAt X m_J6_bitCount_0f7a4 h K 0 ls st μ else bb X P m_J6_bitCount_0f7a4 h K (vc X P m_J6_bitCount_0f7a4 h K k_J6_bitCount_0f7a4 S n) s_J6_bitCount_0f7a4_0 ls st μ := by rw [vc_s, t_J6_bitCount_0f7a4_0]
end
section
variable {X : mC} {P : mP} {h : Nat} {K : MV → Mem → Prop} {J : mJ} {ls : List (Nat × MV)} {st : List MV} {μ : Mem} {S : List Nat} {n : Nat}
theorem w_J7_fill_53178_0 : bb X P m_J7_fill_53178 h K J s_J7_fill_53178_0 ls st μ = bb X P m_J7_fill_53178 h K J ((0, .iconst 0, 1, 0, 0, 0, .inl (nI 0), []) ::
  (1, .istore_n 2, 1, 2, 0, 0, .inl 0, []) ::
  (2, .aload_n 0, 1, 0, 0, 0, .inl 0, []) ::
  (3, .arraylength, 1, 0, 0, 0, .inl 0, []) ::
  (4, .istore_n 3, 1, 3, 0, 0, .inl 0, []) :: s_J7_fill_53178_5) ls st μ := by rw [s_J7_fill_53178_0]
theorem v_J7_fill_53178_0 : vc X P m_J7_fill_53178 h K k_J7_fill_53178 S (n + 1) 0 ls st μ = if 0 ∈ S then mAt X m_J7_fill_53178 h K 0 ls st μ else bb X P m_J7_fill_53178 h K (vc X P m_J7_fill_53178 h K k_J7_fill_53178 S n) s_J7_fill_53178_0 ls st μ := by rw [vc_s, t_J7_fill_53178_0]
theorem w_J7_fill_53178_5 : bb X P m_J7_fill_53178 h K J s_J7_fill_53178_5 ls st μ = bb X P m_J7_fill_53178 h K J ((5, .iload_n 2, 1, 2, 0, 0, .inl 0, []) ::
  (6, .iload_n 3, 1, 3, 0, 0, .inl 0, []) ::
  (7, .if_icmp .ge 13, 3, 20, 0, 0, .inl 0, []) ::
  (10, .aload_n 0, 1, 0, 0, 0, .inl 0, []) ::
  (11, .iload_n 2, 1, 2, 0, 0, .inl 0, []) ::
  (12, .iload_n 1, 1, 1, 0, 0, .inl 0, []) ::
  (13, .iastore, 1, 0, 0, 0, .inl 0, []) ::
  (14, .iinc 2 1, 3, 2, 0, 0, .inl (nI 1), []) ::
  (17, .goto (-12), 3, 5, 0, 0, .inl 0, []) :: s_J7_fill_53178_20) ls st μ := by rw [s_J7_fill_53178_5]
theorem v_J7_fill_53178_5 : vc X P m_J7_fill_53178 h K k_J7_fill_53178 S (n + 1) 5 ls st μ = if 5 ∈ S then mAt X m_J7_fill_53178 h K 5 ls st μ else bb X P m_J7_fill_53178 h K (vc X P m_J7_fill_53178 h K k_J7_fill_53178 S n) s_J7_fill_53178_5 ls st μ := by rw [vc_s, t_J7_fill_53178_5]
theorem w_J7_fill_53178_20 : bb X P m_J7_fill_53178 h K J s_J7_fill_53178_20 ls st μ = bb X P m_J7_fill_53178 h K J ((20, .return_, 1, 0, 0, 0, .inl 0, []) :: []) ls st μ := by rw [s_J7_fill_53178_20]
theorem v_J7_fill_53178_20 : vc X P m_J7_fill_53178 h K k_J7_fill_53178 S (n + 1) 20 ls st μ = if 20 ∈ S then mAt X m_J7_fill_53178 h K 20 ls st μ else bb X P m_J7_fill_53178 h K (vc X P m_J7_fill_53178 h K k_J7_fill_53178 S n) s_J7_fill_53178_20 ls st μ := by rw [vc_s, t_J7_fill_53178_20]
end
section
variable {X : mC} {P : mP} {h : Nat} {K : MV → Mem → Prop} {J : mJ} {ls : List (Nat × MV)} {st : List MV} {μ : Mem} {S : List Nat} {n : Nat}
theorem w_X0_allWorks_0 : bb X P m_X0_allWorks h K J s_X0_allWorks_0 ls st μ = bb X P m_X0_allWorks h K J ((0, .iconst 1, 1, 0, 0, 0, .inl (nI 1), []) ::
  (1, .aload_n 0, 1, 0, 0, 0, .inl 0, []) ::
  (2, .getfield 45, 3, 0, 1, 0, .inl 0, [247]) ::
  (5, .ishl, 1, 0, 0, 0, .inl 0, []) ::
  (6, .iconst 1, 1, 0, 0, 0, .inl (nI 1), []) ::
  (7, .isub, 1, 0, 0, 0, .inl 0, []) ::
  (8, .ireturn, 1, 0, 0, 0, .inl 0, []) :: []) ls st μ := by rw [s_X0_allWorks_0]
theorem v_X0_allWorks_0 : vc X P m_X0_allWorks h K k_X0_allWorks S (n + 1) 0 ls st μ = if 0 ∈ S then mAt X m_X0_allWorks h K 0 ls st μ else bb X P m_X0_allWorks h K (vc X P m_X0_allWorks h K k_X0_allWorks S n) s_X0_allWorks_0 ls st μ := by rw [vc_s, t_X0_allWorks_0]
end
section
variable {X : mC} {P : mP} {h : Nat} {K : MV → Mem → Prop} {J : mJ} {ls : List (Nat × MV)} {st : List MV} {μ : Mem} {S : List Nat} {n : Nat}
theorem w_X0_clear_0 : bb X P m_X0_clear h K J s_X0_clear_0 ls st μ = bb X P m_X0_clear h K J ((0, .aload_n 0, 1, 0, 0, 0, .inl 0, []) ::
  (1, .iconst 0, 1, 0, 0, 0, .inl (nI 0), []) ::
  (2, .putfield 49, 3, 0, 0, 0, .inl 0, [244]) ::
  (5, .aload_n 0, 1, 0, 0, 0, .inl 0, []) ::
  (6, .iconst 0, 1, 0, 0, 0, .inl (nI 0), []) ::
  (7, .putfield 45, 3, 0, 1, 0, .inl 0, [247]) ::
  (10, .aload_n 0, 1, 0, 0, 0, .inl 0, []) ::
  (11, .iconst 0, 1, 0, 0, 0, .inl (nI 0), []) ::
  (12, .putfield 52, 3, 0, 2, 0, .inl 0, [250]) ::
  (15, .aload_n 0, 1, 0, 0, 0, .inl 0, []) ::
  (16, .iconst 0, 1, 0, 0, 0, .inl (nI 0), []) ::
  (17, .putfield 55, 3, 0, 3, 2, .inl 0, [252]) ::
  (20, .aload_n 0, 1, 0, 0, 0, .inl 0, []) ::
  (21, .getfield 27, 3, 0, 9, 3, .inr (.inr (16, 8, 6)), [267]) ::
  (24, .iconst 0, 1, 0, 0, 0, .inl (nI 0), []) ::
  (25, .invokestatic 65, 3, 1, 2, 0, .inl 0, [562]) ::
  (28, .aload_n 0, 1, 0, 0, 0, .inl 0, []) ::
  (29, .getfield 30, 3, 0, 10, 3, .inr (.inr (16, 48, 7)), [271]) ::
  (32, .iconst 0, 1, 0, 0, 0, .inl (nI 0), []) ::
  (33, .invokestatic 65, 3, 1, 2, 0, .inl 0, [562]) ::
  (36, .aload_n 0, 1, 0, 0, 0, .inl 0, []) ::
  (37, .getfield 33, 3, 0, 11, 3, .inr (.inr (16, 48, 8)), [276]) ::
  (40, .iconst 0, 1, 0, 0, 0, .inl (nI 0), []) ::
  (41, .invokestatic 65, 3, 1, 2, 0, .inl 0, [562]) ::
  (44, .aload_n 0, 1, 0, 0, 0, .inl 0, []) ::
  (45, .getfield 36, 3, 0, 12, 3, .inr (.inr (16, 48, 9)), [279]) ::
  (48, .iconst 0, 1, 0, 0, 0, .inl (nI 0), []) ::
  (49, .invokestatic 65, 3, 1, 2, 0, .inl 0, [562]) ::
  (52, .aload_n 0, 1, 0, 0, 0, .inl 0, []) ::
  (53, .getfield 39, 3, 0, 13, 3, .inr (.inr (16, 48, 10)), [282]) ::
  (56, .iconst 0, 1, 0, 0, 0, .inl (nI 0), []) ::
  (57, .invokestatic 65, 3, 1, 2, 0, .inl 0, [562]) ::
  (60, .aload_n 0, 1, 0, 0, 0, .inl 0, []) ::
  (61, .getfield 42, 3, 0, 14, 3, .inr (.inr (16, 48, 11)), [286]) ::
  (64, .iconst 0, 1, 0, 0, 0, .inl (nI 0), []) ::
  (65, .invokestatic 65, 3, 1, 2, 0, .inl 0, [562]) ::
  (68, .return_, 1, 0, 0, 0, .inl 0, []) :: []) ls st μ := by rw [s_X0_clear_0]
theorem v_X0_clear_0 : vc X P m_X0_clear h K k_X0_clear S (n + 1) 0 ls st μ = if 0 ∈ S then mAt X m_X0_clear h K 0 ls st μ else bb X P m_X0_clear h K (vc X P m_X0_clear h K k_X0_clear S n) s_X0_clear_0 ls st μ := by rw [vc_s, t_X0_clear_0]
end
section
variable {X : mC} {P : mP} {h : Nat} {K : MV → Mem → Prop} {J : mJ} {ls : List (Nat × MV)} {st : List MV} {μ : Mem} {S : List Nat} {n : Nat}
theorem w_X0_copyFrom_0 : bb X P m_X0_copyFrom h K J s_X0_copyFrom_0 ls st μ = bb X P m_X0_copyFrom h K J ((0, .aload_n 0, 1, 0, 0, 0, .inl 0, []) ::
  (1, .aload_n 1, 1, 1, 0, 0, .inl 0, []) ::
  (2, .getfield 49, 3, 0, 0, 0, .inl 0, [244]) ::
  (5, .putfield 49, 3, 0, 0, 0, .inl 0, [244]) ::
  (8, .aload_n 0, 1, 0, 0, 0, .inl 0, []) ::
  (9, .aload_n 1, 1, 1, 0, 0, .inl 0, []) ::
  (10, .getfield 45, 3, 0, 1, 0, .inl 0, [247]) ::
  (13, .putfield 45, 3, 0, 1, 0, .inl 0, [247]) ::
  (16, .aload_n 0, 1, 0, 0, 0, .inl 0, []) ::
  (17, .aload_n 1, 1, 1, 0, 0, .inl 0, []) ::
  (18, .getfield 52, 3, 0, 2, 0, .inl 0, [250]) ::
  (21, .putfield 52, 3, 0, 2, 0, .inl 0, [250]) ::
  (24, .aload_n 0, 1, 0, 0, 0, .inl 0, []) ::
  (25, .aload_n 1, 1, 1, 0, 0, .inl 0, []) ::
  (26, .getfield 55, 3, 0, 3, 2, .inl 0, [252]) ::
  (29, .putfield 55, 3, 0, 3, 2, .inl 0, [252]) ::
  (32, .aload_n 1, 1, 1, 0, 0, .inl 0, []) ::
  (33, .getfield 9, 3, 0, 4, 3, .inr (.inr (16, 6, 1)), [255]) ::
  (36, .iconst 0, 1, 0, 0, 0, .inl (nI 0), []) ::
  (37, .aload_n 0, 1, 0, 0, 0, .inl 0, []) ::
  (38, .getfield 9, 3, 0, 4, 3, .inr (.inr (16, 6, 1)), [255]) ::
  (41, .iconst 0, 1, 0, 0, 0, .inl (nI 0), []) ::
  (42, .bipush 6, 2, 0, 0, 0, .inl (nI 6), []) ::
  (44, .invokestatic 59, 3, 0, 5, 9, .inl 0, [663]) ::
  (47, .aload_n 1, 1, 1, 0, 0, .inl 0, []) ::
  (48, .getfield 15, 3, 0, 5, 3, .inr (.inr (16, 8, 2)), [256]) ::
  (51, .iconst 0, 1, 0, 0, 0, .inl (nI 0), []) ::
  (52, .aload_n 0, 1, 0, 0, 0, .inl 0, []) ::
  (53, .getfield 15, 3, 0, 5, 3, .inr (.inr (16, 8, 2)), [256]) ::
  (56, .iconst 0, 1, 0, 0, 0, .inl (nI 0), []) ::
  (57, .bipush 8, 2, 0, 0, 0, .inl (nI 8), []) ::
  (59, .invokestatic 59, 3, 0, 5, 9, .inl 0, [663]) ::
  (62, .aload_n 1, 1, 1, 0, 0, .inl 0, []) ::
  (63, .getfield 18, 3, 0, 6, 3, .inr (.inr (16, 6, 3)), [258]) ::
  (66, .iconst 0, 1, 0, 0, 0, .inl (nI 0), []) ::
  (67, .aload_n 0, 1, 0, 0, 0, .inl 0, []) ::
  (68, .getfield 18, 3, 0, 6, 3, .inr (.inr (16, 6, 3)), [258]) ::
  (71, .iconst 0, 1, 0, 0, 0, .inl (nI 0), []) ::
  (72, .bipush 6, 2, 0, 0, 0, .inl (nI 6), []) ::
  (74, .invokestatic 59, 3, 0, 5, 9, .inl 0, [663]) ::
  (77, .aload_n 1, 1, 1, 0, 0, .inl 0, []) ::
  (78, .getfield 21, 3, 0, 7, 3, .inr (.inr (16, 8, 4)), [261]) ::
  (81, .iconst 0, 1, 0, 0, 0, .inl (nI 0), []) ::
  (82, .aload_n 0, 1, 0, 0, 0, .inl 0, []) ::
  (83, .getfield 21, 3, 0, 7, 3, .inr (.inr (16, 8, 4)), [261]) ::
  (86, .iconst 0, 1, 0, 0, 0, .inl (nI 0), []) ::
  (87, .bipush 8, 2, 0, 0, 0, .inl (nI 8), []) ::
  (89, .invokestatic 59, 3, 0, 5, 9, .inl 0, [663]) ::
  (92, .aload_n 1, 1, 1, 0, 0, .inl 0, []) ::
  (93, .getfield 24, 3, 0, 8, 3, .inr (.inr (16, 8, 5)), [264]) ::
  (96, .iconst 0, 1, 0, 0, 0, .inl (nI 0), []) ::
  (97, .aload_n 0, 1, 0, 0, 0, .inl 0, []) ::
  (98, .getfield 24, 3, 0, 8, 3, .inr (.inr (16, 8, 5)), [264]) ::
  (101, .iconst 0, 1, 0, 0, 0, .inl (nI 0), []) ::
  (102, .bipush 8, 2, 0, 0, 0, .inl (nI 8), []) ::
  (104, .invokestatic 59, 3, 0, 5, 9, .inl 0, [663]) ::
  (107, .aload_n 1, 1, 1, 0, 0, .inl 0, []) ::
  (108, .getfield 27, 3, 0, 9, 3, .inr (.inr (16, 8, 6)), [267]) ::
  (111, .iconst 0, 1, 0, 0, 0, .inl (nI 0), []) ::
  (112, .aload_n 0, 1, 0, 0, 0, .inl 0, []) ::
  (113, .getfield 27, 3, 0, 9, 3, .inr (.inr (16, 8, 6)), [267]) ::
  (116, .iconst 0, 1, 0, 0, 0, .inl (nI 0), []) ::
  (117, .bipush 8, 2, 0, 0, 0, .inl (nI 8), []) ::
  (119, .invokestatic 59, 3, 0, 5, 9, .inl 0, [663]) ::
  (122, .aload_n 1, 1, 1, 0, 0, .inl 0, []) ::
  (123, .getfield 30, 3, 0, 10, 3, .inr (.inr (16, 48, 7)), [271]) ::
  (126, .iconst 0, 1, 0, 0, 0, .inl (nI 0), []) ::
  (127, .aload_n 0, 1, 0, 0, 0, .inl 0, []) ::
  (128, .getfield 30, 3, 0, 10, 3, .inr (.inr (16, 48, 7)), [271]) ::
  (131, .iconst 0, 1, 0, 0, 0, .inl (nI 0), []) ::
  (132, .bipush 48, 2, 0, 0, 0, .inl (nI 48), []) ::
  (134, .invokestatic 59, 3, 0, 5, 9, .inl 0, [663]) ::
  (137, .aload_n 1, 1, 1, 0, 0, .inl 0, []) ::
  (138, .getfield 33, 3, 0, 11, 3, .inr (.inr (16, 48, 8)), [276]) ::
  (141, .iconst 0, 1, 0, 0, 0, .inl (nI 0), []) ::
  (142, .aload_n 0, 1, 0, 0, 0, .inl 0, []) ::
  (143, .getfield 33, 3, 0, 11, 3, .inr (.inr (16, 48, 8)), [276]) ::
  (146, .iconst 0, 1, 0, 0, 0, .inl (nI 0), []) ::
  (147, .bipush 48, 2, 0, 0, 0, .inl (nI 48), []) ::
  (149, .invokestatic 59, 3, 0, 5, 9, .inl 0, [663]) ::
  (152, .aload_n 1, 1, 1, 0, 0, .inl 0, []) ::
  (153, .getfield 36, 3, 0, 12, 3, .inr (.inr (16, 48, 9)), [279]) ::
  (156, .iconst 0, 1, 0, 0, 0, .inl (nI 0), []) ::
  (157, .aload_n 0, 1, 0, 0, 0, .inl 0, []) ::
  (158, .getfield 36, 3, 0, 12, 3, .inr (.inr (16, 48, 9)), [279]) ::
  (161, .iconst 0, 1, 0, 0, 0, .inl (nI 0), []) ::
  (162, .bipush 48, 2, 0, 0, 0, .inl (nI 48), []) ::
  (164, .invokestatic 59, 3, 0, 5, 9, .inl 0, [663]) ::
  (167, .aload_n 1, 1, 1, 0, 0, .inl 0, []) ::
  (168, .getfield 39, 3, 0, 13, 3, .inr (.inr (16, 48, 10)), [282]) ::
  (171, .iconst 0, 1, 0, 0, 0, .inl (nI 0), []) ::
  (172, .aload_n 0, 1, 0, 0, 0, .inl 0, []) ::
  (173, .getfield 39, 3, 0, 13, 3, .inr (.inr (16, 48, 10)), [282]) ::
  (176, .iconst 0, 1, 0, 0, 0, .inl (nI 0), []) ::
  (177, .bipush 48, 2, 0, 0, 0, .inl (nI 48), []) ::
  (179, .invokestatic 59, 3, 0, 5, 9, .inl 0, [663]) ::
  (182, .aload_n 1, 1, 1, 0, 0, .inl 0, []) ::
  (183, .getfield 42, 3, 0, 14, 3, .inr (.inr (16, 48, 11)), [286]) ::
  (186, .iconst 0, 1, 0, 0, 0, .inl (nI 0), []) ::
  (187, .aload_n 0, 1, 0, 0, 0, .inl 0, []) ::
  (188, .getfield 42, 3, 0, 14, 3, .inr (.inr (16, 48, 11)), [286]) ::
  (191, .iconst 0, 1, 0, 0, 0, .inl (nI 0), []) ::
  (192, .bipush 48, 2, 0, 0, 0, .inl (nI 48), []) ::
  (194, .invokestatic 59, 3, 0, 5, 9, .inl 0, [663]) ::
  (197, .return_, 1, 0, 0, 0, .inl 0, []) :: []) ls st μ := by rw [s_X0_copyFrom_0]
theorem v_X0_copyFrom_0 : vc X P m_X0_copyFrom h K k_X0_copyFrom S (n + 1) 0 ls st μ = if 0 ∈ S then mAt X m_X0_copyFrom h K 0 ls st μ else bb X P m_X0_copyFrom h K (vc X P m_X0_copyFrom h K k_X0_copyFrom S n) s_X0_copyFrom_0 ls st μ := by rw [vc_s, t_X0_copyFrom_0]
end
section
variable {X : mC} {P : mP} {h : Nat} {K : MV → Mem → Prop} {J : mJ} {ls : List (Nat × MV)} {st : List MV} {μ : Mem} {S : List Nat} {n : Nat}
theorem w_X0_exchange_0 : bb X P m_X0_exchange h K J s_X0_exchange_0 ls st μ = bb X P m_X0_exchange h K J ((0, .aload_n 0, 1, 0, 0, 0, .inl 0, []) ::
  (1, .iload_n 1, 1, 1, 0, 0, .inl 0, []) ::
  (2, .iaload, 1, 0, 0, 0, .inl 0, []) ::
  (3, .istore_n 3, 1, 3, 0, 0, .inl 0, []) ::
  (4, .aload_n 0, 1, 0, 0, 0, .inl 0, []) ::
  (5, .iload_n 1, 1, 1, 0, 0, .inl 0, []) ::
  (6, .aload_n 0, 1, 0, 0, 0, .inl 0, []) ::
  (7, .iload_n 2, 1, 2, 0, 0, .inl 0, []) ::
  (8, .iaload, 1, 0, 0, 0, .inl 0, []) ::
  (9, .iastore, 1, 0, 0, 0, .inl 0, []) ::
  (10, .aload_n 0, 1, 0, 0, 0, .inl 0, []) ::
  (11, .iload_n 2, 1, 2, 0, 0, .inl 0, []) ::
  (12, .iload_n 3, 1, 3, 0, 0, .inl 0, []) ::
  (13, .iastore, 1, 0, 0, 0, .inl 0, []) ::
  (14, .return_, 1, 0, 0, 0, .inl 0, []) :: []) ls st μ := by rw [s_X0_exchange_0]
theorem v_X0_exchange_0 : vc X P m_X0_exchange h K k_X0_exchange S (n + 1) 0 ls st μ = if 0 ∈ S then mAt X m_X0_exchange h K 0 ls st μ else bb X P m_X0_exchange h K (vc X P m_X0_exchange h K k_X0_exchange S n) s_X0_exchange_0 ls st μ := by rw [vc_s, t_X0_exchange_0]
end
section
variable {X : mC} {P : mP} {h : Nat} {K : MV → Mem → Prop} {J : mJ} {ls : List (Nat × MV)} {st : List MV} {μ : Mem} {S : List Nat} {n : Nat}
theorem w_X0_exchangeWithNext_0 : bb X P m_X0_exchangeWithNext h K J s_X0_exchangeWithNext_0 ls st μ = bb X P m_X0_exchangeWithNext h K J ((0, .aload_n 0, 1, 0, 0, 0, .inl 0, []) ::
  (1, .getfield 21, 3, 0, 7, 3, .inr (.inr (16, 8, 4)), [261]) ::
  (4, .iload_n 1, 1, 1, 0, 0, .inl 0, []) ::
  (5, .iload_n 1, 1, 1, 0, 0, .inl 0, []) ::
  (6, .iconst 1, 1, 0, 0, 0, .inl (nI 1), []) ::
  (7, .iadd, 1, 0, 0, 0, .inl 0, []) ::
  (8, .invokestatic 71, 3, 5, 3, 0, .inl 0, [994]) ::
  (11, .aload_n 0, 1, 0, 0, 0, .inl 0, []) ::
  (12, .getfield 24, 3, 0, 8, 3, .inr (.inr (16, 8, 5)), [264]) ::
  (15, .iload_n 1, 1, 1, 0, 0, .inl 0, []) ::
  (16, .iload_n 1, 1, 1, 0, 0, .inl 0, []) ::
  (17, .iconst 1, 1, 0, 0, 0, .inl (nI 1), []) ::
  (18, .iadd, 1, 0, 0, 0, .inl 0, []) ::
  (19, .invokestatic 71, 3, 5, 3, 0, .inl 0, [994]) ::
  (22, .aload_n 0, 1, 0, 0, 0, .inl 0, []) ::
  (23, .getfield 27, 3, 0, 9, 3, .inr (.inr (16, 8, 6)), [267]) ::
  (26, .iload_n 1, 1, 1, 0, 0, .inl 0, []) ::
  (27, .iload_n 1, 1, 1, 0, 0, .inl 0, []) ::
  (28, .iconst 1, 1, 0, 0, 0, .inl (nI 1), []) ::
  (29, .iadd, 1, 0, 0, 0, .inl 0, []) ::
  (30, .invokestatic 71, 3, 5, 3, 0, .inl 0, [994]) ::
  (33, .iconst 0, 1, 0, 0, 0, .inl (nI 0), []) ::
  (34, .istore_n 2, 1, 2, 0, 0, .inl 0, []) :: s_X0_exchangeWithNext_35) ls st μ := by rw [s_X0_exchangeWithNext_0]
theorem v_X0_exchangeWithNext_0 : vc X P m_X0_exchangeWithNext h K k_X0_exchangeWithNext S (n + 1) 0 ls st μ = if 0 ∈ S then mAt X m_X0_exchangeWithNext h K 0 ls st μ else bb X P m_X0_exchangeWithNext h K (vc X P m_X0_exchangeWithNext h K k_X0_exchangeWithNext S n) s_X0_exchangeWithNext_0 ls st μ := by rw [vc_s, t_X0_exchangeWithNext_0]
theorem w_X0_exchangeWithNext_35 : bb X P m_X0_exchangeWithNext h K J s_X0_exchangeWithNext_35 ls st μ = bb X P m_X0_exchangeWithNext h K J ((35, .iload_n 2, 1, 2, 0, 0, .inl 0, []) ::
  (36, .aload_n 0, 1, 0, 0, 0, .inl 0, []) ::
  (37, .getfield 49, 3, 0, 0, 0, .inl 0, [244]) ::
  (40, .if_icmp .ge 72, 3, 112, 0, 0, .inl 0, []) ::
  (43, .iload_n 1, 1, 1, 0, 0, .inl 0, []) ::
  (44, .bipush 6, 2, 0, 0, 0, .inl (nI 6), []) ::
  (46, .imul, 1, 0, 0, 0, .inl 0, []) ::
  (47, .iload_n 2, 1, 2, 0, 0, .inl 0, []) ::
  (48, .iadd, 1, 0, 0, 0, .inl 0, []) ::
  (49, .istore_n 3, 1, 3, 0, 0, .inl 0, []) ::
  (50, .iload_n 3, 1, 3, 0, 0, .inl 0, []) ::
  (51, .bipush 6, 2, 0, 0, 0, .inl (nI 6), []) ::
  (53, .iadd, 1, 0, 0, 0, .inl 0, []) ::
  (54, .istore 4, 2, 4, 0, 0, .inl 0, []) ::
  (56, .aload_n 0, 1, 0, 0, 0, .inl 0, []) ::
  (57, .getfield 30, 3, 0, 10, 3, .inr (.inr (16, 48, 7)), [271]) ::
  (60, .iload_n 3, 1, 3, 0, 0, .inl 0, []) ::
  (61, .iload 4, 2, 4, 0, 0, .inl 0, []) ::
  (63, .invokestatic 71, 3, 5, 3, 0, .inl 0, [994]) ::
  (66, .aload_n 0, 1, 0, 0, 0, .inl 0, []) ::
  (67, .getfield 33, 3, 0, 11, 3, .inr (.inr (16, 48, 8)), [276]) ::
  (70, .iload_n 3, 1, 3, 0, 0, .inl 0, []) ::
  (71, .iload 4, 2, 4, 0, 0, .inl 0, []) ::
  (73, .invokestatic 71, 3, 5, 3, 0, .inl 0, [994]) ::
  (76, .aload_n 0, 1, 0, 0, 0, .inl 0, []) ::
  (77, .getfield 36, 3, 0, 12, 3, .inr (.inr (16, 48, 9)), [279]) ::
  (80, .iload_n 3, 1, 3, 0, 0, .inl 0, []) ::
  (81, .iload 4, 2, 4, 0, 0, .inl 0, []) ::
  (83, .invokestatic 71, 3, 5, 3, 0, .inl 0, [994]) ::
  (86, .aload_n 0, 1, 0, 0, 0, .inl 0, []) ::
  (87, .getfield 39, 3, 0, 13, 3, .inr (.inr (16, 48, 10)), [282]) ::
  (90, .iload_n 3, 1, 3, 0, 0, .inl 0, []) ::
  (91, .iload 4, 2, 4, 0, 0, .inl 0, []) ::
  (93, .invokestatic 71, 3, 5, 3, 0, .inl 0, [994]) ::
  (96, .aload_n 0, 1, 0, 0, 0, .inl 0, []) ::
  (97, .getfield 42, 3, 0, 14, 3, .inr (.inr (16, 48, 11)), [286]) ::
  (100, .iload_n 3, 1, 3, 0, 0, .inl 0, []) ::
  (101, .iload 4, 2, 4, 0, 0, .inl 0, []) ::
  (103, .invokestatic 71, 3, 5, 3, 0, .inl 0, [994]) ::
  (106, .iinc 2 1, 3, 2, 0, 0, .inl (nI 1), []) ::
  (109, .goto (-74), 3, 35, 0, 0, .inl 0, []) :: s_X0_exchangeWithNext_112) ls st μ := by rw [s_X0_exchangeWithNext_35]
theorem v_X0_exchangeWithNext_35 : vc X P m_X0_exchangeWithNext h K k_X0_exchangeWithNext S (n + 1) 35 ls st μ = if 35 ∈ S then mAt X m_X0_exchangeWithNext h K 35 ls st μ else bb X P m_X0_exchangeWithNext h K (vc X P m_X0_exchangeWithNext h K k_X0_exchangeWithNext S n) s_X0_exchangeWithNext_35 ls st μ := by rw [vc_s, t_X0_exchangeWithNext_35]
theorem w_X0_exchangeWithNext_112 : bb X P m_X0_exchangeWithNext h K J s_X0_exchangeWithNext_112 ls st μ = bb X P m_X0_exchangeWithNext h K J ((112, .return_, 1, 0, 0, 0, .inl 0, []) :: []) ls st μ := by rw [s_X0_exchangeWithNext_112]
theorem v_X0_exchangeWithNext_112 : vc X P m_X0_exchangeWithNext h K k_X0_exchangeWithNext S (n + 1) 112 ls st μ = if 112 ∈ S then mAt X m_X0_exchangeWithNext h K 112 ls st μ else bb X P m_X0_exchangeWithNext h K (vc X P m_X0_exchangeWithNext h K k_X0_exchangeWithNext S n) s_X0_exchangeWithNext_112 ls st μ := by rw [vc_s, t_X0_exchangeWithNext_112]
end
section
variable {X : mC} {P : mP} {h : Nat} {K : MV → Mem → Prop} {J : mJ} {ls : List (Nat × MV)} {st : List MV} {μ : Mem} {S : List Nat} {n : Nat}
theorem w_X0_findGood_0 : bb X P m_X0_findGood h K J s_X0_findGood_0 ls st μ = bb X P m_X0_findGood h K J ((0, .aload_n 1, 1, 1, 0, 0, .inl 0, []) ::
  (1, .invokevirtual 137, 3, 65, 1, 1, .inl 0, [594, 5]) ::
  (4, .ifCond .ne 11, 3, 15, 0, 0, .inl 0, []) ::
  (7, .aload_n 1, 1, 1, 0, 0, .inl 0, []) ::
  (8, .iconst 1, 1, 0, 0, 0, .inl (nI 1), []) ::
  (9, .invokevirtual 117, 3, 62, 2, 1, .inl 0, [585, 5]) ::
  (12, .pop, 1, 0, 0, 0, .inl 0, []) ::
  (13, .iconst (-1), 1, 0, 0, 0, .inl (-1), []) ::
  (14, .ireturn, 1, 0, 0, 0, .inl 0, []) :: s_X0_findGood_15) ls st μ := by rw [s_X0_findGood_0]
theorem v_X0_findGood_0 : vc X P m_X0_findGood h K k_X0_findGood S (n + 1) 0 ls st μ = if 0 ∈ S then mAt X m_X0_findGood h K 0 ls st μ else bb X P m_X0_findGood h K (vc X P m_X0_findGood h K k_X0_findGood S n) s_X0_findGood_0 ls st μ := by rw [vc_s, t_X0_findGood_0]
theorem w_X0_findGood_15 : bb X P m_X0_findGood h K J s_X0_findGood_15 ls st μ = bb X P m_X0_findGood h K J ((15, .aload_n 0, 1, 0, 0, 0, .inl 0, []) ::
  (16, .aload_n 1, 1, 1, 0, 0, .inl 0, []) ::
  (17, .getfield 127, 3, 5, 7, 0, .inl 0, [199]) ::
  (20, .invokevirtual 141, 3, 9, 2, 1, .inl 0, [598, 0]) ::
  (23, .istore_n 2, 1, 2, 0, 0, .inl 0, []) ::
  (24, .iload_n 2, 1, 2, 0, 0, .inl 0, []) ::
  (25, .iconst (-1), 1, 0, 0, 0, .inl (-1), []) ::
  (26, .if_icmp .ne 9, 3, 35, 0, 0, .inl 0, []) ::
  (29, .aload_n 1, 1, 1, 0, 0, .inl 0, []) ::
  (30, .iconst 3, 1, 0, 0, 0, .inl (nI 3), []) ::
  (31, .invokevirtual 117, 3, 62, 2, 1, .inl 0, [585, 5]) ::
  (34, .pop, 1, 0, 0, 0, .inl 0, []) :: s_X0_findGood_35) ls st μ := by rw [s_X0_findGood_15]
theorem v_X0_findGood_15 : vc X P m_X0_findGood h K k_X0_findGood S (n + 1) 15 ls st μ = if 15 ∈ S then mAt X m_X0_findGood h K 15 ls st μ else bb X P m_X0_findGood h K (vc X P m_X0_findGood h K k_X0_findGood S n) s_X0_findGood_15 ls st μ := by rw [vc_s, t_X0_findGood_15]
theorem w_X0_findGood_35 : bb X P m_X0_findGood h K J s_X0_findGood_35 ls st μ = bb X P m_X0_findGood h K J ((35, .iload_n 2, 1, 2, 0, 0, .inl 0, []) ::
  (36, .ireturn, 1, 0, 0, 0, .inl 0, []) :: []) ls st μ := by rw [s_X0_findGood_35]
theorem v_X0_findGood_35 : vc X P m_X0_findGood h K k_X0_findGood S (n + 1) 35 ls st μ = if 35 ∈ S then mAt X m_X0_findGood h K 35 ls st μ else bb X P m_X0_findGood h K (vc X P m_X0_findGood h K k_X0_findGood S n) s_X0_findGood_35 ls st μ := by rw [vc_s, t_X0_findGood_35]
end
section
variable {X : mC} {P : mP} {h : Nat} {K : MV → Mem → Prop} {J : mJ} {ls : List (Nat × MV)} {st : List MV} {μ : Mem} {S : List Nat} {n : Nat}
theorem w_X0_findWork_0 : bb X P m_X0_findWork h K J s_X0_findWork_0 ls st μ = bb X P m_X0_findWork h K J ((0, .aload_n 1, 1, 1, 0, 0, .inl 0, []) ::
  (1, .invokevirtual 137, 3, 65, 1, 1, .inl 0, [594, 5]) ::
  (4, .ifCond .ne 11, 3, 15, 0, 0, .inl 0, []) ::
  (7, .aload_n 1, 1, 1, 0, 0, .inl 0, []) ::
  (8, .iconst 1, 1, 0, 0, 0, .inl (nI 1), []) ::
  (9, .invokevirtual 117, 3, 62, 2, 1, .inl 0, [585, 5]) ::
  (12, .pop, 1, 0, 0, 0, .inl 0, []) ::
  (13, .iconst (-1), 1, 0, 0, 0, .inl (-1), []) ::
  (14, .ireturn, 1, 0, 0, 0, .inl 0, []) :: s_X0_findWork_15) ls st μ := by rw [s_X0_findWork_0]
theorem v_X0_findWork_0 : vc X P m_X0_findWork h K k_X0_findWork S (n + 1) 0 ls st μ = if 0 ∈ S then mAt X m_X0_findWork h K 0 ls st μ else bb X P m_X0_findWork h K (vc X P m_X0_findWork h K k_X0_findWork S n) s_X0_findWork_0 ls st μ := by rw [vc_s, t_X0_findWork_0]
theorem w_X0_findWork_15 : bb X P m_X0_findWork h K J s_X0_findWork_15 ls st μ = bb X P m_X0_findWork h K J ((15, .aload_n 0, 1, 0, 0, 0, .inl 0, []) ::
  (16, .aload_n 1, 1, 1, 0, 0, .inl 0, []) ::
  (17, .getfield 127, 3, 5, 7, 0, .inl 0, [199]) ::
  (20, .invokevirtual 145, 3, 21, 2, 1, .inl 0, [602, 0]) ::
  (23, .istore_n 2, 1, 2, 0, 0, .inl 0, []) ::
  (24, .iload_n 2, 1, 2, 0, 0, .inl 0, []) ::
  (25, .iconst (-1), 1, 0, 0, 0, .inl (-1), []) ::
  (26, .if_icmp .ne 9, 3, 35, 0, 0, .inl 0, []) ::
  (29, .aload_n 1, 1, 1, 0, 0, .inl 0, []) ::
  (30, .iconst 3, 1, 0, 0, 0, .inl (nI 3), []) ::
  (31, .invokevirtual 117, 3, 62, 2, 1, .inl 0, [585, 5]) ::
  (34, .pop, 1, 0, 0, 0, .inl 0, []) :: s_X0_findWork_35) ls st μ := by rw [s_X0_findWork_15]
theorem v_X0_findWork_15 : vc X P m_X0_findWork h K k_X0_findWork S (n + 1) 15 ls st μ = if 15 ∈ S then mAt X m_X0_findWork h K 15 ls st μ else bb X P m_X0_findWork h K (vc X P m_X0_findWork h K k_X0_findWork S n) s_X0_findWork_15 ls st μ := by rw [vc_s, t_X0_findWork_15]
theorem w_X0_findWork_35 : bb X P m_X0_findWork h K J s_X0_findWork_35 ls st μ = bb X P m_X0_findWork h K J ((35, .iload_n 2, 1, 2, 0, 0, .inl 0, []) ::
  (36, .ireturn, 1, 0, 0, 0, .inl 0, []) :: []) ls st μ := by rw [s_X0_findWork_35]
theorem v_X0_findWork_35 : vc X P m_X0_findWork h K k_X0_findWork S (n + 1) 35 ls st μ = if 35 ∈ S then mAt X m_X0_findWork h K 35 ls st μ else bb X P m_X0_findWork h K (vc X P m_X0_findWork h K k_X0_findWork S n) s_X0_findWork_35 ls st μ := by rw [vc_s, t_X0_findWork_35]
end
section
variable {X : mC} {P : mP} {h : Nat} {K : MV → Mem → Prop} {J : mJ} {ls : List (Nat × MV)} {st : List MV} {μ : Mem} {S : List Nat} {n : Nat}
theorem w_X0_goodNamed_0 : bb X P m_X0_goodNamed h K J s_X0_goodNamed_0 ls st μ = bb X P m_X0_goodNamed h K J ((0, .iconst 0, 1, 0, 0, 0, .inl (nI 0), []) ::
  (1, .istore_n 2, 1, 2, 0, 0, .inl 0, []) :: s_X0_goodNamed_2) ls st μ := by rw [s_X0_goodNamed_0]
theorem v_X0_goodNamed_0 : vc X P m_X0_goodNamed h K k_X0_goodNamed S (n + 1) 0 ls st μ = if 0 ∈ S then mAt X m_X0_goodNamed h K 0 ls st μ else bb X P m_X0_goodNamed h K (vc X P m_X0_goodNamed h K k_X0_goodNamed S n) s_X0_goodNamed_0 ls st μ := by rw [vc_s, t_X0_goodNamed_0]
theorem w_X0_goodNamed_2 : bb X P m_X0_goodNamed h K J s_X0_goodNamed_2 ls st μ = bb X P m_X0_goodNamed h K J ((2, .iload_n 2, 1, 2, 0, 0, .inl 0, []) ::
  (3, .aload_n 0, 1, 0, 0, 0, .inl 0, []) ::
  (4, .getfield 49, 3, 0, 0, 0, .inl 0, [244]) ::
  (7, .if_icmp .ge 21, 3, 28, 0, 0, .inl 0, []) ::
  (10, .aload_n 0, 1, 0, 0, 0, .inl 0, []) ::
  (11, .getfield 9, 3, 0, 4, 3, .inr (.inr (16, 6, 1)), [255]) ::
  (14, .iload_n 2, 1, 2, 0, 0, .inl 0, []) ::
  (15, .iaload, 1, 0, 0, 0, .inl 0, []) ::
  (16, .iload_n 1, 1, 1, 0, 0, .inl 0, []) ::
  (17, .if_icmp .ne 5, 3, 22, 0, 0, .inl 0, []) ::
  (20, .iload_n 2, 1, 2, 0, 0, .inl 0, []) ::
  (21, .ireturn, 1, 0, 0, 0, .inl 0, []) :: s_X0_goodNamed_22) ls st μ := by rw [s_X0_goodNamed_2]
theorem v_X0_goodNamed_2 : vc X P m_X0_goodNamed h K k_X0_goodNamed S (n + 1) 2 ls st μ = if 2 ∈ S then mAt X m_X0_goodNamed h K 2 ls st μ else bb X P m_X0_goodNamed h K (vc X P m_X0_goodNamed h K k_X0_goodNamed S n) s_X0_goodNamed_2 ls st μ := by rw [vc_s, t_X0_goodNamed_2]
theorem w_X0_goodNamed_22 : bb X P m_X0_goodNamed h K J s_X0_goodNamed_22 ls st μ = bb X P m_X0_goodNamed h K J ((22, .iinc 2 1, 3, 2, 0, 0, .inl (nI 1), []) ::
  (25, .goto (-23), 3, 2, 0, 0, .inl 0, []) :: s_X0_goodNamed_28) ls st μ := by rw [s_X0_goodNamed_22]
theorem v_X0_goodNamed_22 : vc X P m_X0_goodNamed h K k_X0_goodNamed S (n + 1) 22 ls st μ = if 22 ∈ S then mAt X m_X0_goodNamed h K 22 ls st μ else bb X P m_X0_goodNamed h K (vc X P m_X0_goodNamed h K k_X0_goodNamed S n) s_X0_goodNamed_22 ls st μ := by rw [vc_s, t_X0_goodNamed_22]
theorem w_X0_goodNamed_28 : bb X P m_X0_goodNamed h K J s_X0_goodNamed_28 ls st μ = bb X P m_X0_goodNamed h K J ((28, .iconst (-1), 1, 0, 0, 0, .inl (-1), []) ::
  (29, .ireturn, 1, 0, 0, 0, .inl 0, []) :: []) ls st μ := by rw [s_X0_goodNamed_28]
theorem v_X0_goodNamed_28 : vc X P m_X0_goodNamed h K k_X0_goodNamed S (n + 1) 28 ls st μ = if 28 ∈ S then mAt X m_X0_goodNamed h K 28 ls st μ else bb X P m_X0_goodNamed h K (vc X P m_X0_goodNamed h K k_X0_goodNamed S n) s_X0_goodNamed_28 ls st μ := by rw [vc_s, t_X0_goodNamed_28]
end
section
variable {X : mC} {P : mP} {h : Nat} {K : MV → Mem → Prop} {J : mJ} {ls : List (Nat × MV)} {st : List MV} {μ : Mem} {S : List Nat} {n : Nat}
theorem w_X0_isNewName_0 : bb X P m_X0_isNewName h K J s_X0_isNewName_0 ls st μ = bb X P m_X0_isNewName h K J ((0, .aload_n 1, 1, 1, 0, 0, .inl 0, []) ::
  (1, .invokevirtual 137, 3, 65, 1, 1, .inl 0, [594, 5]) ::
  (4, .ifCond .ne 9, 3, 13, 0, 0, .inl 0, []) ::
  (7, .aload_n 1, 1, 1, 0, 0, .inl 0, []) ::
  (8, .iconst 1, 1, 0, 0, 0, .inl (nI 1), []) ::
  (9, .invokevirtual 117, 3, 62, 2, 1, .inl 0, [585, 5]) ::
  (12, .ireturn, 1, 1, 0, 0, .inl 0, []) :: s_X0_isNewName_13) ls st μ := by rw [s_X0_isNewName_0]
theorem v_X0_isNewName_0 : vc X P m_X0_isNewName h K k_X0_isNewName S (n + 1) 0 ls st μ = if 0 ∈ S then mAt X m_X0_isNewName h K 0 ls st μ else bb X P m_X0_isNewName h K (vc X P m_X0_isNewName h K k_X0_isNewName S n) s_X0_isNewName_0 ls st μ := by rw [vc_s, t_X0_isNewName_0]
theorem w_X0_isNewName_13 : bb X P m_X0_isNewName h K J s_X0_isNewName_13 ls st μ = bb X P m_X0_isNewName h K J ((13, .aload_n 0, 1, 0, 0, 0, .inl 0, []) ::
  (14, .aload_n 1, 1, 1, 0, 0, .inl 0, []) ::
  (15, .getfield 127, 3, 5, 7, 0, .inl 0, [199]) ::
  (18, .invokevirtual 141, 3, 9, 2, 1, .inl 0, [598, 0]) ::
  (21, .iconst (-1), 1, 0, 0, 0, .inl (-1), []) ::
  (22, .if_icmp .ne 15, 3, 37, 0, 0, .inl 0, []) ::
  (25, .aload_n 0, 1, 0, 0, 0, .inl 0, []) ::
  (26, .aload_n 1, 1, 1, 0, 0, .inl 0, []) ::
  (27, .getfield 127, 3, 5, 7, 0, .inl 0, [199]) ::
  (30, .invokevirtual 145, 3, 21, 2, 1, .inl 0, [602, 0]) ::
  (33, .iconst (-1), 1, 0, 0, 0, .inl (-1), []) ::
  (34, .if_icmp .eq 9, 3, 43, 0, 0, .inl 0, []) :: s_X0_isNewName_37) ls st μ := by rw [s_X0_isNewName_13]
theorem v_X0_isNewName_13 : vc X P m_X0_isNewName h K k_X0_isNewName S (n + 1) 13 ls st μ = if 13 ∈ S then mAt X m_X0_isNewName h K 13 ls st μ else bb X P m_X0_isNewName h K (vc X P m_X0_isNewName h K k_X0_isNewName S n) s_X0_isNewName_13 ls st μ := by rw [vc_s, t_X0_isNewName_13]
theorem w_X0_isNewName_37 : bb X P m_X0_isNewName h K J s_X0_isNewName_37 ls st μ = bb X P m_X0_isNewName h K J ((37, .aload_n 1, 1, 1, 0, 0, .inl 0, []) ::
  (38, .iconst 3, 1, 0, 0, 0, .inl (nI 3), []) ::
  (39, .invokevirtual 117, 3, 62, 2, 1, .inl 0, [585, 5]) ::
  (42, .ireturn, 1, 1, 0, 0, .inl 0, []) :: s_X0_isNewName_43) ls st μ := by rw [s_X0_isNewName_37]
theorem v_X0_isNewName_37 : vc X P m_X0_isNewName h K k_X0_isNewName S (n + 1) 37 ls st μ = if 37 ∈ S then mAt X m_X0_isNewName h K 37 ls st μ else bb X P m_X0_isNewName h K (vc X P m_X0_isNewName h K k_X0_isNewName S n) s_X0_isNewName_37 ls st μ := by rw [vc_s, t_X0_isNewName_37]
theorem w_X0_isNewName_43 : bb X P m_X0_isNewName h K J s_X0_isNewName_43 ls st μ = bb X P m_X0_isNewName h K J ((43, .iconst 1, 1, 0, 0, 0, .inl (nI 1), []) ::
  (44, .ireturn, 1, 1, 0, 0, .inl 0, []) :: []) ls st μ := by rw [s_X0_isNewName_43]
theorem v_X0_isNewName_43 : vc X P m_X0_isNewName h K k_X0_isNewName S (n + 1) 43 ls st μ = if 43 ∈ S then mAt X m_X0_isNewName h K 43 ls st μ else bb X P m_X0_isNewName h K (vc X P m_X0_isNewName h K k_X0_isNewName S n) s_X0_isNewName_43 ls st μ := by rw [vc_s, t_X0_isNewName_43]
end
section
variable {X : mC} {P : mP} {h : Nat} {K : MV → Mem → Prop} {J : mJ} {ls : List (Nat × MV)} {st : List MV} {μ : Mem} {S : List Nat} {n : Nat}
theorem w_X0_readAmount_0 : bb X P m_X0_readAmount h K J s_X0_readAmount_0 ls st μ = bb X P m_X0_readAmount h K J ((0, .aload_n 0, 1, 0, 0, 0, .inl 0, []) ::
  (1, .aload_n 1, 1, 1, 0, 0, .inl 0, []) ::
  (2, .invokevirtual 148, 3, 20, 2, 1, .inl 0, [619, 0]) ::
  (5, .istore_n 3, 1, 3, 0, 0, .inl 0, []) ::
  (6, .iload_n 3, 1, 3, 0, 0, .inl 0, []) ::
  (7, .iconst (-1), 1, 0, 0, 0, .inl (-1), []) ::
  (8, .if_icmp .eq 17, 3, 25, 0, 0, .inl 0, []) ::
  (11, .aload_n 0, 1, 0, 0, 0, .inl 0, []) ::
  (12, .aload_n 1, 1, 1, 0, 0, .inl 0, []) ::
  (13, .aload_n 2, 1, 2, 0, 0, .inl 0, []) ::
  (14, .iload_n 3, 1, 3, 0, 0, .inl 0, []) ::
  (15, .invokevirtual 152, 3, 17, 4, 1, .inl 0, [631, 0]) ::
  (18, .ifCond .eq 7, 3, 25, 0, 0, .inl 0, []) ::
  (21, .iconst 1, 1, 0, 0, 0, .inl (nI 1), []) ::
  (22, .goto 4, 3, 26, 0, 0, .inl 0, []) :: s_X0_readAmount_25) ls st μ := by rw [s_X0_readAmount_0]
theorem v_X0_readAmount_0 : vc X P m_X0_readAmount h K k_X0_readAmount S (n + 1) 0 ls st μ = if 0 ∈ S then mAt X m_X0_readAmount h K 0 ls st μ else bb X P m_X0_readAmount h K (vc X P m_X0_readAmount h K k_X0_readAmount S n) s_X0_readAmount_0 ls st μ := by rw [vc_s, t_X0_readAmount_0]
theorem w_X0_readAmount_25 : bb X P m_X0_readAmount h K J s_X0_readAmount_25 ls st μ = bb X P m_X0_readAmount h K J ((25, .iconst 0, 1, 0, 0, 0, .inl (nI 0), []) :: s_X0_readAmount_26) ls st μ := by rw [s_X0_readAmount_25]
theorem v_X0_readAmount_25 : vc X P m_X0_readAmount h K k_X0_readAmount S (n + 1) 25 ls st μ = if 25 ∈ S then mAt X m_X0_readAmount h K 25 ls st μ else bb X P m_X0_readAmount h K (vc X P m_X0_readAmount h K k_X0_readAmount S n) s_X0_readAmount_25 ls st μ := by rw [vc_s, t_X0_readAmount_25]
theorem w_X0_readAmount_26 : bb X P m_X0_readAmount h K J s_X0_readAmount_26 ls st μ = bb X P m_X0_readAmount h K J ((26, .ireturn, 1, 1, 0, 0, .inl 0, []) :: []) ls st μ := by rw [s_X0_readAmount_26]
theorem v_X0_readAmount_26 : vc X P m_X0_readAmount h K k_X0_readAmount S (n + 1) 26 ls st μ = if 26 ∈ S then mAt X m_X0_readAmount h K 26 ls st μ else bb X P m_X0_readAmount h K (vc X P m_X0_readAmount h K k_X0_readAmount S n) s_X0_readAmount_26 ls st μ := by rw [vc_s, t_X0_readAmount_26]
end
section
variable {X : mC} {P : mP} {h : Nat} {K : MV → Mem → Prop} {J : mJ} {ls : List (Nat × MV)} {st : List MV} {μ : Mem} {S : List Nat} {n : Nat}
theorem w_X0_readFrom_0 : bb X P m_X0_readFrom h K J s_X0_readFrom_0 ls st μ = bb X P m_X0_readFrom h K J ((0, .aload_n 0, 1, 0, 0, 0, .inl 0, []) ::
  (1, .invokevirtual 75, 3, 3, 1, 0, .inl 0, [558, 0]) ::
  (4, .aload_n 1, 1, 1, 0, 0, .inl 0, []) ::
  (5, .sipush 900, 3, 0, 0, 0, .inl (nI 900), []) ::
  (8, .invokevirtual 78, 3, 67, 2, 0, .inl 0, [565, 5]) :: s_X0_readFrom_11) ls st μ := by rw [s_X0_readFrom_0]
theorem v_X0_readFrom_0 : vc X P m_X0_readFrom h K k_X0_readFrom S (n + 1) 0 ls st μ = if 0 ∈ S then mAt X m_X0_readFrom h K 0 ls st μ else bb X P m_X0_readFrom h K (vc X P m_X0_readFrom h K k_X0_readFrom S n) s_X0_readFrom_0 ls st μ := by rw [vc_s, t_X0_readFrom_0]
theorem w_X0_readFrom_11 : bb X P m_X0_readFrom h K J s_X0_readFrom_11 ls st μ = bb X P m_X0_readFrom h K J ((11, .aload_n 1, 1, 1, 0, 0, .inl 0, []) ::
  (12, .getfield 84, 3, 5, 5, 0, .inl 0, [195]) ::
  (15, .ifCond .eq 45, 3, 60, 0, 0, .inl 0, []) ::
  (18, .aload_n 0, 1, 0, 0, 0, .inl 0, []) ::
  (19, .getfield 52, 3, 0, 2, 0, .inl 0, [250]) ::
  (22, .sipush 900, 3, 0, 0, 0, .inl (nI 900), []) ::
  (25, .if_icmp .ge 35, 3, 60, 0, 0, .inl 0, []) ::
  (28, .aload_n 0, 1, 0, 0, 0, .inl 0, []) ::
  (29, .aload_n 1, 1, 1, 0, 0, .inl 0, []) ::
  (30, .invokevirtual 87, 3, 15, 2, 1, .inl 0, [577, 0]) ::
  (33, .ifCond .eq 12, 3, 45, 0, 0, .inl 0, []) ::
  (36, .aload_n 1, 1, 1, 0, 0, .inl 0, []) ::
  (37, .bipush 59, 2, 0, 0, 0, .inl (nI 59), []) ::
  (39, .invokevirtual 91, 3, 71, 2, 1, .inl 0, [647, 5]) ::
  (42, .ifCond .ne 5, 3, 47, 0, 0, .inl 0, []) :: s_X0_readFrom_45) ls st μ := by rw [s_X0_readFrom_11]
theorem v_X0_readFrom_11 : vc X P m_X0_readFrom h K k_X0_readFrom S (n + 1) 11 ls st μ = if 11 ∈ S then mAt X m_X0_readFrom h K 11 ls st μ else bb X P m_X0_readFrom h K (vc X P m_X0_readFrom h K k_X0_readFrom S n) s_X0_readFrom_11 ls st μ := by rw [vc_s, t_X0_readFrom_11]
theorem w_X0_readFrom_45 : bb X P m_X0_readFrom h K J s_X0_readFrom_45 ls st μ = bb X P m_X0_readFrom h K J ((45, .iconst 0, 1, 0, 0, 0, .inl (nI 0), []) ::
  (46, .ireturn, 1, 1, 0, 0, .inl 0, []) :: s_X0_readFrom_47) ls st μ := by rw [s_X0_readFrom_45]
theorem v_X0_readFrom_45 : vc X P m_X0_readFrom h K k_X0_readFrom S (n + 1) 45 ls st μ = if 45 ∈ S then mAt X m_X0_readFrom h K 45 ls st μ else bb X P m_X0_readFrom h K (vc X P m_X0_readFrom h K k_X0_readFrom S n) s_X0_readFrom_45 ls st μ := by rw [vc_s, t_X0_readFrom_45]
theorem w_X0_readFrom_47 : bb X P m_X0_readFrom h K J s_X0_readFrom_47 ls st μ = bb X P m_X0_readFrom h K J ((47, .aload_n 0, 1, 0, 0, 0, .inl 0, []) ::
  (48, .dup, 1, 0, 0, 0, .inl 0, []) ::
  (49, .getfield 52, 3, 0, 2, 0, .inl 0, [250]) ::
  (52, .iconst 1, 1, 0, 0, 0, .inl (nI 1), []) ::
  (53, .iadd, 1, 0, 0, 0, .inl 0, []) ::
  (54, .putfield 52, 3, 0, 2, 0, .inl 0, [250]) ::
  (57, .goto (-46), 3, 11, 0, 0, .inl 0, []) :: s_X0_readFrom_60) ls st μ := by rw [s_X0_readFrom_47]
theorem v_X0_readFrom_47 : vc X P m_X0_readFrom h K k_X0_readFrom S (n + 1) 47 ls st μ = if 47 ∈ S then mAt X m_X0_readFrom h K 47 ls st μ else bb X P m_X0_readFrom h K (vc X P m_X0_readFrom h K k_X0_readFrom S n) s_X0_readFrom_47 ls st μ := by rw [vc_s, t_X0_readFrom_47]
theorem w_X0_readFrom_60 : bb X P m_X0_readFrom h K J s_X0_readFrom_60 ls st μ = bb X P m_X0_readFrom h K J ((60, .iconst 1, 1, 0, 0, 0, .inl (nI 1), []) ::
  (61, .ireturn, 1, 1, 0, 0, .inl 0, []) :: []) ls st μ := by rw [s_X0_readFrom_60]
theorem v_X0_readFrom_60 : vc X P m_X0_readFrom h K k_X0_readFrom S (n + 1) 60 ls st μ = if 60 ∈ S then mAt X m_X0_readFrom h K 60 ls st μ else bb X P m_X0_readFrom h K (vc X P m_X0_readFrom h K k_X0_readFrom S n) s_X0_readFrom_60 ls st μ := by rw [vc_s, t_X0_readFrom_60]
end
section
variable {X : mC} {P : mP} {h : Nat} {K : MV → Mem → Prop} {J : mJ} {ls : List (Nat × MV)} {st : List MV} {μ : Mem} {S : List Nat} {n : Nat}
theorem w_X0_readGood_0 : bb X P m_X0_readGood h K J s_X0_readGood_0 ls st μ = bb X P m_X0_readGood h K J ((0, .aload_n 0, 1, 0, 0, 0, .inl 0, []) ::
  (1, .getfield 49, 3, 0, 0, 0, .inl 0, [244]) ::
  (4, .bipush 6, 2, 0, 0, 0, .inl (nI 6), []) ::
  (6, .if_icmp .ne 9, 3, 15, 0, 0, .inl 0, []) ::
  (9, .aload_n 1, 1, 1, 0, 0, .inl 0, []) ::
  (10, .iconst 4, 1, 0, 0, 0, .inl (nI 4), []) ::
  (11, .invokevirtual 117, 3, 62, 2, 1, .inl 0, [585, 5]) ::
  (14, .ireturn, 1, 1, 0, 0, .inl 0, []) :: s_X0_readGood_15) ls st μ := by rw [s_X0_readGood_0]
theorem v_X0_readGood_0 : vc X P m_X0_readGood h K k_X0_readGood S (n + 1) 0 ls st μ = if 0 ∈ S then mAt X m_X0_readGood h K 0 ls st μ else bb X P m_X0_readGood h K (vc X P m_X0_readGood h K k_X0_readGood S n) s_X0_readGood_0 ls st μ := by rw [vc_s, t_X0_readGood_0]
theorem w_X0_readGood_15 : bb X P m_X0_readGood h K J s_X0_readGood_15 ls st μ = bb X P m_X0_readGood h K J ((15, .aload_n 1, 1, 1, 0, 0, .inl 0, []) ::
  (16, .invokevirtual 121, 3, 61, 1, 0, .inl 0, [589, 5]) ::
  (19, .aload_n 0, 1, 0, 0, 0, .inl 0, []) ::
  (20, .aload_n 1, 1, 1, 0, 0, .inl 0, []) ::
  (21, .invokevirtual 124, 3, 10, 2, 1, .inl 0, [590, 0]) ::
  (24, .ifCond .ne 5, 3, 29, 0, 0, .inl 0, []) ::
  (27, .iconst 0, 1, 0, 0, 0, .inl (nI 0), []) ::
  (28, .ireturn, 1, 1, 0, 0, .inl 0, []) :: s_X0_readGood_29) ls st μ := by rw [s_X0_readGood_15]
theorem v_X0_readGood_15 : vc X P m_X0_readGood h K k_X0_readGood S (n + 1) 15 ls st μ = if 15 ∈ S then mAt X m_X0_readGood h K 15 ls st μ else bb X P m_X0_readGood h K (vc X P m_X0_readGood h K k_X0_readGood S n) s_X0_readGood_15 ls st μ := by rw [vc_s, t_X0_readGood_15]
theorem w_X0_readGood_29 : bb X P m_X0_readGood h K J s_X0_readGood_29 ls st μ = bb X P m_X0_readGood h K J ((29, .aload_n 0, 1, 0, 0, 0, .inl 0, []) ::
  (30, .getfield 9, 3, 0, 4, 3, .inr (.inr (16, 6, 1)), [255]) ::
  (33, .aload_n 0, 1, 0, 0, 0, .inl 0, []) ::
  (34, .getfield 49, 3, 0, 0, 0, .inl 0, [244]) ::
  (37, .aload_n 1, 1, 1, 0, 0, .inl 0, []) ::
  (38, .getfield 127, 3, 5, 7, 0, .inl 0, [199]) ::
  (41, .iastore, 1, 0, 0, 0, .inl 0, []) ::
  (42, .aload_n 1, 1, 1, 0, 0, .inl 0, []) ::
  (43, .invokevirtual 121, 3, 61, 1, 0, .inl 0, [589, 5]) ::
  (46, .aload_n 1, 1, 1, 0, 0, .inl 0, []) ::
  (47, .iconst 0, 1, 0, 0, 0, .inl (nI 0), []) ::
  (48, .bipush 9, 2, 0, 0, 0, .inl (nI 9), []) ::
  (50, .invokevirtual 130, 3, 70, 3, 1, .inl 0, [606, 5]) ::
  (53, .ifCond .ne 5, 3, 58, 0, 0, .inl 0, []) ::
  (56, .iconst 0, 1, 0, 0, 0, .inl (nI 0), []) ::
  (57, .ireturn, 1, 1, 0, 0, .inl 0, []) :: s_X0_readGood_58) ls st μ := by rw [s_X0_readGood_29]
theorem v_X0_readGood_29 : vc X P m_X0_readGood h K k_X0_readGood S (n + 1) 29 ls st μ = if 29 ∈ S then mAt X m_X0_readGood h K 29 ls st μ else bb X P m_X0_readGood h K (vc X P m_X0_readGood h K k_X0_readGood S n) s_X0_readGood_29 ls st μ := by rw [vc_s, t_X0_readGood_29]
theorem w_X0_readGood_58 : bb X P m_X0_readGood h K J s_X0_readGood_58 ls st μ = bb X P m_X0_readGood h K J ((58, .aload_n 0, 1, 0, 0, 0, .inl 0, []) ::
  (59, .getfield 18, 3, 0, 6, 3, .inr (.inr (16, 6, 3)), [258]) ::
  (62, .aload_n 0, 1, 0, 0, 0, .inl 0, []) ::
  (63, .getfield 49, 3, 0, 0, 0, .inl 0, [244]) ::
  (66, .aload_n 1, 1, 1, 0, 0, .inl 0, []) ::
  (67, .getfield 134, 3, 5, 9, 0, .inl 0, [206]) ::
  (70, .iastore, 1, 0, 0, 0, .inl 0, []) ::
  (71, .aload_n 0, 1, 0, 0, 0, .inl 0, []) ::
  (72, .dup, 1, 0, 0, 0, .inl 0, []) ::
  (73, .getfield 49, 3, 0, 0, 0, .inl 0, [244]) ::
  (76, .iconst 1, 1, 0, 0, 0, .inl (nI 1), []) ::
  (77, .iadd, 1, 0, 0, 0, .inl 0, []) ::
  (78, .putfield 49, 3, 0, 0, 0, .inl 0, [244]) ::
  (81, .iconst 1, 1, 0, 0, 0, .inl (nI 1), []) ::
  (82, .ireturn, 1, 1, 0, 0, .inl 0, []) :: []) ls st μ := by rw [s_X0_readGood_58]
theorem v_X0_readGood_58 : vc X P m_X0_readGood h K k_X0_readGood S (n + 1) 58 ls st μ = if 58 ∈ S then mAt X m_X0_readGood h K 58 ls st μ else bb X P m_X0_readGood h K (vc X P m_X0_readGood h K k_X0_readGood S n) s_X0_readGood_58 ls st μ := by rw [vc_s, t_X0_readGood_58]
end
section
variable {X : mC} {P : mP} {h : Nat} {K : MV → Mem → Prop} {J : mJ} {ls : List (Nat × MV)} {st : List MV} {μ : Mem} {S : List Nat} {n : Nat}
theorem w_X0_readJoined_0 : bb X P m_X0_readJoined h K J s_X0_readJoined_0 ls st μ = bb X P m_X0_readJoined h K J ((0, .aload_n 0, 1, 0, 0, 0, .inl 0, []) ::
  (1, .getfield 55, 3, 0, 3, 2, .inl 0, [252]) ::
  (4, .ifCond .eq 9, 3, 13, 0, 0, .inl 0, []) ::
  (7, .aload_n 1, 1, 1, 0, 0, .inl 0, []) ::
  (8, .iconst 3, 1, 0, 0, 0, .inl (nI 3), []) ::
  (9, .invokevirtual 117, 3, 62, 2, 1, .inl 0, [585, 5]) ::
  (12, .ireturn, 1, 1, 0, 0, .inl 0, []) :: s_X0_readJoined_13) ls st μ := by rw [s_X0_readJoined_0]
theorem v_X0_readJoined_0 : vc X P m_X0_readJoined h K k_X0_readJoined S (n + 1) 0 ls st μ = if 0 ∈ S then mAt X m_X0_readJoined h K 0 ls st μ else bb X P m_X0_readJoined h K (vc X P m_X0_readJoined h K k_X0_readJoined S n) s_X0_readJoined_0 ls st μ := by rw [vc_s, t_X0_readJoined_0]
theorem w_X0_readJoined_13 : bb X P m_X0_readJoined h K J s_X0_readJoined_13 ls st μ = bb X P m_X0_readJoined h K J ((13, .aload_n 0, 1, 0, 0, 0, .inl 0, []) ::
  (14, .iconst 1, 1, 0, 0, 0, .inl (nI 1), []) ::
  (15, .putfield 55, 3, 0, 3, 2, .inl 0, [252]) ::
  (18, .aload_n 1, 1, 1, 0, 0, .inl 0, []) ::
  (19, .invokevirtual 121, 3, 61, 1, 0, .inl 0, [589, 5]) ::
  (22, .iconst 1, 1, 0, 0, 0, .inl (nI 1), []) ::
  (23, .ireturn, 1, 1, 0, 0, .inl 0, []) :: []) ls st μ := by rw [s_X0_readJoined_13]
theorem v_X0_readJoined_13 : vc X P m_X0_readJoined h K k_X0_readJoined S (n + 1) 13 ls st μ = if 13 ∈ S then mAt X m_X0_readJoined h K 13 ls st μ else bb X P m_X0_readJoined h K (vc X P m_X0_readJoined h K k_X0_readJoined S n) s_X0_readJoined_13 ls st μ := by rw [vc_s, t_X0_readJoined_13]
end
section
variable {X : mC} {P : mP} {h : Nat} {K : MV → Mem → Prop} {J : mJ} {ls : List (Nat × MV)} {st : List MV} {μ : Mem} {S : List Nat} {n : Nat}
theorem w_X0_readLine_0 : bb X P m_X0_readLine h K J s_X0_readLine_0 ls st μ = bb X P m_X0_readLine h K J ((0, .aload_n 1, 1, 1, 0, 0, .inl 0, []) ::
  (1, .getfield 95, 3, 5, 8, 0, .inl 0, [203]) ::
  (4, .tableswitch 94 0 6 #[44, 50, 56, 62, 82, 72, 88], 44, 98, 0, 0, .inl 0, [48, 54, 60, 66, 86, 76, 92]) :: s_X0_readLine_48) ls st μ := by rw [s_X0_readLine_0]
theorem v_X0_readLine_0 : vc X P m_X0_readLine h K k_X0_readLine S (n + 1) 0 ls st μ = if 0 ∈ S then mAt X m_X0_readLine h K 0 ls st μ else bb X P m_X0_readLine h K (vc X P m_X0_readLine h K k_X0_readLine S n) s_X0_readLine_0 ls st μ := by rw [vc_s, t_X0_readLine_0]
theorem w_X0_readLine_48 : bb X P m_X0_readLine h K J s_X0_readLine_48 ls st μ = bb X P m_X0_readLine h K J ((48, .aload_n 0, 1, 0, 0, 0, .inl 0, []) ::
  (49, .aload_n 1, 1, 1, 0, 0, .inl 0, []) ::
  (50, .invokevirtual 98, 3, 13, 2, 1, .inl 0, [581, 0]) ::
  (53, .ireturn, 1, 1, 0, 0, .inl 0, []) :: s_X0_readLine_54) ls st μ := by rw [s_X0_readLine_48]
theorem v_X0_readLine_48 : vc X P m_X0_readLine h K k_X0_readLine S (n + 1) 48 ls st μ = if 48 ∈ S then mAt X m_X0_readLine h K 48 ls st μ else bb X P m_X0_readLine h K (vc X P m_X0_readLine h K k_X0_readLine S n) s_X0_readLine_48 ls st μ := by rw [vc_s, t_X0_readLine_48]
theorem w_X0_readLine_54 : bb X P m_X0_readLine h K J s_X0_readLine_54 ls st μ = bb X P m_X0_readLine h K J ((54, .aload_n 0, 1, 0, 0, 0, .inl 0, []) ::
  (55, .aload_n 1, 1, 1, 0, 0, .inl 0, []) ::
  (56, .invokevirtual 101, 3, 19, 2, 1, .inl 0, [611, 0]) ::
  (59, .ireturn, 1, 1, 0, 0, .inl 0, []) :: s_X0_readLine_60) ls st μ := by rw [s_X0_readLine_54]
theorem v_X0_readLine_54 : vc X P m_X0_readLine h K k_X0_readLine S (n + 1) 54 ls st μ = if 54 ∈ S then mAt X m_X0_readLine h K 54 ls st μ else bb X P m_X0_readLine h K (vc X P m_X0_readLine h K k_X0_readLine S n) s_X0_readLine_54 ls st μ := by rw [vc_s, t_X0_readLine_54]
theorem w_X0_readLine_60 : bb X P m_X0_readLine h K J s_X0_readLine_60 ls st μ = bb X P m_X0_readLine h K J ((60, .aload_n 0, 1, 0, 0, 0, .inl 0, []) ::
  (61, .aload_n 1, 1, 1, 0, 0, .inl 0, []) ::
  (62, .invokevirtual 104, 3, 18, 2, 1, .inl 0, [615, 0]) ::
  (65, .ireturn, 1, 1, 0, 0, .inl 0, []) :: s_X0_readLine_66) ls st μ := by rw [s_X0_readLine_60]
theorem v_X0_readLine_60 : vc X P m_X0_readLine h K k_X0_readLine S (n + 1) 60 ls st μ = if 60 ∈ S then mAt X m_X0_readLine h K 60 ls st μ else bb X P m_X0_readLine h K (vc X P m_X0_readLine h K k_X0_readLine S n) s_X0_readLine_60 ls st μ := by rw [vc_s, t_X0_readLine_60]
theorem w_X0_readLine_66 : bb X P m_X0_readLine h K J s_X0_readLine_66 ls st μ = bb X P m_X0_readLine h K J ((66, .aload_n 0, 1, 0, 0, 0, .inl 0, []) ::
  (67, .aload_n 1, 1, 1, 0, 0, .inl 0, []) ::
  (68, .aload_n 0, 1, 0, 0, 0, .inl 0, []) ::
  (69, .getfield 39, 3, 0, 13, 3, .inr (.inr (16, 48, 10)), [282]) ::
  (72, .invokevirtual 107, 3, 11, 3, 1, .inl 0, [635, 0]) ::
  (75, .ireturn, 1, 1, 0, 0, .inl 0, []) :: s_X0_readLine_76) ls st μ := by rw [s_X0_readLine_66]
theorem v_X0_readLine_66 : vc X P m_X0_readLine h K k_X0_readLine S (n + 1) 66 ls st μ = if 66 ∈ S then mAt X m_X0_readLine h K 66 ls st μ else bb X P m_X0_readLine h K (vc X P m_X0_readLine h K k_X0_readLine S n) s_X0_readLine_66 ls st μ := by rw [vc_s, t_X0_readLine_66]
theorem w_X0_readLine_76 : bb X P m_X0_readLine h K J s_X0_readLine_76 ls st μ = bb X P m_X0_readLine h K J ((76, .aload_n 0, 1, 0, 0, 0, .inl 0, []) ::
  (77, .aload_n 1, 1, 1, 0, 0, .inl 0, []) ::
  (78, .aload_n 0, 1, 0, 0, 0, .inl 0, []) ::
  (79, .getfield 42, 3, 0, 14, 3, .inr (.inr (16, 48, 11)), [286]) ::
  (82, .invokevirtual 107, 3, 11, 3, 1, .inl 0, [635, 0]) ::
  (85, .ireturn, 1, 1, 0, 0, .inl 0, []) :: s_X0_readLine_86) ls st μ := by rw [s_X0_readLine_76]
theorem v_X0_readLine_76 : vc X P m_X0_readLine h K k_X0_readLine S (n + 1) 76 ls st μ = if 76 ∈ S then mAt X m_X0_readLine h K 76 ls st μ else bb X P m_X0_readLine h K (vc X P m_X0_readLine h K k_X0_readLine S n) s_X0_readLine_76 ls st μ := by rw [vc_s, t_X0_readLine_76]
theorem w_X0_readLine_86 : bb X P m_X0_readLine h K J s_X0_readLine_86 ls st μ = bb X P m_X0_readLine h K J ((86, .aload_n 0, 1, 0, 0, 0, .inl 0, []) ::
  (87, .aload_n 1, 1, 1, 0, 0, .inl 0, []) ::
  (88, .invokevirtual 111, 3, 16, 2, 1, .inl 0, [639, 0]) ::
  (91, .ireturn, 1, 1, 0, 0, .inl 0, []) :: s_X0_readLine_92) ls st μ := by rw [s_X0_readLine_86]
theorem v_X0_readLine_86 : vc X P m_X0_readLine h K k_X0_readLine S (n + 1) 86 ls st μ = if 86 ∈ S then mAt X m_X0_readLine h K 86 ls st μ else bb X P m_X0_readLine h K (vc X P m_X0_readLine h K k_X0_readLine S n) s_X0_readLine_86 ls st μ := by rw [vc_s, t_X0_readLine_86]
theorem w_X0_readLine_92 : bb X P m_X0_readLine h K J s_X0_readLine_92 ls st μ = bb X P m_X0_readLine h K J ((92, .aload_n 0, 1, 0, 0, 0, .inl 0, []) ::
  (93, .aload_n 1, 1, 1, 0, 0, .inl 0, []) ::
  (94, .invokevirtual 114, 3, 14, 2, 1, .inl 0, [643, 0]) ::
  (97, .ireturn, 1, 1, 0, 0, .inl 0, []) :: s_X0_readLine_98) ls st μ := by rw [s_X0_readLine_92]
theorem v_X0_readLine_92 : vc X P m_X0_readLine h K k_X0_readLine S (n + 1) 92 ls st μ = if 92 ∈ S then mAt X m_X0_readLine h K 92 ls st μ else bb X P m_X0_readLine h K (vc X P m_X0_readLine h K k_X0_readLine S n) s_X0_readLine_92 ls st μ := by rw [vc_s, t_X0_readLine_92]
theorem w_X0_readLine_98 : bb X P m_X0_readLine h K J s_X0_readLine_98 ls st μ = bb X P m_X0_readLine h K J ((98, .aload_n 1, 1, 1, 0, 0, .inl 0, []) ::
  (99, .iconst 1, 1, 0, 0, 0, .inl (nI 1), []) ::
  (100, .invokevirtual 117, 3, 62, 2, 1, .inl 0, [585, 5]) ::
  (103, .ireturn, 1, 1, 0, 0, .inl 0, []) :: []) ls st μ := by rw [s_X0_readLine_98]
theorem v_X0_readLine_98 : vc X P m_X0_readLine h K k_X0_readLine S (n + 1) 98 ls st μ = if 98 ∈ S then mAt X m_X0_readLine h K 98 ls st μ else bb X P m_X0_readLine h K (vc X P m_X0_readLine h K k_X0_readLine S n) s_X0_readLine_98 ls st μ := by rw [vc_s, t_X0_readLine_98]
end
section
variable {X : mC} {P : mP} {h : Nat} {K : MV → Mem → Prop} {J : mJ} {ls : List (Nat × MV)} {st : List MV} {μ : Mem} {S : List Nat} {n : Nat}
theorem w_X0_readMakes_0 : bb X P m_X0_readMakes h K J s_X0_readMakes_0 ls st μ = bb X P m_X0_readMakes h K J ((0, .aload_n 1, 1, 1, 0, 0, .inl 0, []) ::
  (1, .invokevirtual 121, 3, 61, 1, 0, .inl 0, [589, 5]) ::
  (4, .aload_n 0, 1, 0, 0, 0, .inl 0, []) ::
  (5, .aload_n 1, 1, 1, 0, 0, .inl 0, []) ::
  (6, .invokevirtual 156, 3, 8, 2, 1, .inl 0, [623, 0]) ::
  (9, .istore_n 2, 1, 2, 0, 0, .inl 0, []) ::
  (10, .iload_n 2, 1, 2, 0, 0, .inl 0, []) ::
  (11, .iconst (-1), 1, 0, 0, 0, .inl (-1), []) ::
  (12, .if_icmp .ne 5, 3, 17, 0, 0, .inl 0, []) ::
  (15, .iconst 0, 1, 0, 0, 0, .inl (nI 0), []) ::
  (16, .ireturn, 1, 1, 0, 0, .inl 0, []) :: s_X0_readMakes_17) ls st μ := by rw [s_X0_readMakes_0]
theorem v_X0_readMakes_0 : vc X P m_X0_readMakes h K k_X0_readMakes S (n + 1) 0 ls st μ = if 0 ∈ S then mAt X m_X0_readMakes h K 0 ls st μ else bb X P m_X0_readMakes h K (vc X P m_X0_readMakes h K k_X0_readMakes S n) s_X0_readMakes_0 ls st μ := by rw [vc_s, t_X0_readMakes_0]
theorem w_X0_readMakes_17 : bb X P m_X0_readMakes h K J s_X0_readMakes_17 ls st μ = bb X P m_X0_readMakes h K J ((17, .aload_n 0, 1, 0, 0, 0, .inl 0, []) ::
  (18, .getfield 27, 3, 0, 9, 3, .inr (.inr (16, 8, 6)), [267]) ::
  (21, .iload_n 2, 1, 2, 0, 0, .inl 0, []) ::
  (22, .iaload, 1, 0, 0, 0, .inl 0, []) ::
  (23, .ifCond .le 9, 3, 32, 0, 0, .inl 0, []) ::
  (26, .aload_n 1, 1, 1, 0, 0, .inl 0, []) ::
  (27, .iconst 3, 1, 0, 0, 0, .inl (nI 3), []) ::
  (28, .invokevirtual 117, 3, 62, 2, 1, .inl 0, [585, 5]) ::
  (31, .ireturn, 1, 1, 0, 0, .inl 0, []) :: s_X0_readMakes_32) ls st μ := by rw [s_X0_readMakes_17]
theorem v_X0_readMakes_17 : vc X P m_X0_readMakes h K k_X0_readMakes S (n + 1) 17 ls st μ = if 17 ∈ S then mAt X m_X0_readMakes h K 17 ls st μ else bb X P m_X0_readMakes h K (vc X P m_X0_readMakes h K k_X0_readMakes S n) s_X0_readMakes_17 ls st μ := by rw [vc_s, t_X0_readMakes_17]
theorem w_X0_readMakes_32 : bb X P m_X0_readMakes h K J s_X0_readMakes_32 ls st μ = bb X P m_X0_readMakes h K J ((32, .aload_n 1, 1, 1, 0, 0, .inl 0, []) ::
  (33, .invokevirtual 121, 3, 61, 1, 0, .inl 0, [589, 5]) ::
  (36, .aload_n 1, 1, 1, 0, 0, .inl 0, []) ::
  (37, .iconst 1, 1, 0, 0, 0, .inl (nI 1), []) ::
  (38, .bipush 99, 2, 0, 0, 0, .inl (nI 99), []) ::
  (40, .invokevirtual 130, 3, 70, 3, 1, .inl 0, [606, 5]) ::
  (43, .ifCond .ne 5, 3, 48, 0, 0, .inl 0, []) ::
  (46, .iconst 0, 1, 0, 0, 0, .inl (nI 0), []) ::
  (47, .ireturn, 1, 1, 0, 0, .inl 0, []) :: s_X0_readMakes_48) ls st μ := by rw [s_X0_readMakes_32]
theorem v_X0_readMakes_32 : vc X P m_X0_readMakes h K k_X0_readMakes S (n + 1) 32 ls st μ = if 32 ∈ S then mAt X m_X0_readMakes h K 32 ls st μ else bb X P m_X0_readMakes h K (vc X P m_X0_readMakes h K k_X0_readMakes S n) s_X0_readMakes_32 ls st μ := by rw [vc_s, t_X0_readMakes_32]
theorem w_X0_readMakes_48 : bb X P m_X0_readMakes h K J s_X0_readMakes_48 ls st μ = bb X P m_X0_readMakes h K J ((48, .aload_n 0, 1, 0, 0, 0, .inl 0, []) ::
  (49, .getfield 27, 3, 0, 9, 3, .inr (.inr (16, 8, 6)), [267]) ::
  (52, .iload_n 2, 1, 2, 0, 0, .inl 0, []) ::
  (53, .aload_n 1, 1, 1, 0, 0, .inl 0, []) ::
  (54, .getfield 134, 3, 5, 9, 0, .inl 0, [206]) ::
  (57, .iastore, 1, 0, 0, 0, .inl 0, []) ::
  (58, .iconst 1, 1, 0, 0, 0, .inl (nI 1), []) ::
  (59, .ireturn, 1, 1, 0, 0, .inl 0, []) :: []) ls st μ := by rw [s_X0_readMakes_48]
theorem v_X0_readMakes_48 : vc X P m_X0_readMakes h K k_X0_readMakes S (n + 1) 48 ls st μ = if 48 ∈ S then mAt X m_X0_readMakes h K 48 ls st μ else bb X P m_X0_readMakes h K (vc X P m_X0_readMakes h K k_X0_readMakes S n) s_X0_readMakes_48 ls st μ := by rw [vc_s, t_X0_readMakes_48]
end
section
variable {X : mC} {P : mP} {h : Nat} {K : MV → Mem → Prop} {J : mJ} {ls : List (Nat × MV)} {st : List MV} {μ : Mem} {S : List Nat} {n : Nat}
theorem w_X0_readNew_0 : bb X P m_X0_readNew h K J s_X0_readNew_0 ls st μ = bb X P m_X0_readNew h K J ((0, .aload_n 2, 1, 2, 0, 0, .inl 0, []) ::
  (1, .iload_n 3, 1, 3, 0, 0, .inl 0, []) ::
  (2, .iaload, 1, 0, 0, 0, .inl 0, []) ::
  (3, .ifCond .le 9, 3, 12, 0, 0, .inl 0, []) ::
  (6, .aload_n 1, 1, 1, 0, 0, .inl 0, []) ::
  (7, .iconst 3, 1, 0, 0, 0, .inl (nI 3), []) ::
  (8, .invokevirtual 117, 3, 62, 2, 1, .inl 0, [585, 5]) ::
  (11, .ireturn, 1, 1, 0, 0, .inl 0, []) :: s_X0_readNew_12) ls st μ := by rw [s_X0_readNew_0]
theorem v_X0_readNew_0 : vc X P m_X0_readNew h K k_X0_readNew S (n + 1) 0 ls st μ = if 0 ∈ S then mAt X m_X0_readNew h K 0 ls st μ else bb X P m_X0_readNew h K (vc X P m_X0_readNew h K k_X0_readNew S n) s_X0_readNew_0 ls st μ := by rw [vc_s, t_X0_readNew_0]
theorem w_X0_readNew_12 : bb X P m_X0_readNew h K J s_X0_readNew_12 ls st μ = bb X P m_X0_readNew h K J ((12, .aload_n 1, 1, 1, 0, 0, .inl 0, []) ::
  (13, .invokevirtual 121, 3, 61, 1, 0, .inl 0, [589, 5]) ::
  (16, .aload_n 1, 1, 1, 0, 0, .inl 0, []) ::
  (17, .iconst 1, 1, 0, 0, 0, .inl (nI 1), []) ::
  (18, .bipush 9, 2, 0, 0, 0, .inl (nI 9), []) ::
  (20, .invokevirtual 130, 3, 70, 3, 1, .inl 0, [606, 5]) ::
  (23, .ifCond .ne 5, 3, 28, 0, 0, .inl 0, []) ::
  (26, .iconst 0, 1, 0, 0, 0, .inl (nI 0), []) ::
  (27, .ireturn, 1, 1, 0, 0, .inl 0, []) :: s_X0_readNew_28) ls st μ := by rw [s_X0_readNew_12]
theorem v_X0_readNew_12 : vc X P m_X0_readNew h K k_X0_readNew S (n + 1) 12 ls st μ = if 12 ∈ S then mAt X m_X0_readNew h K 12 ls st μ else bb X P m_X0_readNew h K (vc X P m_X0_readNew h K k_X0_readNew S n) s_X0_readNew_12 ls st μ := by rw [vc_s, t_X0_readNew_12]
theorem w_X0_readNew_28 : bb X P m_X0_readNew h K J s_X0_readNew_28 ls st μ = bb X P m_X0_readNew h K J ((28, .aload_n 2, 1, 2, 0, 0, .inl 0, []) ::
  (29, .iload_n 3, 1, 3, 0, 0, .inl 0, []) ::
  (30, .aload_n 1, 1, 1, 0, 0, .inl 0, []) ::
  (31, .getfield 134, 3, 5, 9, 0, .inl 0, [206]) ::
  (34, .iastore, 1, 0, 0, 0, .inl 0, []) ::
  (35, .iconst 1, 1, 0, 0, 0, .inl (nI 1), []) ::
  (36, .ireturn, 1, 1, 0, 0, .inl 0, []) :: []) ls st μ := by rw [s_X0_readNew_28]
theorem v_X0_readNew_28 : vc X P m_X0_readNew h K k_X0_readNew S (n + 1) 28 ls st μ = if 28 ∈ S then mAt X m_X0_readNew h K 28 ls st μ else bb X P m_X0_readNew h K (vc X P m_X0_readNew h K k_X0_readNew S n) s_X0_readNew_28 ls st μ := by rw [vc_s, t_X0_readNew_28]
end
section
variable {X : mC} {P : mP} {h : Nat} {K : MV → Mem → Prop} {J : mJ} {ls : List (Nat × MV)} {st : List MV} {μ : Mem} {S : List Nat} {n : Nat}
theorem w_X0_readTakes_0 : bb X P m_X0_readTakes h K J s_X0_readTakes_0 ls st μ = bb X P m_X0_readTakes h K J ((0, .aload_n 0, 1, 0, 0, 0, .inl 0, []) ::
  (1, .aload_n 1, 1, 1, 0, 0, .inl 0, []) ::
  (2, .invokevirtual 148, 3, 20, 2, 1, .inl 0, [619, 0]) ::
  (5, .istore_n 2, 1, 2, 0, 0, .inl 0, []) ::
  (6, .iload_n 2, 1, 2, 0, 0, .inl 0, []) ::
  (7, .iconst (-1), 1, 0, 0, 0, .inl (-1), []) ::
  (8, .if_icmp .eq 16, 3, 24, 0, 0, .inl 0, []) ::
  (11, .aload_n 0, 1, 0, 0, 0, .inl 0, []) ::
  (12, .aload_n 1, 1, 1, 0, 0, .inl 0, []) ::
  (13, .aload_n 0, 1, 0, 0, 0, .inl 0, []) ::
  (14, .getfield 30, 3, 0, 10, 3, .inr (.inr (16, 48, 7)), [271]) ::
  (17, .iload_n 2, 1, 2, 0, 0, .inl 0, []) ::
  (18, .invokevirtual 152, 3, 17, 4, 1, .inl 0, [631, 0]) ::
  (21, .ifCond .ne 5, 3, 26, 0, 0, .inl 0, []) :: s_X0_readTakes_24) ls st μ := by rw [s_X0_readTakes_0]
theorem v_X0_readTakes_0 : vc X P m_X0_readTakes h K k_X0_readTakes S (n + 1) 0 ls st μ = if 0 ∈ S then mAt X m_X0_readTakes h K 0 ls st μ else bb X P m_X0_readTakes h K (vc X P m_X0_readTakes h K k_X0_readTakes S n) s_X0_readTakes_0 ls st μ := by rw [vc_s, t_X0_readTakes_0]
theorem w_X0_readTakes_24 : bb X P m_X0_readTakes h K J s_X0_readTakes_24 ls st μ = bb X P m_X0_readTakes h K J ((24, .iconst 0, 1, 0, 0, 0, .inl (nI 0), []) ::
  (25, .ireturn, 1, 1, 0, 0, .inl 0, []) :: s_X0_readTakes_26) ls st μ := by rw [s_X0_readTakes_24]
theorem v_X0_readTakes_24 : vc X P m_X0_readTakes h K k_X0_readTakes S (n + 1) 24 ls st μ = if 24 ∈ S then mAt X m_X0_readTakes h K 24 ls st μ else bb X P m_X0_readTakes h K (vc X P m_X0_readTakes h K k_X0_readTakes S n) s_X0_readTakes_24 ls st μ := by rw [vc_s, t_X0_readTakes_24]
theorem w_X0_readTakes_26 : bb X P m_X0_readTakes h K J s_X0_readTakes_26 ls st μ = bb X P m_X0_readTakes h K J ((26, .aload_n 1, 1, 1, 0, 0, .inl 0, []) ::
  (27, .aload_n 0, 1, 0, 0, 0, .inl 0, []) ::
  (28, .getfield 30, 3, 0, 10, 3, .inr (.inr (16, 48, 7)), [271]) ::
  (31, .iload_n 2, 1, 2, 0, 0, .inl 0, []) ::
  (32, .iaload, 1, 0, 0, 0, .inl 0, []) ::
  (33, .bipush 99, 2, 0, 0, 0, .inl (nI 99), []) ::
  (35, .invokevirtual 130, 3, 70, 3, 1, .inl 0, [606, 5]) ::
  (38, .ifCond .ne 5, 3, 43, 0, 0, .inl 0, []) ::
  (41, .iconst 0, 1, 0, 0, 0, .inl (nI 0), []) ::
  (42, .ireturn, 1, 1, 0, 0, .inl 0, []) :: s_X0_readTakes_43) ls st μ := by rw [s_X0_readTakes_26]
theorem v_X0_readTakes_26 : vc X P m_X0_readTakes h K k_X0_readTakes S (n + 1) 26 ls st μ = if 26 ∈ S then mAt X m_X0_readTakes h K 26 ls st μ else bb X P m_X0_readTakes h K (vc X P m_X0_readTakes h K k_X0_readTakes S n) s_X0_readTakes_26 ls st μ := by rw [vc_s, t_X0_readTakes_26]
theorem w_X0_readTakes_43 : bb X P m_X0_readTakes h K J s_X0_readTakes_43 ls st μ = bb X P m_X0_readTakes h K J ((43, .aload_n 0, 1, 0, 0, 0, .inl 0, []) ::
  (44, .getfield 33, 3, 0, 11, 3, .inr (.inr (16, 48, 8)), [276]) ::
  (47, .iload_n 2, 1, 2, 0, 0, .inl 0, []) ::
  (48, .aload_n 1, 1, 1, 0, 0, .inl 0, []) ::
  (49, .getfield 134, 3, 5, 9, 0, .inl 0, [206]) ::
  (52, .iastore, 1, 0, 0, 0, .inl 0, []) ::
  (53, .aload_n 1, 1, 1, 0, 0, .inl 0, []) ::
  (54, .iconst 0, 1, 0, 0, 0, .inl (nI 0), []) ::
  (55, .aload_n 0, 1, 0, 0, 0, .inl 0, []) ::
  (56, .getfield 33, 3, 0, 11, 3, .inr (.inr (16, 48, 8)), [276]) ::
  (59, .iload_n 2, 1, 2, 0, 0, .inl 0, []) ::
  (60, .iaload, 1, 0, 0, 0, .inl 0, []) ::
  (61, .invokevirtual 130, 3, 70, 3, 1, .inl 0, [606, 5]) ::
  (64, .ifCond .ne 5, 3, 69, 0, 0, .inl 0, []) ::
  (67, .iconst 0, 1, 0, 0, 0, .inl (nI 0), []) ::
  (68, .ireturn, 1, 1, 0, 0, .inl 0, []) :: s_X0_readTakes_69) ls st μ := by rw [s_X0_readTakes_43]
theorem v_X0_readTakes_43 : vc X P m_X0_readTakes h K k_X0_readTakes S (n + 1) 43 ls st μ = if 43 ∈ S then mAt X m_X0_readTakes h K 43 ls st μ else bb X P m_X0_readTakes h K (vc X P m_X0_readTakes h K k_X0_readTakes S n) s_X0_readTakes_43 ls st μ := by rw [vc_s, t_X0_readTakes_43]
theorem w_X0_readTakes_69 : bb X P m_X0_readTakes h K J s_X0_readTakes_69 ls st μ = bb X P m_X0_readTakes h K J ((69, .aload_n 0, 1, 0, 0, 0, .inl 0, []) ::
  (70, .getfield 36, 3, 0, 12, 3, .inr (.inr (16, 48, 9)), [279]) ::
  (73, .iload_n 2, 1, 2, 0, 0, .inl 0, []) ::
  (74, .aload_n 1, 1, 1, 0, 0, .inl 0, []) ::
  (75, .getfield 134, 3, 5, 9, 0, .inl 0, [206]) ::
  (78, .iastore, 1, 0, 0, 0, .inl 0, []) ::
  (79, .iconst 1, 1, 0, 0, 0, .inl (nI 1), []) ::
  (80, .ireturn, 1, 1, 0, 0, .inl 0, []) :: []) ls st μ := by rw [s_X0_readTakes_69]
theorem v_X0_readTakes_69 : vc X P m_X0_readTakes h K k_X0_readTakes S (n + 1) 69 ls st μ = if 69 ∈ S then mAt X m_X0_readTakes h K 69 ls st μ else bb X P m_X0_readTakes h K (vc X P m_X0_readTakes h K k_X0_readTakes S n) s_X0_readTakes_69 ls st μ := by rw [vc_s, t_X0_readTakes_69]
end
section
variable {X : mC} {P : mP} {h : Nat} {K : MV → Mem → Prop} {J : mJ} {ls : List (Nat × MV)} {st : List MV} {μ : Mem} {S : List Nat} {n : Nat}
theorem w_X0_readWork_0 : bb X P m_X0_readWork h K J s_X0_readWork_0 ls st μ = bb X P m_X0_readWork h K J ((0, .aload_n 0, 1, 0, 0, 0, .inl 0, []) ::
  (1, .getfield 45, 3, 0, 1, 0, .inl 0, [247]) ::
  (4, .bipush 8, 2, 0, 0, 0, .inl (nI 8), []) ::
  (6, .if_icmp .ne 9, 3, 15, 0, 0, .inl 0, []) ::
  (9, .aload_n 1, 1, 1, 0, 0, .inl 0, []) ::
  (10, .iconst 4, 1, 0, 0, 0, .inl (nI 4), []) ::
  (11, .invokevirtual 117, 3, 62, 2, 1, .inl 0, [585, 5]) ::
  (14, .ireturn, 1, 1, 0, 0, .inl 0, []) :: s_X0_readWork_15) ls st μ := by rw [s_X0_readWork_0]
theorem v_X0_readWork_0 : vc X P m_X0_readWork h K k_X0_readWork S (n + 1) 0 ls st μ = if 0 ∈ S then mAt X m_X0_readWork h K 0 ls st μ else bb X P m_X0_readWork h K (vc X P m_X0_readWork h K k_X0_readWork S n) s_X0_readWork_0 ls st μ := by rw [vc_s, t_X0_readWork_0]
theorem w_X0_readWork_15 : bb X P m_X0_readWork h K J s_X0_readWork_15 ls st μ = bb X P m_X0_readWork h K J ((15, .aload_n 1, 1, 1, 0, 0, .inl 0, []) ::
  (16, .invokevirtual 121, 3, 61, 1, 0, .inl 0, [589, 5]) ::
  (19, .aload_n 0, 1, 0, 0, 0, .inl 0, []) ::
  (20, .aload_n 1, 1, 1, 0, 0, .inl 0, []) ::
  (21, .invokevirtual 124, 3, 10, 2, 1, .inl 0, [590, 0]) ::
  (24, .ifCond .ne 5, 3, 29, 0, 0, .inl 0, []) ::
  (27, .iconst 0, 1, 0, 0, 0, .inl (nI 0), []) ::
  (28, .ireturn, 1, 1, 0, 0, .inl 0, []) :: s_X0_readWork_29) ls st μ := by rw [s_X0_readWork_15]
theorem v_X0_readWork_15 : vc X P m_X0_readWork h K k_X0_readWork S (n + 1) 15 ls st μ = if 15 ∈ S then mAt X m_X0_readWork h K 15 ls st μ else bb X P m_X0_readWork h K (vc X P m_X0_readWork h K k_X0_readWork S n) s_X0_readWork_15 ls st μ := by rw [vc_s, t_X0_readWork_15]
theorem w_X0_readWork_29 : bb X P m_X0_readWork h K J s_X0_readWork_29 ls st μ = bb X P m_X0_readWork h K J ((29, .aload_n 0, 1, 0, 0, 0, .inl 0, []) ::
  (30, .getfield 15, 3, 0, 5, 3, .inr (.inr (16, 8, 2)), [256]) ::
  (33, .aload_n 0, 1, 0, 0, 0, .inl 0, []) ::
  (34, .getfield 45, 3, 0, 1, 0, .inl 0, [247]) ::
  (37, .aload_n 1, 1, 1, 0, 0, .inl 0, []) ::
  (38, .getfield 127, 3, 5, 7, 0, .inl 0, [199]) ::
  (41, .iastore, 1, 0, 0, 0, .inl 0, []) ::
  (42, .aload_n 0, 1, 0, 0, 0, .inl 0, []) ::
  (43, .getfield 21, 3, 0, 7, 3, .inr (.inr (16, 8, 4)), [261]) ::
  (46, .aload_n 0, 1, 0, 0, 0, .inl 0, []) ::
  (47, .getfield 45, 3, 0, 1, 0, .inl 0, [247]) ::
  (50, .iconst 0, 1, 0, 0, 0, .inl (nI 0), []) ::
  (51, .iastore, 1, 0, 0, 0, .inl 0, []) ::
  (52, .aload_n 0, 1, 0, 0, 0, .inl 0, []) ::
  (53, .getfield 24, 3, 0, 8, 3, .inr (.inr (16, 8, 5)), [264]) ::
  (56, .aload_n 0, 1, 0, 0, 0, .inl 0, []) ::
  (57, .getfield 45, 3, 0, 1, 0, .inl 0, [247]) ::
  (60, .bipush 11, 2, 0, 0, 0, .inl (nI 11), []) ::
  (62, .iastore, 1, 0, 0, 0, .inl 0, []) ::
  (63, .aload_n 1, 1, 1, 0, 0, .inl 0, []) ::
  (64, .invokevirtual 121, 3, 61, 1, 0, .inl 0, [589, 5]) ::
  (67, .aload_n 1, 1, 1, 0, 0, .inl 0, []) ::
  (68, .getfield 84, 3, 5, 5, 0, .inl 0, [195]) ::
  (71, .iconst 3, 1, 0, 0, 0, .inl (nI 3), []) ::
  (72, .if_icmp .ne 61, 3, 133, 0, 0, .inl 0, []) ::
  (75, .aload_n 1, 1, 1, 0, 0, .inl 0, []) ::
  (76, .iconst 0, 1, 0, 0, 0, .inl (nI 0), []) ::
  (77, .bipush 11, 2, 0, 0, 0, .inl (nI 11), []) ::
  (79, .invokevirtual 130, 3, 70, 3, 1, .inl 0, [606, 5]) ::
  (82, .ifCond .ne 5, 3, 87, 0, 0, .inl 0, []) ::
  (85, .iconst 0, 1, 0, 0, 0, .inl (nI 0), []) ::
  (86, .ireturn, 1, 1, 0, 0, .inl 0, []) :: s_X0_readWork_87) ls st μ := by rw [s_X0_readWork_29]
theorem v_X0_readWork_29 : vc X P m_X0_readWork h K k_X0_readWork S (n + 1) 29 ls st μ = if 29 ∈ S then mAt X m_X0_readWork h K 29 ls st μ else bb X P m_X0_readWork h K (vc X P m_X0_readWork h K k_X0_readWork S n) s_X0_readWork_29 ls st μ := by rw [vc_s, t_X0_readWork_29]
theorem w_X0_readWork_87 : bb X P m_X0_readWork h K J s_X0_readWork_87 ls st μ = bb X P m_X0_readWork h K J ((87, .aload_n 0, 1, 0, 0, 0, .inl 0, []) ::
  (88, .getfield 21, 3, 0, 7, 3, .inr (.inr (16, 8, 4)), [261]) ::
  (91, .aload_n 0, 1, 0, 0, 0, .inl 0, []) ::
  (92, .getfield 45, 3, 0, 1, 0, .inl 0, [247]) ::
  (95, .aload_n 1, 1, 1, 0, 0, .inl 0, []) ::
  (96, .getfield 134, 3, 5, 9, 0, .inl 0, [206]) ::
  (99, .iastore, 1, 0, 0, 0, .inl 0, []) ::
  (100, .aload_n 1, 1, 1, 0, 0, .inl 0, []) ::
  (101, .aload_n 0, 1, 0, 0, 0, .inl 0, []) ::
  (102, .getfield 21, 3, 0, 7, 3, .inr (.inr (16, 8, 4)), [261]) ::
  (105, .aload_n 0, 1, 0, 0, 0, .inl 0, []) ::
  (106, .getfield 45, 3, 0, 1, 0, .inl 0, [247]) ::
  (109, .iaload, 1, 0, 0, 0, .inl 0, []) ::
  (110, .bipush 11, 2, 0, 0, 0, .inl (nI 11), []) ::
  (112, .invokevirtual 130, 3, 70, 3, 1, .inl 0, [606, 5]) ::
  (115, .ifCond .ne 5, 3, 120, 0, 0, .inl 0, []) ::
  (118, .iconst 0, 1, 0, 0, 0, .inl (nI 0), []) ::
  (119, .ireturn, 1, 1, 0, 0, .inl 0, []) :: s_X0_readWork_120) ls st μ := by rw [s_X0_readWork_87]
theorem v_X0_readWork_87 : vc X P m_X0_readWork h K k_X0_readWork S (n + 1) 87 ls st μ = if 87 ∈ S then mAt X m_X0_readWork h K 87 ls st μ else bb X P m_X0_readWork h K (vc X P m_X0_readWork h K k_X0_readWork S n) s_X0_readWork_87 ls st μ := by rw [vc_s, t_X0_readWork_87]
theorem w_X0_readWork_120 : bb X P m_X0_readWork h K J s_X0_readWork_120 ls st μ = bb X P m_X0_readWork h K J ((120, .aload_n 0, 1, 0, 0, 0, .inl 0, []) ::
  (121, .getfield 24, 3, 0, 8, 3, .inr (.inr (16, 8, 5)), [264]) ::
  (124, .aload_n 0, 1, 0, 0, 0, .inl 0, []) ::
  (125, .getfield 45, 3, 0, 1, 0, .inl 0, [247]) ::
  (128, .aload_n 1, 1, 1, 0, 0, .inl 0, []) ::
  (129, .getfield 134, 3, 5, 9, 0, .inl 0, [206]) ::
  (132, .iastore, 1, 0, 0, 0, .inl 0, []) :: s_X0_readWork_133) ls st μ := by rw [s_X0_readWork_120]
theorem v_X0_readWork_120 : vc X P m_X0_readWork h K k_X0_readWork S (n + 1) 120 ls st μ = if 120 ∈ S then mAt X m_X0_readWork h K 120 ls st μ else bb X P m_X0_readWork h K (vc X P m_X0_readWork h K k_X0_readWork S n) s_X0_readWork_120 ls st μ := by rw [vc_s, t_X0_readWork_120]
theorem w_X0_readWork_133 : bb X P m_X0_readWork h K J s_X0_readWork_133 ls st μ = bb X P m_X0_readWork h K J ((133, .aload_n 0, 1, 0, 0, 0, .inl 0, []) ::
  (134, .dup, 1, 0, 0, 0, .inl 0, []) ::
  (135, .getfield 45, 3, 0, 1, 0, .inl 0, [247]) ::
  (138, .iconst 1, 1, 0, 0, 0, .inl (nI 1), []) ::
  (139, .iadd, 1, 0, 0, 0, .inl 0, []) ::
  (140, .putfield 45, 3, 0, 1, 0, .inl 0, [247]) ::
  (143, .iconst 1, 1, 0, 0, 0, .inl (nI 1), []) ::
  (144, .ireturn, 1, 1, 0, 0, .inl 0, []) :: []) ls st μ := by rw [s_X0_readWork_133]
theorem v_X0_readWork_133 : vc X P m_X0_readWork h K k_X0_readWork S (n + 1) 133 ls st μ = if 133 ∈ S then mAt X m_X0_readWork h K 133 ls st μ else bb X P m_X0_readWork h K (vc X P m_X0_readWork h K k_X0_readWork S n) s_X0_readWork_133 ls st μ := by rw [vc_s, t_X0_readWork_133]
end
section
variable {X : mC} {P : mP} {h : Nat} {K : MV → Mem → Prop} {J : mJ} {ls : List (Nat × MV)} {st : List MV} {μ : Mem} {S : List Nat} {n : Nat}
theorem w_X0_takeCell_0 : bb X P m_X0_takeCell h K J s_X0_takeCell_0 ls st μ = bb X P m_X0_takeCell h K J ((0, .aload_n 1, 1, 1, 0, 0, .inl 0, []) ::
  (1, .invokevirtual 121, 3, 61, 1, 0, .inl 0, [589, 5]) ::
  (4, .aload_n 0, 1, 0, 0, 0, .inl 0, []) ::
  (5, .aload_n 1, 1, 1, 0, 0, .inl 0, []) ::
  (6, .invokevirtual 156, 3, 8, 2, 1, .inl 0, [623, 0]) ::
  (9, .istore_n 2, 1, 2, 0, 0, .inl 0, []) ::
  (10, .iload_n 2, 1, 2, 0, 0, .inl 0, []) ::
  (11, .iconst (-1), 1, 0, 0, 0, .inl (-1), []) ::
  (12, .if_icmp .ne 5, 3, 17, 0, 0, .inl 0, []) ::
  (15, .iconst (-1), 1, 0, 0, 0, .inl (-1), []) ::
  (16, .ireturn, 1, 0, 0, 0, .inl 0, []) :: s_X0_takeCell_17) ls st μ := by rw [s_X0_takeCell_0]
theorem v_X0_takeCell_0 : vc X P m_X0_takeCell h K k_X0_takeCell S (n + 1) 0 ls st μ = if 0 ∈ S then mAt X m_X0_takeCell h K 0 ls st μ else bb X P m_X0_takeCell h K (vc X P m_X0_takeCell h K k_X0_takeCell S n) s_X0_takeCell_0 ls st μ := by rw [vc_s, t_X0_takeCell_0]
theorem w_X0_takeCell_17 : bb X P m_X0_takeCell h K J s_X0_takeCell_17 ls st μ = bb X P m_X0_takeCell h K J ((17, .aload_n 1, 1, 1, 0, 0, .inl 0, []) ::
  (18, .invokevirtual 121, 3, 61, 1, 0, .inl 0, [589, 5]) ::
  (21, .aload_n 0, 1, 0, 0, 0, .inl 0, []) ::
  (22, .aload_n 1, 1, 1, 0, 0, .inl 0, []) ::
  (23, .invokevirtual 159, 3, 7, 2, 1, .inl 0, [627, 0]) ::
  (26, .istore_n 3, 1, 3, 0, 0, .inl 0, []) ::
  (27, .iload_n 3, 1, 3, 0, 0, .inl 0, []) ::
  (28, .iconst (-1), 1, 0, 0, 0, .inl (-1), []) ::
  (29, .if_icmp .ne 7, 3, 36, 0, 0, .inl 0, []) ::
  (32, .iconst (-1), 1, 0, 0, 0, .inl (-1), []) ::
  (33, .goto 9, 3, 42, 0, 0, .inl 0, []) :: s_X0_takeCell_36) ls st μ := by rw [s_X0_takeCell_17]
theorem v_X0_takeCell_17 : vc X P m_X0_takeCell h K k_X0_takeCell S (n + 1) 17 ls st μ = if 17 ∈ S then mAt X m_X0_takeCell h K 17 ls st μ else bb X P m_X0_takeCell h K (vc X P m_X0_takeCell h K k_X0_takeCell S n) s_X0_takeCell_17 ls st μ := by rw [vc_s, t_X0_takeCell_17]
theorem w_X0_takeCell_36 : bb X P m_X0_takeCell h K J s_X0_takeCell_36 ls st μ = bb X P m_X0_takeCell h K J ((36, .iload_n 2, 1, 2, 0, 0, .inl 0, []) ::
  (37, .bipush 6, 2, 0, 0, 0, .inl (nI 6), []) ::
  (39, .imul, 1, 0, 0, 0, .inl 0, []) ::
  (40, .iload_n 3, 1, 3, 0, 0, .inl 0, []) ::
  (41, .iadd, 1, 0, 0, 0, .inl 0, []) :: s_X0_takeCell_42) ls st μ := by rw [s_X0_takeCell_36]
theorem v_X0_takeCell_36 : vc X P m_X0_takeCell h K k_X0_takeCell S (n + 1) 36 ls st μ = if 36 ∈ S then mAt X m_X0_takeCell h K 36 ls st μ else bb X P m_X0_takeCell h K (vc X P m_X0_takeCell h K k_X0_takeCell S n) s_X0_takeCell_36 ls st μ := by rw [vc_s, t_X0_takeCell_36]
theorem w_X0_takeCell_42 : bb X P m_X0_takeCell h K J s_X0_takeCell_42 ls st μ = bb X P m_X0_takeCell h K J ((42, .ireturn, 1, 0, 0, 0, .inl 0, []) :: []) ls st μ := by rw [s_X0_takeCell_42]
theorem v_X0_takeCell_42 : vc X P m_X0_takeCell h K k_X0_takeCell S (n + 1) 42 ls st μ = if 42 ∈ S then mAt X m_X0_takeCell h K 42 ls st μ else bb X P m_X0_takeCell h K (vc X P m_X0_takeCell h K k_X0_takeCell S n) s_X0_takeCell_42 ls st μ := by rw [vc_s, t_X0_takeCell_42]
end
section
variable {X : mC} {P : mP} {h : Nat} {K : MV → Mem → Prop} {J : mJ} {ls : List (Nat × MV)} {st : List MV} {μ : Mem} {S : List Nat} {n : Nat}
theorem w_X0_workNamed_0 : bb X P m_X0_workNamed h K J s_X0_workNamed_0 ls st μ = bb X P m_X0_workNamed h K J ((0, .iconst 0, 1, 0, 0, 0, .inl (nI 0), []) ::
  (1, .istore_n 2, 1, 2, 0, 0, .inl 0, []) :: s_X0_workNamed_2) ls st μ := by rw [s_X0_workNamed_0]
theorem v_X0_workNamed_0 : vc X P m_X0_workNamed h K k_X0_workNamed S (n + 1) 0 ls st μ = if 0 ∈ S then mAt X m_X0_workNamed h K 0 ls st μ else bb X P m_X0_workNamed h K (vc X P m_X0_workNamed h K k_X0_workNamed S n) s_X0_workNamed_0 ls st μ := by rw [vc_s, t_X0_workNamed_0]
theorem w_X0_workNamed_2 : bb X P m_X0_workNamed h K J s_X0_workNamed_2 ls st μ = bb X P m_X0_workNamed h K J ((2, .iload_n 2, 1, 2, 0, 0, .inl 0, []) ::
  (3, .aload_n 0, 1, 0, 0, 0, .inl 0, []) ::
  (4, .getfield 45, 3, 0, 1, 0, .inl 0, [247]) ::
  (7, .if_icmp .ge 21, 3, 28, 0, 0, .inl 0, []) ::
  (10, .aload_n 0, 1, 0, 0, 0, .inl 0, []) ::
  (11, .getfield 15, 3, 0, 5, 3, .inr (.inr (16, 8, 2)), [256]) ::
  (14, .iload_n 2, 1, 2, 0, 0, .inl 0, []) ::
  (15, .iaload, 1, 0, 0, 0, .inl 0, []) ::
  (16, .iload_n 1, 1, 1, 0, 0, .inl 0, []) ::
  (17, .if_icmp .ne 5, 3, 22, 0, 0, .inl 0, []) ::
  (20, .iload_n 2, 1, 2, 0, 0, .inl 0, []) ::
  (21, .ireturn, 1, 0, 0, 0, .inl 0, []) :: s_X0_workNamed_22) ls st μ := by rw [s_X0_workNamed_2]
theorem v_X0_workNamed_2 : vc X P m_X0_workNamed h K k_X0_workNamed S (n + 1) 2 ls st μ = if 2 ∈ S then mAt X m_X0_workNamed h K 2 ls st μ else bb X P m_X0_workNamed h K (vc X P m_X0_workNamed h K k_X0_workNamed S n) s_X0_workNamed_2 ls st μ := by rw [vc_s, t_X0_workNamed_2]
theorem w_X0_workNamed_22 : bb X P m_X0_workNamed h K J s_X0_workNamed_22 ls st μ = bb X P m_X0_workNamed h K J ((22, .iinc 2 1, 3, 2, 0, 0, .inl (nI 1), []) ::
  (25, .goto (-23), 3, 2, 0, 0, .inl 0, []) :: s_X0_workNamed_28) ls st μ := by rw [s_X0_workNamed_22]
theorem v_X0_workNamed_22 : vc X P m_X0_workNamed h K k_X0_workNamed S (n + 1) 22 ls st μ = if 22 ∈ S then mAt X m_X0_workNamed h K 22 ls st μ else bb X P m_X0_workNamed h K (vc X P m_X0_workNamed h K k_X0_workNamed S n) s_X0_workNamed_22 ls st μ := by rw [vc_s, t_X0_workNamed_22]
theorem w_X0_workNamed_28 : bb X P m_X0_workNamed h K J s_X0_workNamed_28 ls st μ = bb X P m_X0_workNamed h K J ((28, .iconst (-1), 1, 0, 0, 0, .inl (-1), []) ::
  (29, .ireturn, 1, 0, 0, 0, .inl 0, []) :: []) ls st μ := by rw [s_X0_workNamed_28]
theorem v_X0_workNamed_28 : vc X P m_X0_workNamed h K k_X0_workNamed S (n + 1) 28 ls st μ = if 28 ∈ S then mAt X m_X0_workNamed h K 28 ls st μ else bb X P m_X0_workNamed h K (vc X P m_X0_workNamed h K k_X0_workNamed S n) s_X0_workNamed_28 ls st μ := by rw [vc_s, t_X0_workNamed_28]
end
section
variable {X : mC} {P : mP} {h : Nat} {K : MV → Mem → Prop} {J : mJ} {ls : List (Nat × MV)} {st : List MV} {μ : Mem} {S : List Nat} {n : Nat}
theorem w_X3_bringAll_0 : bb X P m_X3_bringAll h K J s_X3_bringAll_0 ls st μ = bb X P m_X3_bringAll h K J ((0, .iconst 0, 1, 0, 0, 0, .inl (nI 0), []) ::
  (1, .istore_n 3, 1, 3, 0, 0, .inl 0, []) :: s_X3_bringAll_2) ls st μ := by rw [s_X3_bringAll_0]
theorem v_X3_bringAll_0 : vc X P m_X3_bringAll h K k_X3_bringAll S (n + 1) 0 ls st μ = if 0 ∈ S then mAt X m_X3_bringAll h K 0 ls st μ else bb X P m_X3_bringAll h K (vc X P m_X3_bringAll h K k_X3_bringAll S n) s_X3_bringAll_0 ls st μ := by rw [vc_s, t_X3_bringAll_0]
theorem w_X3_bringAll_2 : bb X P m_X3_bringAll h K J s_X3_bringAll_2 ls st μ = bb X P m_X3_bringAll h K J ((2, .iload_n 3, 1, 3, 0, 0, .inl 0, []) ::
  (3, .aload_n 0, 1, 0, 0, 0, .inl 0, []) ::
  (4, .getfield 30, 3, 2, 0, 0, .inl 0, [326]) ::
  (7, .if_icmp .ge 50, 3, 57, 0, 0, .inl 0, []) ::
  (10, .aload_n 0, 1, 0, 0, 0, .inl 0, []) ::
  (11, .getfield 11, 3, 2, 1, 3, .inr (.inr (16, 20, 1)), [328]) ::
  (14, .iload_n 3, 1, 3, 0, 0, .inl 0, []) ::
  (15, .iaload, 1, 0, 0, 0, .inl 0, []) ::
  (16, .bipush 8, 2, 0, 0, 0, .inl (nI 8), []) ::
  (18, .if_icmp .ne 33, 3, 51, 0, 0, .inl 0, []) ::
  (21, .aload_n 0, 1, 0, 0, 0, .inl 0, []) ::
  (22, .getfield 24, 3, 2, 5, 3, .inr (.inr (16, 20, 5)), [332]) ::
  (25, .iload_n 3, 1, 3, 0, 0, .inl 0, []) ::
  (26, .iaload, 1, 0, 0, 0, .inl 0, []) ::
  (27, .aload_n 2, 1, 2, 0, 0, .inl 0, []) ::
  (28, .getfield 97, 3, 3, 0, 0, .inl 0, [380]) ::
  (31, .if_icmp .ne 20, 3, 51, 0, 0, .inl 0, []) ::
  (34, .aload_n 2, 1, 2, 0, 0, .inl 0, []) ::
  (35, .aload_n 1, 1, 1, 0, 0, .inl 0, []) ::
  (36, .aload_n 0, 1, 0, 0, 0, .inl 0, []) ::
  (37, .getfield 18, 3, 2, 3, 3, .inr (.inr (16, 20, 3)), [330]) ::
  (40, .iload_n 3, 1, 3, 0, 0, .inl 0, []) ::
  (41, .iaload, 1, 0, 0, 0, .inl 0, []) ::
  (42, .aload_n 0, 1, 0, 0, 0, .inl 0, []) ::
  (43, .getfield 21, 3, 2, 4, 3, .inr (.inr (16, 20, 4)), [331]) ::
  (46, .iload_n 3, 1, 3, 0, 0, .inl 0, []) ::
  (47, .iaload, 1, 0, 0, 0, .inl 0, []) ::
  (48, .invokevirtual 102, 3, 31, 4, 0, .inl 0, [723, 3]) :: s_X3_bringAll_51) ls st μ := by rw [s_X3_bringAll_2]
theorem v_X3_bringAll_2 : vc X P m_X3_bringAll h K k_X3_bringAll S (n + 1) 2 ls st μ = if 2 ∈ S then mAt X m_X3_bringAll h K 2 ls st μ else bb X P m_X3_bringAll h K (vc X P m_X3_bringAll h K k_X3_bringAll S n) s_X3_bringAll_2 ls st μ := by rw [vc_s, t_X3_bringAll_2]
theorem w_X3_bringAll_51 : bb X P m_X3_bringAll h K J s_X3_bringAll_51 ls st μ = bb X P m_X3_bringAll h K J ((51, .iinc 3 1, 3, 3, 0, 0, .inl (nI 1), []) ::
  (54, .goto (-52), 3, 2, 0, 0, .inl 0, []) :: s_X3_bringAll_57) ls st μ := by rw [s_X3_bringAll_51]
theorem v_X3_bringAll_51 : vc X P m_X3_bringAll h K k_X3_bringAll S (n + 1) 51 ls st μ = if 51 ∈ S then mAt X m_X3_bringAll h K 51 ls st μ else bb X P m_X3_bringAll h K (vc X P m_X3_bringAll h K k_X3_bringAll S n) s_X3_bringAll_51 ls st μ := by rw [vc_s, t_X3_bringAll_51]
theorem w_X3_bringAll_57 : bb X P m_X3_bringAll h K J s_X3_bringAll_57 ls st μ = bb X P m_X3_bringAll h K J ((57, .return_, 1, 0, 0, 0, .inl 0, []) :: []) ls st μ := by rw [s_X3_bringAll_57]
theorem v_X3_bringAll_57 : vc X P m_X3_bringAll h K k_X3_bringAll S (n + 1) 57 ls st μ = if 57 ∈ S then mAt X m_X3_bringAll h K 57 ls st μ else bb X P m_X3_bringAll h K (vc X P m_X3_bringAll h K k_X3_bringAll S n) s_X3_bringAll_57 ls st μ := by rw [vc_s, t_X3_bringAll_57]
end
section
variable {X : mC} {P : mP} {h : Nat} {K : MV → Mem → Prop} {J : mJ} {ls : List (Nat × MV)} {st : List MV} {μ : Mem} {S : List Nat} {n : Nat}
theorem w_X3_clear_0 : bb X P m_X3_clear h K J s_X3_clear_0 ls st μ = bb X P m_X3_clear h K J ((0, .aload_n 0, 1, 0, 0, 0, .inl 0, []) ::
  (1, .iconst 0, 1, 0, 0, 0, .inl (nI 0), []) ::
  (2, .putfield 30, 3, 2, 0, 0, .inl 0, [326]) ::
  (5, .return_, 1, 0, 0, 0, .inl 0, []) :: []) ls st μ := by rw [s_X3_clear_0]
theorem v_X3_clear_0 : vc X P m_X3_clear h K k_X3_clear S (n + 1) 0 ls st μ = if 0 ∈ S then mAt X m_X3_clear h K 0 ls st μ else bb X P m_X3_clear h K (vc X P m_X3_clear h K k_X3_clear S n) s_X3_clear_0 ls st μ := by rw [vc_s, t_X3_clear_0]
end
section
variable {X : mC} {P : mP} {h : Nat} {K : MV → Mem → Prop} {J : mJ} {ls : List (Nat × MV)} {st : List MV} {μ : Mem} {S : List Nat} {n : Nat}
theorem w_X3_copyFrom_0 : bb X P m_X3_copyFrom h K J s_X3_copyFrom_0 ls st μ = bb X P m_X3_copyFrom h K J ((0, .aload_n 0, 1, 0, 0, 0, .inl 0, []) ::
  (1, .aload_n 1, 1, 1, 0, 0, .inl 0, []) ::
  (2, .getfield 30, 3, 2, 0, 0, .inl 0, [326]) ::
  (5, .putfield 30, 3, 2, 0, 0, .inl 0, [326]) ::
  (8, .aload_n 1, 1, 1, 0, 0, .inl 0, []) ::
  (9, .getfield 11, 3, 2, 1, 3, .inr (.inr (16, 20, 1)), [328]) ::
  (12, .iconst 0, 1, 0, 0, 0, .inl (nI 0), []) ::
  (13, .aload_n 0, 1, 0, 0, 0, .inl 0, []) ::
  (14, .getfield 11, 3, 2, 1, 3, .inr (.inr (16, 20, 1)), [328]) ::
  (17, .iconst 0, 1, 0, 0, 0, .inl (nI 0), []) ::
  (18, .bipush 20, 2, 0, 0, 0, .inl (nI 20), []) ::
  (20, .invokestatic 34, 3, 0, 5, 9, .inl 0, [840]) ::
  (23, .aload_n 1, 1, 1, 0, 0, .inl 0, []) ::
  (24, .getfield 15, 3, 2, 2, 3, .inr (.inr (16, 20, 2)), [329]) ::
  (27, .iconst 0, 1, 0, 0, 0, .inl (nI 0), []) ::
  (28, .aload_n 0, 1, 0, 0, 0, .inl 0, []) ::
  (29, .getfield 15, 3, 2, 2, 3, .inr (.inr (16, 20, 2)), [329]) ::
  (32, .iconst 0, 1, 0, 0, 0, .inl (nI 0), []) ::
  (33, .bipush 20, 2, 0, 0, 0, .inl (nI 20), []) ::
  (35, .invokestatic 34, 3, 0, 5, 9, .inl 0, [840]) ::
  (38, .aload_n 1, 1, 1, 0, 0, .inl 0, []) ::
  (39, .getfield 18, 3, 2, 3, 3, .inr (.inr (16, 20, 3)), [330]) ::
  (42, .iconst 0, 1, 0, 0, 0, .inl (nI 0), []) ::
  (43, .aload_n 0, 1, 0, 0, 0, .inl 0, []) ::
  (44, .getfield 18, 3, 2, 3, 3, .inr (.inr (16, 20, 3)), [330]) ::
  (47, .iconst 0, 1, 0, 0, 0, .inl (nI 0), []) ::
  (48, .bipush 20, 2, 0, 0, 0, .inl (nI 20), []) ::
  (50, .invokestatic 34, 3, 0, 5, 9, .inl 0, [840]) ::
  (53, .aload_n 1, 1, 1, 0, 0, .inl 0, []) ::
  (54, .getfield 21, 3, 2, 4, 3, .inr (.inr (16, 20, 4)), [331]) ::
  (57, .iconst 0, 1, 0, 0, 0, .inl (nI 0), []) ::
  (58, .aload_n 0, 1, 0, 0, 0, .inl 0, []) ::
  (59, .getfield 21, 3, 2, 4, 3, .inr (.inr (16, 20, 4)), [331]) ::
  (62, .iconst 0, 1, 0, 0, 0, .inl (nI 0), []) ::
  (63, .bipush 20, 2, 0, 0, 0, .inl (nI 20), []) ::
  (65, .invokestatic 34, 3, 0, 5, 9, .inl 0, [840]) ::
  (68, .aload_n 1, 1, 1, 0, 0, .inl 0, []) ::
  (69, .getfield 24, 3, 2, 5, 3, .inr (.inr (16, 20, 5)), [332]) ::
  (72, .iconst 0, 1, 0, 0, 0, .inl (nI 0), []) ::
  (73, .aload_n 0, 1, 0, 0, 0, .inl 0, []) ::
  (74, .getfield 24, 3, 2, 5, 3, .inr (.inr (16, 20, 5)), [332]) ::
  (77, .iconst 0, 1, 0, 0, 0, .inl (nI 0), []) ::
  (78, .bipush 20, 2, 0, 0, 0, .inl (nI 20), []) ::
  (80, .invokestatic 34, 3, 0, 5, 9, .inl 0, [840]) ::
  (83, .aload_n 1, 1, 1, 0, 0, .inl 0, []) ::
  (84, .getfield 27, 3, 2, 6, 3, .inr (.inr (16, 20, 6)), [333]) ::
  (87, .iconst 0, 1, 0, 0, 0, .inl (nI 0), []) ::
  (88, .aload_n 0, 1, 0, 0, 0, .inl 0, []) ::
  (89, .getfield 27, 3, 2, 6, 3, .inr (.inr (16, 20, 6)), [333]) ::
  (92, .iconst 0, 1, 0, 0, 0, .inl (nI 0), []) ::
  (93, .bipush 20, 2, 0, 0, 0, .inl (nI 20), []) ::
  (95, .invokestatic 34, 3, 0, 5, 9, .inl 0, [840]) ::
  (98, .return_, 1, 0, 0, 0, .inl 0, []) :: []) ls st μ := by rw [s_X3_copyFrom_0]
theorem v_X3_copyFrom_0 : vc X P m_X3_copyFrom h K k_X3_copyFrom S (n + 1) 0 ls st μ = if 0 ∈ S then mAt X m_X3_copyFrom h K 0 ls st μ else bb X P m_X3_copyFrom h K (vc X P m_X3_copyFrom h K k_X3_copyFrom S n) s_X3_copyFrom_0 ls st μ := by rw [vc_s, t_X3_copyFrom_0]
end
section
variable {X : mC} {P : mP} {h : Nat} {K : MV → Mem → Prop} {J : mJ} {ls : List (Nat × MV)} {st : List MV} {μ : Mem} {S : List Nat} {n : Nat}
theorem w_X3_readBring_0 : bb X P m_X3_readBring h K J s_X3_readBring_0 ls st μ = bb X P m_X3_readBring h K J ((0, .aload_n 2, 1, 2, 0, 0, .inl 0, []) ::
  (1, .aload_n 1, 1, 1, 0, 0, .inl 0, []) ::
  (2, .invokevirtual 91, 3, 20, 2, 1, .inl 0, [834, 0]) ::
  (5, .istore_n 3, 1, 3, 0, 0, .inl 0, []) ::
  (6, .iload_n 3, 1, 3, 0, 0, .inl 0, []) ::
  (7, .iconst (-1), 1, 0, 0, 0, .inl (-1), []) ::
  (8, .if_icmp .ne 5, 3, 13, 0, 0, .inl 0, []) ::
  (11, .iconst 0, 1, 0, 0, 0, .inl (nI 0), []) ::
  (12, .ireturn, 1, 1, 0, 0, .inl 0, []) :: s_X3_readBring_13) ls st μ := by rw [s_X3_readBring_0]
theorem v_X3_readBring_0 : vc X P m_X3_readBring h K k_X3_readBring S (n + 1) 0 ls st μ = if 0 ∈ S then mAt X m_X3_readBring h K 0 ls st μ else bb X P m_X3_readBring h K (vc X P m_X3_readBring h K k_X3_readBring S n) s_X3_readBring_0 ls st μ := by rw [vc_s, t_X3_readBring_0]
theorem w_X3_readBring_13 : bb X P m_X3_readBring h K J s_X3_readBring_13 ls st μ = bb X P m_X3_readBring h K J ((13, .aload_n 2, 1, 2, 0, 0, .inl 0, []) ::
  (14, .getfield 94, 3, 0, 10, 3, .inr (.inr (16, 48, 7)), [273]) ::
  (17, .iload_n 3, 1, 3, 0, 0, .inl 0, []) ::
  (18, .iaload, 1, 0, 0, 0, .inl 0, []) ::
  (19, .ifCond .ne 9, 3, 28, 0, 0, .inl 0, []) ::
  (22, .aload_n 1, 1, 1, 0, 0, .inl 0, []) ::
  (23, .iconst 3, 1, 0, 0, 0, .inl (nI 3), []) ::
  (24, .invokevirtual 65, 3, 62, 2, 1, .inl 0, [822, 5]) ::
  (27, .ireturn, 1, 1, 0, 0, .inl 0, []) :: s_X3_readBring_28) ls st μ := by rw [s_X3_readBring_13]
theorem v_X3_readBring_13 : vc X P m_X3_readBring h K k_X3_readBring S (n + 1) 13 ls st μ = if 13 ∈ S then mAt X m_X3_readBring h K 13 ls st μ else bb X P m_X3_readBring h K (vc X P m_X3_readBring h K k_X3_readBring S n) s_X3_readBring_13 ls st μ := by rw [vc_s, t_X3_readBring_13]
theorem w_X3_readBring_28 : bb X P m_X3_readBring h K J s_X3_readBring_28 ls st μ = bb X P m_X3_readBring h K J ((28, .aload_n 0, 1, 0, 0, 0, .inl 0, []) ::
  (29, .getfield 18, 3, 2, 3, 3, .inr (.inr (16, 20, 3)), [330]) ::
  (32, .aload_n 0, 1, 0, 0, 0, .inl 0, []) ::
  (33, .getfield 30, 3, 2, 0, 0, .inl 0, [326]) ::
  (36, .iload_n 3, 1, 3, 0, 0, .inl 0, []) ::
  (37, .iastore, 1, 0, 0, 0, .inl 0, []) ::
  (38, .aload_n 1, 1, 1, 0, 0, .inl 0, []) ::
  (39, .invokevirtual 75, 3, 61, 1, 0, .inl 0, [827, 5]) ::
  (42, .aload_n 1, 1, 1, 0, 0, .inl 0, []) ::
  (43, .iconst 1, 1, 0, 0, 0, .inl (nI 1), []) ::
  (44, .bipush 99, 2, 0, 0, 0, .inl (nI 99), []) ::
  (46, .invokevirtual 84, 3, 70, 3, 1, .inl 0, [829, 5]) ::
  (49, .ifCond .ne 5, 3, 54, 0, 0, .inl 0, []) ::
  (52, .iconst 0, 1, 0, 0, 0, .inl (nI 0), []) ::
  (53, .ireturn, 1, 1, 0, 0, .inl 0, []) :: s_X3_readBring_54) ls st μ := by rw [s_X3_readBring_28]
theorem v_X3_readBring_28 : vc X P m_X3_readBring h K k_X3_readBring S (n + 1) 28 ls st μ = if 28 ∈ S then mAt X m_X3_readBring h K 28 ls st μ else bb X P m_X3_readBring h K (vc X P m_X3_readBring h K k_X3_readBring S n) s_X3_readBring_28 ls st μ := by rw [vc_s, t_X3_readBring_28]
theorem w_X3_readBring_54 : bb X P m_X3_readBring h K J s_X3_readBring_54 ls st μ = bb X P m_X3_readBring h K J ((54, .aload_n 0, 1, 0, 0, 0, .inl 0, []) ::
  (55, .getfield 21, 3, 2, 4, 3, .inr (.inr (16, 20, 4)), [331]) ::
  (58, .aload_n 0, 1, 0, 0, 0, .inl 0, []) ::
  (59, .getfield 30, 3, 2, 0, 0, .inl 0, [326]) ::
  (62, .aload_n 1, 1, 1, 0, 0, .inl 0, []) ::
  (63, .getfield 88, 3, 5, 9, 0, .inl 0, [205]) ::
  (66, .iastore, 1, 0, 0, 0, .inl 0, []) ::
  (67, .aload_n 1, 1, 1, 0, 0, .inl 0, []) ::
  (68, .iconst 0, 1, 0, 0, 0, .inl (nI 0), []) ::
  (69, .sipush 199, 3, 0, 0, 0, .inl (nI 199), []) ::
  (72, .invokevirtual 84, 3, 70, 3, 1, .inl 0, [829, 5]) ::
  (75, .ifCond .ne 5, 3, 80, 0, 0, .inl 0, []) ::
  (78, .iconst 0, 1, 0, 0, 0, .inl (nI 0), []) ::
  (79, .ireturn, 1, 1, 0, 0, .inl 0, []) :: s_X3_readBring_80) ls st μ := by rw [s_X3_readBring_54]
theorem v_X3_readBring_54 : vc X P m_X3_readBring h K k_X3_readBring S (n + 1) 54 ls st μ = if 54 ∈ S then mAt X m_X3_readBring h K 54 ls st μ else bb X P m_X3_readBring h K (vc X P m_X3_readBring h K k_X3_readBring S n) s_X3_readBring_54 ls st μ := by rw [vc_s, t_X3_readBring_54]
theorem w_X3_readBring_80 : bb X P m_X3_readBring h K J s_X3_readBring_80 ls st μ = bb X P m_X3_readBring h K J ((80, .aload_n 0, 1, 0, 0, 0, .inl 0, []) ::
  (81, .getfield 24, 3, 2, 5, 3, .inr (.inr (16, 20, 5)), [332]) ::
  (84, .aload_n 0, 1, 0, 0, 0, .inl 0, []) ::
  (85, .getfield 30, 3, 2, 0, 0, .inl 0, [326]) ::
  (88, .aload_n 1, 1, 1, 0, 0, .inl 0, []) ::
  (89, .getfield 88, 3, 5, 9, 0, .inl 0, [205]) ::
  (92, .iastore, 1, 0, 0, 0, .inl 0, []) ::
  (93, .iconst 1, 1, 0, 0, 0, .inl (nI 1), []) ::
  (94, .ireturn, 1, 1, 0, 0, .inl 0, []) :: []) ls st μ := by rw [s_X3_readBring_80]
theorem v_X3_readBring_80 : vc X P m_X3_readBring h K k_X3_readBring S (n + 1) 80 ls st μ = if 80 ∈ S then mAt X m_X3_readBring h K 80 ls st μ else bb X P m_X3_readBring h K (vc X P m_X3_readBring h K k_X3_readBring S n) s_X3_readBring_80 ls st μ := by rw [vc_s, t_X3_readBring_80]
end
section
variable {X : mC} {P : mP} {h : Nat} {K : MV → Mem → Prop} {J : mJ} {ls : List (Nat × MV)} {st : List MV} {μ : Mem} {S : List Nat} {n : Nat}
theorem w_X3_readFrom_0 : bb X P m_X3_readFrom h K J s_X3_readFrom_0 ls st μ = bb X P m_X3_readFrom h K J ((0, .aload_n 0, 1, 0, 0, 0, .inl 0, []) ::
  (1, .invokevirtual 40, 3, 23, 1, 0, .inl 0, [816, 2]) ::
  (4, .aload_n 1, 1, 1, 0, 0, .inl 0, []) ::
  (5, .sipush 300, 3, 0, 0, 0, .inl (nI 300), []) ::
  (8, .invokevirtual 43, 3, 67, 2, 0, .inl 0, [817, 5]) :: s_X3_readFrom_11) ls st μ := by rw [s_X3_readFrom_0]
theorem v_X3_readFrom_0 : vc X P m_X3_readFrom h K k_X3_readFrom S (n + 1) 0 ls st μ = if 0 ∈ S then mAt X m_X3_readFrom h K 0 ls st μ else bb X P m_X3_readFrom h K (vc X P m_X3_readFrom h K k_X3_readFrom S n) s_X3_readFrom_0 ls st μ := by rw [vc_s, t_X3_readFrom_0]
theorem w_X3_readFrom_11 : bb X P m_X3_readFrom h K J s_X3_readFrom_11 ls st μ = bb X P m_X3_readFrom h K J ((11, .aload_n 1, 1, 1, 0, 0, .inl 0, []) ::
  (12, .getfield 49, 3, 5, 5, 0, .inl 0, [192]) ::
  (15, .ifCond .eq 45, 3, 60, 0, 0, .inl 0, []) ::
  (18, .aload_n 0, 1, 0, 0, 0, .inl 0, []) ::
  (19, .getfield 30, 3, 2, 0, 0, .inl 0, [326]) ::
  (22, .bipush 20, 2, 0, 0, 0, .inl (nI 20), []) ::
  (24, .if_icmp .gt 36, 3, 60, 0, 0, .inl 0, []) ::
  (27, .aload_n 0, 1, 0, 0, 0, .inl 0, []) ::
  (28, .aload_n 1, 1, 1, 0, 0, .inl 0, []) ::
  (29, .aload_n 2, 1, 2, 0, 0, .inl 0, []) ::
  (30, .invokevirtual 52, 3, 27, 3, 1, .inl 0, [818, 2]) ::
  (33, .ifCond .eq 12, 3, 45, 0, 0, .inl 0, []) ::
  (36, .aload_n 1, 1, 1, 0, 0, .inl 0, []) ::
  (37, .bipush 59, 2, 0, 0, 0, .inl (nI 59), []) ::
  (39, .invokevirtual 56, 3, 71, 2, 1, .inl 0, [835, 5]) ::
  (42, .ifCond .ne 5, 3, 47, 0, 0, .inl 0, []) :: s_X3_readFrom_45) ls st μ := by rw [s_X3_readFrom_11]
theorem v_X3_readFrom_11 : vc X P m_X3_readFrom h K k_X3_readFrom S (n + 1) 11 ls st μ = if 11 ∈ S then mAt X m_X3_readFrom h K 11 ls st μ else bb X P m_X3_readFrom h K (vc X P m_X3_readFrom h K k_X3_readFrom S n) s_X3_readFrom_11 ls st μ := by rw [vc_s, t_X3_readFrom_11]
theorem w_X3_readFrom_45 : bb X P m_X3_readFrom h K J s_X3_readFrom_45 ls st μ = bb X P m_X3_readFrom h K J ((45, .iconst 0, 1, 0, 0, 0, .inl (nI 0), []) ::
  (46, .ireturn, 1, 1, 0, 0, .inl 0, []) :: s_X3_readFrom_47) ls st μ := by rw [s_X3_readFrom_45]
theorem v_X3_readFrom_45 : vc X P m_X3_readFrom h K k_X3_readFrom S (n + 1) 45 ls st μ = if 45 ∈ S then mAt X m_X3_readFrom h K 45 ls st μ else bb X P m_X3_readFrom h K (vc X P m_X3_readFrom h K k_X3_readFrom S n) s_X3_readFrom_45 ls st μ := by rw [vc_s, t_X3_readFrom_45]
theorem w_X3_readFrom_47 : bb X P m_X3_readFrom h K J s_X3_readFrom_47 ls st μ = bb X P m_X3_readFrom h K J ((47, .aload_n 0, 1, 0, 0, 0, .inl 0, []) ::
  (48, .dup, 1, 0, 0, 0, .inl 0, []) ::
  (49, .getfield 30, 3, 2, 0, 0, .inl 0, [326]) ::
  (52, .iconst 1, 1, 0, 0, 0, .inl (nI 1), []) ::
  (53, .iadd, 1, 0, 0, 0, .inl 0, []) ::
  (54, .putfield 30, 3, 2, 0, 0, .inl 0, [326]) ::
  (57, .goto (-46), 3, 11, 0, 0, .inl 0, []) :: s_X3_readFrom_60) ls st μ := by rw [s_X3_readFrom_47]
theorem v_X3_readFrom_47 : vc X P m_X3_readFrom h K k_X3_readFrom S (n + 1) 47 ls st μ = if 47 ∈ S then mAt X m_X3_readFrom h K 47 ls st μ else bb X P m_X3_readFrom h K (vc X P m_X3_readFrom h K k_X3_readFrom S n) s_X3_readFrom_47 ls st μ := by rw [vc_s, t_X3_readFrom_47]
theorem w_X3_readFrom_60 : bb X P m_X3_readFrom h K J s_X3_readFrom_60 ls st μ = bb X P m_X3_readFrom h K J ((60, .iconst 1, 1, 0, 0, 0, .inl (nI 1), []) ::
  (61, .ireturn, 1, 1, 0, 0, .inl 0, []) :: []) ls st μ := by rw [s_X3_readFrom_60]
theorem v_X3_readFrom_60 : vc X P m_X3_readFrom h K k_X3_readFrom S (n + 1) 60 ls st μ = if 60 ∈ S then mAt X m_X3_readFrom h K 60 ls st μ else bb X P m_X3_readFrom h K (vc X P m_X3_readFrom h K k_X3_readFrom S n) s_X3_readFrom_60 ls st μ := by rw [vc_s, t_X3_readFrom_60]
end
section
variable {X : mC} {P : mP} {h : Nat} {K : MV → Mem → Prop} {J : mJ} {ls : List (Nat × MV)} {st : List MV} {μ : Mem} {S : List Nat} {n : Nat}
theorem w_X3_readLine_0 : bb X P m_X3_readLine h K J s_X3_readLine_0 ls st μ = bb X P m_X3_readLine h K J ((0, .aload_n 1, 1, 1, 0, 0, .inl 0, []) ::
  (1, .getfield 60, 3, 5, 8, 0, .inl 0, [200]) ::
  (4, .bipush 7, 2, 0, 0, 0, .inl (nI 7), []) ::
  (6, .if_icmp .eq 18, 3, 24, 0, 0, .inl 0, []) ::
  (9, .aload_n 1, 1, 1, 0, 0, .inl 0, []) ::
  (10, .getfield 60, 3, 5, 8, 0, .inl 0, [200]) ::
  (13, .bipush 8, 2, 0, 0, 0, .inl (nI 8), []) ::
  (15, .if_icmp .eq 9, 3, 24, 0, 0, .inl 0, []) ::
  (18, .aload_n 1, 1, 1, 0, 0, .inl 0, []) ::
  (19, .iconst 1, 1, 0, 0, 0, .inl (nI 1), []) ::
  (20, .invokevirtual 65, 3, 62, 2, 1, .inl 0, [822, 5]) ::
  (23, .ireturn, 1, 1, 0, 0, .inl 0, []) :: s_X3_readLine_24) ls st μ := by rw [s_X3_readLine_0]
theorem v_X3_readLine_0 : vc X P m_X3_readLine h K k_X3_readLine S (n + 1) 0 ls st μ = if 0 ∈ S then mAt X m_X3_readLine h K 0 ls st μ else bb X P m_X3_readLine h K (vc X P m_X3_readLine h K k_X3_readLine S n) s_X3_readLine_0 ls st μ := by rw [vc_s, t_X3_readLine_0]
theorem w_X3_readLine_24 : bb X P m_X3_readLine h K J s_X3_readLine_24 ls st μ = bb X P m_X3_readLine h K J ((24, .aload_n 0, 1, 0, 0, 0, .inl 0, []) ::
  (25, .getfield 30, 3, 2, 0, 0, .inl 0, [326]) ::
  (28, .bipush 20, 2, 0, 0, 0, .inl (nI 20), []) ::
  (30, .if_icmp .lt 9, 3, 39, 0, 0, .inl 0, []) ::
  (33, .aload_n 1, 1, 1, 0, 0, .inl 0, []) ::
  (34, .iconst 4, 1, 0, 0, 0, .inl (nI 4), []) ::
  (35, .invokevirtual 65, 3, 62, 2, 1, .inl 0, [822, 5]) ::
  (38, .ireturn, 1, 1, 0, 0, .inl 0, []) :: s_X3_readLine_39) ls st μ := by rw [s_X3_readLine_24]
theorem v_X3_readLine_24 : vc X P m_X3_readLine h K k_X3_readLine S (n + 1) 24 ls st μ = if 24 ∈ S then mAt X m_X3_readLine h K 24 ls st μ else bb X P m_X3_readLine h K (vc X P m_X3_readLine h K k_X3_readLine S n) s_X3_readLine_24 ls st μ := by rw [vc_s, t_X3_readLine_24]
theorem w_X3_readLine_39 : bb X P m_X3_readLine h K J s_X3_readLine_39 ls st μ = bb X P m_X3_readLine h K J ((39, .aload_n 0, 1, 0, 0, 0, .inl 0, []) ::
  (40, .getfield 11, 3, 2, 1, 3, .inr (.inr (16, 20, 1)), [328]) ::
  (43, .aload_n 0, 1, 0, 0, 0, .inl 0, []) ::
  (44, .getfield 30, 3, 2, 0, 0, .inl 0, [326]) ::
  (47, .aload_n 1, 1, 1, 0, 0, .inl 0, []) ::
  (48, .getfield 60, 3, 5, 8, 0, .inl 0, [200]) ::
  (51, .iastore, 1, 0, 0, 0, .inl 0, []) ::
  (52, .aload_n 0, 1, 0, 0, 0, .inl 0, []) ::
  (53, .getfield 11, 3, 2, 1, 3, .inr (.inr (16, 20, 1)), [328]) ::
  (56, .aload_n 0, 1, 0, 0, 0, .inl 0, []) ::
  (57, .getfield 30, 3, 2, 0, 0, .inl 0, [326]) ::
  (60, .iaload, 1, 0, 0, 0, .inl 0, []) ::
  (61, .bipush 7, 2, 0, 0, 0, .inl (nI 7), []) ::
  (63, .if_icmp .ne 12, 3, 75, 0, 0, .inl 0, []) ::
  (66, .aload_n 0, 1, 0, 0, 0, .inl 0, []) ::
  (67, .aload_n 1, 1, 1, 0, 0, .inl 0, []) ::
  (68, .aload_n 2, 1, 2, 0, 0, .inl 0, []) ::
  (69, .invokevirtual 69, 3, 28, 3, 1, .inl 0, [823, 2]) ::
  (72, .goto 9, 3, 81, 0, 0, .inl 0, []) :: s_X3_readLine_75) ls st μ := by rw [s_X3_readLine_39]
theorem v_X3_readLine_39 : vc X P m_X3_readLine h K k_X3_readLine S (n + 1) 39 ls st μ = if 39 ∈ S then mAt X m_X3_readLine h K 39 ls st μ else bb X P m_X3_readLine h K (vc X P m_X3_readLine h K k_X3_readLine S n) s_X3_readLine_39 ls st μ := by rw [vc_s, t_X3_readLine_39]
theorem w_X3_readLine_75 : bb X P m_X3_readLine h K J s_X3_readLine_75 ls st μ = bb X P m_X3_readLine h K J ((75, .aload_n 0, 1, 0, 0, 0, .inl 0, []) ::
  (76, .aload_n 1, 1, 1, 0, 0, .inl 0, []) ::
  (77, .aload_n 2, 1, 2, 0, 0, .inl 0, []) ::
  (78, .invokevirtual 72, 3, 25, 3, 1, .inl 0, [830, 2]) :: s_X3_readLine_81) ls st μ := by rw [s_X3_readLine_75]
theorem v_X3_readLine_75 : vc X P m_X3_readLine h K k_X3_readLine S (n + 1) 75 ls st μ = if 75 ∈ S then mAt X m_X3_readLine h K 75 ls st μ else bb X P m_X3_readLine h K (vc X P m_X3_readLine h K k_X3_readLine S n) s_X3_readLine_75 ls st μ := by rw [vc_s, t_X3_readLine_75]
theorem w_X3_readLine_81 : bb X P m_X3_readLine h K J s_X3_readLine_81 ls st μ = bb X P m_X3_readLine h K J ((81, .ireturn, 1, 1, 0, 0, .inl 0, []) :: []) ls st μ := by rw [s_X3_readLine_81]
theorem v_X3_readLine_81 : vc X P m_X3_readLine h K k_X3_readLine S (n + 1) 81 ls st μ = if 81 ∈ S then mAt X m_X3_readLine h K 81 ls st μ else bb X P m_X3_readLine h K (vc X P m_X3_readLine h K k_X3_readLine S n) s_X3_readLine_81 ls st μ := by rw [vc_s, t_X3_readLine_81]
end
section
variable {X : mC} {P : mP} {h : Nat} {K : MV → Mem → Prop} {J : mJ} {ls : List (Nat × MV)} {st : List MV} {μ : Mem} {S : List Nat} {n : Nat}
theorem w_X3_readStop_0 : bb X P m_X3_readStop h K J s_X3_readStop_0 ls st μ = bb X P m_X3_readStop h K J ((0, .aload_n 1, 1, 1, 0, 0, .inl 0, []) ::
  (1, .invokevirtual 75, 3, 61, 1, 0, .inl 0, [827, 5]) ::
  (4, .aload_n 0, 1, 0, 0, 0, .inl 0, []) ::
  (5, .getfield 15, 3, 2, 2, 3, .inr (.inr (16, 20, 2)), [329]) ::
  (8, .aload_n 0, 1, 0, 0, 0, .inl 0, []) ::
  (9, .getfield 30, 3, 2, 0, 0, .inl 0, [326]) ::
  (12, .aload_n 2, 1, 2, 0, 0, .inl 0, []) ::
  (13, .aload_n 1, 1, 1, 0, 0, .inl 0, []) ::
  (14, .invokevirtual 78, 3, 8, 2, 1, .inl 0, [828, 0]) ::
  (17, .iastore, 1, 0, 0, 0, .inl 0, []) ::
  (18, .aload_n 0, 1, 0, 0, 0, .inl 0, []) ::
  (19, .getfield 15, 3, 2, 2, 3, .inr (.inr (16, 20, 2)), [329]) ::
  (22, .aload_n 0, 1, 0, 0, 0, .inl 0, []) ::
  (23, .getfield 30, 3, 2, 0, 0, .inl 0, [326]) ::
  (26, .iaload, 1, 0, 0, 0, .inl 0, []) ::
  (27, .iconst (-1), 1, 0, 0, 0, .inl (-1), []) ::
  (28, .if_icmp .ne 5, 3, 33, 0, 0, .inl 0, []) ::
  (31, .iconst 0, 1, 0, 0, 0, .inl (nI 0), []) ::
  (32, .ireturn, 1, 1, 0, 0, .inl 0, []) :: s_X3_readStop_33) ls st μ := by rw [s_X3_readStop_0]
theorem v_X3_readStop_0 : vc X P m_X3_readStop h K k_X3_readStop S (n + 1) 0 ls st μ = if 0 ∈ S then mAt X m_X3_readStop h K 0 ls st μ else bb X P m_X3_readStop h K (vc X P m_X3_readStop h K k_X3_readStop S n) s_X3_readStop_0 ls st μ := by rw [vc_s, t_X3_readStop_0]
theorem w_X3_readStop_33 : bb X P m_X3_readStop h K J s_X3_readStop_33 ls st μ = bb X P m_X3_readStop h K J ((33, .aload_n 1, 1, 1, 0, 0, .inl 0, []) ::
  (34, .invokevirtual 75, 3, 61, 1, 0, .inl 0, [827, 5]) ::
  (37, .aload_n 1, 1, 1, 0, 0, .inl 0, []) ::
  (38, .iconst 0, 1, 0, 0, 0, .inl (nI 0), []) ::
  (39, .sipush 199, 3, 0, 0, 0, .inl (nI 199), []) ::
  (42, .invokevirtual 84, 3, 70, 3, 1, .inl 0, [829, 5]) ::
  (45, .ifCond .ne 5, 3, 50, 0, 0, .inl 0, []) ::
  (48, .iconst 0, 1, 0, 0, 0, .inl (nI 0), []) ::
  (49, .ireturn, 1, 1, 0, 0, .inl 0, []) :: s_X3_readStop_50) ls st μ := by rw [s_X3_readStop_33]
theorem v_X3_readStop_33 : vc X P m_X3_readStop h K k_X3_readStop S (n + 1) 33 ls st μ = if 33 ∈ S then mAt X m_X3_readStop h K 33 ls st μ else bb X P m_X3_readStop h K (vc X P m_X3_readStop h K k_X3_readStop S n) s_X3_readStop_33 ls st μ := by rw [vc_s, t_X3_readStop_33]
theorem w_X3_readStop_50 : bb X P m_X3_readStop h K J s_X3_readStop_50 ls st μ = bb X P m_X3_readStop h K J ((50, .aload_n 0, 1, 0, 0, 0, .inl 0, []) ::
  (51, .getfield 24, 3, 2, 5, 3, .inr (.inr (16, 20, 5)), [332]) ::
  (54, .aload_n 0, 1, 0, 0, 0, .inl 0, []) ::
  (55, .getfield 30, 3, 2, 0, 0, .inl 0, [326]) ::
  (58, .aload_n 1, 1, 1, 0, 0, .inl 0, []) ::
  (59, .getfield 88, 3, 5, 9, 0, .inl 0, [205]) ::
  (62, .iastore, 1, 0, 0, 0, .inl 0, []) ::
  (63, .aload_n 1, 1, 1, 0, 0, .inl 0, []) ::
  (64, .aload_n 0, 1, 0, 0, 0, .inl 0, []) ::
  (65, .getfield 24, 3, 2, 5, 3, .inr (.inr (16, 20, 5)), [332]) ::
  (68, .aload_n 0, 1, 0, 0, 0, .inl 0, []) ::
  (69, .getfield 30, 3, 2, 0, 0, .inl 0, [326]) ::
  (72, .iaload, 1, 0, 0, 0, .inl 0, []) ::
  (73, .sipush 199, 3, 0, 0, 0, .inl (nI 199), []) ::
  (76, .invokevirtual 84, 3, 70, 3, 1, .inl 0, [829, 5]) ::
  (79, .ifCond .ne 5, 3, 84, 0, 0, .inl 0, []) ::
  (82, .iconst 0, 1, 0, 0, 0, .inl (nI 0), []) ::
  (83, .ireturn, 1, 1, 0, 0, .inl 0, []) :: s_X3_readStop_84) ls st μ := by rw [s_X3_readStop_50]
theorem v_X3_readStop_50 : vc X P m_X3_readStop h K k_X3_readStop S (n + 1) 50 ls st μ = if 50 ∈ S then mAt X m_X3_readStop h K 50 ls st μ else bb X P m_X3_readStop h K (vc X P m_X3_readStop h K k_X3_readStop S n) s_X3_readStop_50 ls st μ := by rw [vc_s, t_X3_readStop_50]
theorem w_X3_readStop_84 : bb X P m_X3_readStop h K J s_X3_readStop_84 ls st μ = bb X P m_X3_readStop h K J ((84, .aload_n 0, 1, 0, 0, 0, .inl 0, []) ::
  (85, .getfield 27, 3, 2, 6, 3, .inr (.inr (16, 20, 6)), [333]) ::
  (88, .aload_n 0, 1, 0, 0, 0, .inl 0, []) ::
  (89, .getfield 30, 3, 2, 0, 0, .inl 0, [326]) ::
  (92, .aload_n 1, 1, 1, 0, 0, .inl 0, []) ::
  (93, .getfield 88, 3, 5, 9, 0, .inl 0, [205]) ::
  (96, .iastore, 1, 0, 0, 0, .inl 0, []) ::
  (97, .iconst 1, 1, 0, 0, 0, .inl (nI 1), []) ::
  (98, .ireturn, 1, 1, 0, 0, .inl 0, []) :: []) ls st μ := by rw [s_X3_readStop_84]
theorem v_X3_readStop_84 : vc X P m_X3_readStop h K k_X3_readStop S (n + 1) 84 ls st μ = if 84 ∈ S then mAt X m_X3_readStop h K 84 ls st μ else bb X P m_X3_readStop h K (vc X P m_X3_readStop h K k_X3_readStop S n) s_X3_readStop_84 ls st μ := by rw [vc_s, t_X3_readStop_84]
end
section
variable {X : mC} {P : mP} {h : Nat} {K : MV → Mem → Prop} {J : mJ} {ls : List (Nat × MV)} {st : List MV} {μ : Mem} {S : List Nat} {n : Nat}
theorem w_X3_stoppedAt_0 : bb X P m_X3_stoppedAt h K J s_X3_stoppedAt_0 ls st μ = bb X P m_X3_stoppedAt h K J ((0, .iconst 0, 1, 0, 0, 0, .inl (nI 0), []) ::
  (1, .istore_n 2, 1, 2, 0, 0, .inl 0, []) ::
  (2, .iconst 0, 1, 0, 0, 0, .inl (nI 0), []) ::
  (3, .istore_n 3, 1, 3, 0, 0, .inl 0, []) :: s_X3_stoppedAt_4) ls st μ := by rw [s_X3_stoppedAt_0]
theorem v_X3_stoppedAt_0 : vc X P m_X3_stoppedAt h K k_X3_stoppedAt S (n + 1) 0 ls st μ = if 0 ∈ S then mAt X m_X3_stoppedAt h K 0 ls st μ else bb X P m_X3_stoppedAt h K (vc X P m_X3_stoppedAt h K k_X3_stoppedAt S n) s_X3_stoppedAt_0 ls st μ := by rw [vc_s, t_X3_stoppedAt_0]
theorem w_X3_stoppedAt_4 : bb X P m_X3_stoppedAt h K J s_X3_stoppedAt_4 ls st μ = bb X P m_X3_stoppedAt h K J ((4, .iload_n 3, 1, 3, 0, 0, .inl 0, []) ::
  (5, .aload_n 0, 1, 0, 0, 0, .inl 0, []) ::
  (6, .getfield 30, 3, 2, 0, 0, .inl 0, [326]) ::
  (9, .if_icmp .ge 63, 3, 72, 0, 0, .inl 0, []) ::
  (12, .aload_n 0, 1, 0, 0, 0, .inl 0, []) ::
  (13, .getfield 24, 3, 2, 5, 3, .inr (.inr (16, 20, 5)), [332]) ::
  (16, .iload_n 3, 1, 3, 0, 0, .inl 0, []) ::
  (17, .iaload, 1, 0, 0, 0, .inl 0, []) ::
  (18, .iload_n 1, 1, 1, 0, 0, .inl 0, []) ::
  (19, .if_icmp .gt 17, 3, 36, 0, 0, .inl 0, []) ::
  (22, .iload_n 1, 1, 1, 0, 0, .inl 0, []) ::
  (23, .aload_n 0, 1, 0, 0, 0, .inl 0, []) ::
  (24, .getfield 27, 3, 2, 6, 3, .inr (.inr (16, 20, 6)), [333]) ::
  (27, .iload_n 3, 1, 3, 0, 0, .inl 0, []) ::
  (28, .iaload, 1, 0, 0, 0, .inl 0, []) ::
  (29, .if_icmp .gt 7, 3, 36, 0, 0, .inl 0, []) ::
  (32, .iconst 1, 1, 0, 0, 0, .inl (nI 1), []) ::
  (33, .goto 4, 3, 37, 0, 0, .inl 0, []) :: s_X3_stoppedAt_36) ls st μ := by rw [s_X3_stoppedAt_4]
theorem v_X3_stoppedAt_4 : vc X P m_X3_stoppedAt h K k_X3_stoppedAt S (n + 1) 4 ls st μ = if 4 ∈ S then mAt X m_X3_stoppedAt h K 4 ls st μ else bb X P m_X3_stoppedAt h K (vc X P m_X3_stoppedAt h K k_X3_stoppedAt S n) s_X3_stoppedAt_4 ls st μ := by rw [vc_s, t_X3_stoppedAt_4]
theorem w_X3_stoppedAt_36 : bb X P m_X3_stoppedAt h K J s_X3_stoppedAt_36 ls st μ = bb X P m_X3_stoppedAt h K J ((36, .iconst 0, 1, 0, 0, 0, .inl (nI 0), []) :: s_X3_stoppedAt_37) ls st μ := by rw [s_X3_stoppedAt_36]
theorem v_X3_stoppedAt_36 : vc X P m_X3_stoppedAt h K k_X3_stoppedAt S (n + 1) 36 ls st μ = if 36 ∈ S then mAt X m_X3_stoppedAt h K 36 ls st μ else bb X P m_X3_stoppedAt h K (vc X P m_X3_stoppedAt h K k_X3_stoppedAt S n) s_X3_stoppedAt_36 ls st μ := by rw [vc_s, t_X3_stoppedAt_36]
theorem w_X3_stoppedAt_37 : bb X P m_X3_stoppedAt h K J s_X3_stoppedAt_37 ls st μ = bb X P m_X3_stoppedAt h K J ((37, .istore 4, 2, 4, 0, 0, .inl 0, []) ::
  (39, .aload_n 0, 1, 0, 0, 0, .inl 0, []) ::
  (40, .getfield 11, 3, 2, 1, 3, .inr (.inr (16, 20, 1)), [328]) ::
  (43, .iload_n 3, 1, 3, 0, 0, .inl 0, []) ::
  (44, .iaload, 1, 0, 0, 0, .inl 0, []) ::
  (45, .bipush 7, 2, 0, 0, 0, .inl (nI 7), []) ::
  (47, .if_icmp .ne 19, 3, 66, 0, 0, .inl 0, []) ::
  (50, .iload 4, 2, 4, 0, 0, .inl 0, []) ::
  (52, .ifCond .eq 14, 3, 66, 0, 0, .inl 0, []) ::
  (55, .iload_n 2, 1, 2, 0, 0, .inl 0, []) ::
  (56, .iconst 1, 1, 0, 0, 0, .inl (nI 1), []) ::
  (57, .aload_n 0, 1, 0, 0, 0, .inl 0, []) ::
  (58, .getfield 15, 3, 2, 2, 3, .inr (.inr (16, 20, 2)), [329]) ::
  (61, .iload_n 3, 1, 3, 0, 0, .inl 0, []) ::
  (62, .iaload, 1, 0, 0, 0, .inl 0, []) ::
  (63, .ishl, 1, 0, 0, 0, .inl 0, []) ::
  (64, .ior, 1, 0, 0, 0, .inl 0, []) ::
  (65, .istore_n 2, 1, 2, 0, 0, .inl 0, []) :: s_X3_stoppedAt_66) ls st μ := by rw [s_X3_stoppedAt_37]
theorem v_X3_stoppedAt_37 : vc X P m_X3_stoppedAt h K k_X3_stoppedAt S (n + 1) 37 ls st μ = if 37 ∈ S then mAt X m_X3_stoppedAt h K 37 ls st μ else bb X P m_X3_stoppedAt h K (vc X P m_X3_stoppedAt h K k_X3_stoppedAt S n) s_X3_stoppedAt_37 ls st μ := by rw [vc_s, t_X3_stoppedAt_37]
theorem w_X3_stoppedAt_66 : bb X P m_X3_stoppedAt h K J s_X3_stoppedAt_66 ls st μ = bb X P m_X3_stoppedAt h K J ((66, .iinc 3 1, 3, 3, 0, 0, .inl (nI 1), []) ::
  (69, .goto (-65), 3, 4, 0, 0, .inl 0, []) :: s_X3_stoppedAt_72) ls st μ := by rw [s_X3_stoppedAt_66]
theorem v_X3_stoppedAt_66 : vc X P m_X3_stoppedAt h K k_X3_stoppedAt S (n + 1) 66 ls st μ = if 66 ∈ S then mAt X m_X3_stoppedAt h K 66 ls st μ else bb X P m_X3_stoppedAt h K (vc X P m_X3_stoppedAt h K k_X3_stoppedAt S n) s_X3_stoppedAt_66 ls st μ := by rw [vc_s, t_X3_stoppedAt_66]
theorem w_X3_stoppedAt_72 : bb X P m_X3_stoppedAt h K J s_X3_stoppedAt_72 ls st μ = bb X P m_X3_stoppedAt h K J ((72, .iload_n 2, 1, 2, 0, 0, .inl 0, []) ::
  (73, .ireturn, 1, 0, 0, 0, .inl 0, []) :: []) ls st μ := by rw [s_X3_stoppedAt_72]
theorem v_X3_stoppedAt_72 : vc X P m_X3_stoppedAt h K k_X3_stoppedAt S (n + 1) 72 ls st μ = if 72 ∈ S then mAt X m_X3_stoppedAt h K 72 ls st μ else bb X P m_X3_stoppedAt h K (vc X P m_X3_stoppedAt h K k_X3_stoppedAt S n) s_X3_stoppedAt_72 ls st μ := by rw [vc_s, t_X3_stoppedAt_72]
end
section
variable {X : mC} {P : mP} {h : Nat} {K : MV → Mem → Prop} {J : mJ} {ls : List (Nat × MV)} {st : List MV} {μ : Mem} {S : List Nat} {n : Nat}
theorem w_X4_allGo_0 : bb X P m_X4_allGo h K J s_X4_allGo_0 ls st μ = bb X P m_X4_allGo h K J ((0, .iconst 0, 1, 0, 0, 0, .inl (nI 0), []) ::
  (1, .istore 4, 2, 4, 0, 0, .inl 0, []) ::
  (3, .iconst 0, 1, 0, 0, 0, .inl (nI 0), []) ::
  (4, .istore 5, 2, 5, 0, 0, .inl 0, []) :: s_X4_allGo_6) ls st μ := by rw [s_X4_allGo_0]
theorem v_X4_allGo_0 : vc X P m_X4_allGo h K k_X4_allGo S (n + 1) 0 ls st μ = if 0 ∈ S then mAt X m_X4_allGo h K 0 ls st μ else bb X P m_X4_allGo h K (vc X P m_X4_allGo h K k_X4_allGo S n) s_X4_allGo_0 ls st μ := by rw [vc_s, t_X4_allGo_0]
theorem w_X4_allGo_6 : bb X P m_X4_allGo h K J s_X4_allGo_6 ls st μ = bb X P m_X4_allGo h K J ((6, .iload 5, 2, 5, 0, 0, .inl 0, []) ::
  (8, .iload_n 3, 1, 3, 0, 0, .inl 0, []) ::
  (9, .if_icmp .ge 63, 3, 72, 0, 0, .inl 0, []) ::
  (12, .iload_n 2, 1, 2, 0, 0, .inl 0, []) ::
  (13, .iload 4, 2, 4, 0, 0, .inl 0, []) ::
  (15, .iconst (-1), 1, 0, 0, 0, .inl (-1), []) ::
  (16, .ixor, 1, 0, 0, 0, .inl 0, []) ::
  (17, .iand, 1, 0, 0, 0, .inl 0, []) ::
  (18, .ifCond .eq 54, 3, 72, 0, 0, .inl 0, []) ::
  (21, .aload_n 0, 1, 0, 0, 0, .inl 0, []) ::
  (22, .aload_n 1, 1, 1, 0, 0, .inl 0, []) ::
  (23, .aload_n 1, 1, 1, 0, 0, .inl 0, []) ::
  (24, .invokevirtual 134, 3, 2, 1, 1, .inl 0, [972, 0]) ::
  (27, .invokevirtual 87, 3, 42, 3, 0, .inl 0, [849, 3]) ::
  (30, .iconst 0, 1, 0, 0, 0, .inl (nI 0), []) ::
  (31, .istore 6, 2, 6, 0, 0, .inl 0, []) :: s_X4_allGo_33) ls st μ := by rw [s_X4_allGo_6]
theorem v_X4_allGo_6 : vc X P m_X4_allGo h K k_X4_allGo S (n + 1) 6 ls st μ = if 6 ∈ S then mAt X m_X4_allGo h K 6 ls st μ else bb X P m_X4_allGo h K (vc X P m_X4_allGo h K k_X4_allGo S n) s_X4_allGo_6 ls st μ := by rw [vc_s, t_X4_allGo_6]
theorem w_X4_allGo_33 : bb X P m_X4_allGo h K J s_X4_allGo_33 ls st μ = bb X P m_X4_allGo h K J ((33, .iload 6, 2, 6, 0, 0, .inl 0, []) ::
  (35, .aload_n 1, 1, 1, 0, 0, .inl 0, []) ::
  (36, .getfield 69, 3, 0, 1, 0, .inl 0, [248]) ::
  (39, .if_icmp .ge 27, 3, 66, 0, 0, .inl 0, []) ::
  (42, .aload_n 0, 1, 0, 0, 0, .inl 0, []) ::
  (43, .iload 6, 2, 6, 0, 0, .inl 0, []) ::
  (45, .invokevirtual 138, 3, 48, 2, 1, .inl 0, [973, 3]) ::
  (48, .ifCond .eq 12, 3, 60, 0, 0, .inl 0, []) ::
  (51, .iload 4, 2, 4, 0, 0, .inl 0, []) ::
  (53, .iconst 1, 1, 0, 0, 0, .inl (nI 1), []) ::
  (54, .iload 6, 2, 6, 0, 0, .inl 0, []) ::
  (56, .ishl, 1, 0, 0, 0, .inl 0, []) ::
  (57, .ior, 1, 0, 0, 0, .inl 0, []) ::
  (58, .istore 4, 2, 4, 0, 0, .inl 0, []) :: s_X4_allGo_60) ls st μ := by rw [s_X4_allGo_33]
theorem v_X4_allGo_33 : vc X P m_X4_allGo h K k_X4_allGo S (n + 1) 33 ls st μ = if 33 ∈ S then mAt X m_X4_allGo h K 33 ls st μ else bb X P m_X4_allGo h K (vc X P m_X4_allGo h K k_X4_allGo S n) s_X4_allGo_33 ls st μ := by rw [vc_s, t_X4_allGo_33]
theorem w_X4_allGo_60 : bb X P m_X4_allGo h K J s_X4_allGo_60 ls st μ = bb X P m_X4_allGo h K J ((60, .iinc 6 1, 3, 6, 0, 0, .inl (nI 1), []) ::
  (63, .goto (-30), 3, 33, 0, 0, .inl 0, []) :: s_X4_allGo_66) ls st μ := by rw [s_X4_allGo_60]
theorem v_X4_allGo_60 : vc X P m_X4_allGo h K k_X4_allGo S (n + 1) 60 ls st μ = if 60 ∈ S then mAt X m_X4_allGo h K 60 ls st μ else bb X P m_X4_allGo h K (vc X P m_X4_allGo h K k_X4_allGo S n) s_X4_allGo_60 ls st μ := by rw [vc_s, t_X4_allGo_60]
theorem w_X4_allGo_66 : bb X P m_X4_allGo h K J s_X4_allGo_66 ls st μ = bb X P m_X4_allGo h K J ((66, .iinc 5 1, 3, 5, 0, 0, .inl (nI 1), []) ::
  (69, .goto (-63), 3, 6, 0, 0, .inl 0, []) :: s_X4_allGo_72) ls st μ := by rw [s_X4_allGo_66]
theorem v_X4_allGo_66 : vc X P m_X4_allGo h K k_X4_allGo S (n + 1) 66 ls st μ = if 66 ∈ S then mAt X m_X4_allGo h K 66 ls st μ else bb X P m_X4_allGo h K (vc X P m_X4_allGo h K k_X4_allGo S n) s_X4_allGo_66 ls st μ := by rw [vc_s, t_X4_allGo_66]
theorem w_X4_allGo_72 : bb X P m_X4_allGo h K J s_X4_allGo_72 ls st μ = bb X P m_X4_allGo h K J ((72, .iload_n 2, 1, 2, 0, 0, .inl 0, []) ::
  (73, .iload 4, 2, 4, 0, 0, .inl 0, []) ::
  (75, .iconst (-1), 1, 0, 0, 0, .inl (-1), []) ::
  (76, .ixor, 1, 0, 0, 0, .inl 0, []) ::
  (77, .iand, 1, 0, 0, 0, .inl 0, []) ::
  (78, .ifCond .ne 7, 3, 85, 0, 0, .inl 0, []) ::
  (81, .iconst 1, 1, 0, 0, 0, .inl (nI 1), []) ::
  (82, .goto 4, 3, 86, 0, 0, .inl 0, []) :: s_X4_allGo_85) ls st μ := by rw [s_X4_allGo_72]
theorem v_X4_allGo_72 : vc X P m_X4_allGo h K k_X4_allGo S (n + 1) 72 ls st μ = if 72 ∈ S then mAt X m_X4_allGo h K 72 ls st μ else bb X P m_X4_allGo h K (vc X P m_X4_allGo h K k_X4_allGo S n) s_X4_allGo_72 ls st μ := by rw [vc_s, t_X4_allGo_72]
theorem w_X4_allGo_85 : bb X P m_X4_allGo h K J s_X4_allGo_85 ls st μ = bb X P m_X4_allGo h K J ((85, .iconst 0, 1, 0, 0, 0, .inl (nI 0), []) :: s_X4_allGo_86) ls st μ := by rw [s_X4_allGo_85]
theorem v_X4_allGo_85 : vc X P m_X4_allGo h K k_X4_allGo S (n + 1) 85 ls st μ = if 85 ∈ S then mAt X m_X4_allGo h K 85 ls st μ else bb X P m_X4_allGo h K (vc X P m_X4_allGo h K k_X4_allGo S n) s_X4_allGo_85 ls st μ := by rw [vc_s, t_X4_allGo_85]
theorem w_X4_allGo_86 : bb X P m_X4_allGo h K J s_X4_allGo_86 ls st μ = bb X P m_X4_allGo h K J ((86, .ireturn, 1, 1, 0, 0, .inl 0, []) :: []) ls st μ := by rw [s_X4_allGo_86]
theorem v_X4_allGo_86 : vc X P m_X4_allGo h K k_X4_allGo S (n + 1) 86 ls st μ = if 86 ∈ S then mAt X m_X4_allGo h K 86 ls st μ else bb X P m_X4_allGo h K (vc X P m_X4_allGo h K k_X4_allGo S n) s_X4_allGo_86 ls st μ := by rw [vc_s, t_X4_allGo_86]
end
section
variable {X : mC} {P : mP} {h : Nat} {K : MV → Mem → Prop} {J : mJ} {ls : List (Nat × MV)} {st : List MV} {μ : Mem} {S : List Nat} {n : Nat}
theorem w_X4_bring_0 : bb X P m_X4_bring h K J s_X4_bring_0 ls st μ = bb X P m_X4_bring h K J ((0, .iload_n 2, 1, 2, 0, 0, .inl 0, []) ::
  (1, .bipush 6, 2, 0, 0, 0, .inl (nI 6), []) ::
  (3, .irem, 1, 0, 0, 0, .inl 0, []) ::
  (4, .istore 4, 2, 4, 0, 0, .inl 0, []) ::
  (6, .iload_n 3, 1, 3, 0, 0, .inl 0, []) ::
  (7, .aload_n 1, 1, 1, 0, 0, .inl 0, []) ::
  (8, .getfield 78, 3, 0, 11, 3, .inr (.inr (16, 48, 8)), [277]) ::
  (11, .iload_n 2, 1, 2, 0, 0, .inl 0, []) ::
  (12, .iaload, 1, 0, 0, 0, .inl 0, []) ::
  (13, .aload_n 0, 1, 0, 0, 0, .inl 0, []) ::
  (14, .getfield 15, 3, 3, 1, 3, .inr (.inr (16, 48, 1)), [382]) ::
  (17, .iload_n 2, 1, 2, 0, 0, .inl 0, []) ::
  (18, .iaload, 1, 0, 0, 0, .inl 0, []) ::
  (19, .isub, 1, 0, 0, 0, .inl 0, []) ::
  (20, .invokestatic 81, 3, 0, 2, 10, .inl 0, [727]) ::
  (23, .istore 5, 2, 5, 0, 0, .inl 0, []) ::
  (25, .aload_n 0, 1, 0, 0, 0, .inl 0, []) ::
  (26, .getfield 15, 3, 3, 1, 3, .inr (.inr (16, 48, 1)), [382]) ::
  (29, .iload_n 2, 1, 2, 0, 0, .inl 0, []) ::
  (30, .dup2, 1, 0, 0, 0, .inl 0, []) ::
  (31, .iaload, 1, 0, 0, 0, .inl 0, []) ::
  (32, .iload 5, 2, 5, 0, 0, .inl 0, []) ::
  (34, .iadd, 1, 0, 0, 0, .inl 0, []) ::
  (35, .iastore, 1, 0, 0, 0, .inl 0, []) ::
  (36, .aload_n 0, 1, 0, 0, 0, .inl 0, []) ::
  (37, .getfield 46, 3, 3, 11, 3, .inr (.inr (16, 36, 11)), [401]) ::
  (40, .bipush 6, 2, 0, 0, 0, .inl (nI 6), []) ::
  (42, .iload 4, 2, 4, 0, 0, .inl 0, []) ::
  (44, .iadd, 1, 0, 0, 0, .inl 0, []) ::
  (45, .dup2, 1, 0, 0, 0, .inl 0, []) ::
  (46, .iaload, 1, 0, 0, 0, .inl 0, []) ::
  (47, .iload_n 3, 1, 3, 0, 0, .inl 0, []) ::
  (48, .iadd, 1, 0, 0, 0, .inl 0, []) ::
  (49, .iastore, 1, 0, 0, 0, .inl 0, []) ::
  (50, .aload_n 0, 1, 0, 0, 0, .inl 0, []) ::
  (51, .getfield 46, 3, 3, 11, 3, .inr (.inr (16, 36, 11)), [401]) ::
  (54, .bipush 24, 2, 0, 0, 0, .inl (nI 24), []) ::
  (56, .iload 4, 2, 4, 0, 0, .inl 0, []) ::
  (58, .iadd, 1, 0, 0, 0, .inl 0, []) ::
  (59, .dup2, 1, 0, 0, 0, .inl 0, []) ::
  (60, .iaload, 1, 0, 0, 0, .inl 0, []) ::
  (61, .iload_n 3, 1, 3, 0, 0, .inl 0, []) ::
  (62, .iload 5, 2, 5, 0, 0, .inl 0, []) ::
  (64, .isub, 1, 0, 0, 0, .inl 0, []) ::
  (65, .iadd, 1, 0, 0, 0, .inl 0, []) ::
  (66, .iastore, 1, 0, 0, 0, .inl 0, []) ::
  (67, .return_, 1, 0, 0, 0, .inl 0, []) :: []) ls st μ := by rw [s_X4_bring_0]
theorem v_X4_bring_0 : vc X P m_X4_bring h K k_X4_bring S (n + 1) 0 ls st μ = if 0 ∈ S then mAt X m_X4_bring h K 0 ls st μ else bb X P m_X4_bring h K (vc X P m_X4_bring h K k_X4_bring S n) s_X4_bring_0 ls st μ := by rw [vc_s, t_X4_bring_0]
end
section
variable {X : mC} {P : mP} {h : Nat} {K : MV → Mem → Prop} {J : mJ} {ls : List (Nat × MV)} {st : List MV} {μ : Mem} {S : List Nat} {n : Nat}
theorem w_X4_comeToWork_0 : bb X P m_X4_comeToWork h K J s_X4_comeToWork_0 ls st μ = bb X P m_X4_comeToWork h K J ((0, .iconst 0, 1, 0, 0, 0, .inl (nI 0), []) ::
  (1, .istore_n 3, 1, 3, 0, 0, .inl 0, []) :: s_X4_comeToWork_2) ls st μ := by rw [s_X4_comeToWork_0]
theorem v_X4_comeToWork_0 : vc X P m_X4_comeToWork h K k_X4_comeToWork S (n + 1) 0 ls st μ = if 0 ∈ S then mAt X m_X4_comeToWork h K 0 ls st μ else bb X P m_X4_comeToWork h K (vc X P m_X4_comeToWork h K k_X4_comeToWork S n) s_X4_comeToWork_0 ls st μ := by rw [vc_s, t_X4_comeToWork_0]
theorem w_X4_comeToWork_2 : bb X P m_X4_comeToWork h K J s_X4_comeToWork_2 ls st μ = bb X P m_X4_comeToWork h K J ((2, .iload_n 3, 1, 3, 0, 0, .inl 0, []) ::
  (3, .aload_n 1, 1, 1, 0, 0, .inl 0, []) ::
  (4, .getfield 72, 3, 0, 0, 0, .inl 0, [245]) ::
  (7, .if_icmp .ge 133, 3, 140, 0, 0, .inl 0, []) ::
  (10, .iload_n 2, 1, 2, 0, 0, .inl 0, []) ::
  (11, .bipush 6, 2, 0, 0, 0, .inl (nI 6), []) ::
  (13, .imul, 1, 0, 0, 0, .inl 0, []) ::
  (14, .iload_n 3, 1, 3, 0, 0, .inl 0, []) ::
  (15, .iadd, 1, 0, 0, 0, .inl 0, []) ::
  (16, .istore 4, 2, 4, 0, 0, .inl 0, []) ::
  (18, .aload_n 0, 1, 0, 0, 0, .inl 0, []) ::
  (19, .getfield 28, 3, 3, 5, 3, .inr (.inr (16, 6, 5)), [389]) ::
  (22, .iload_n 3, 1, 3, 0, 0, .inl 0, []) ::
  (23, .dup2, 1, 0, 0, 0, .inl 0, []) ::
  (24, .iaload, 1, 0, 0, 0, .inl 0, []) ::
  (25, .aload_n 1, 1, 1, 0, 0, .inl 0, []) ::
  (26, .getfield 125, 3, 0, 14, 3, .inr (.inr (16, 48, 11)), [288]) ::
  (29, .iload 4, 2, 4, 0, 0, .inl 0, []) ::
  (31, .iaload, 1, 0, 0, 0, .inl 0, []) ::
  (32, .iadd, 1, 0, 0, 0, .inl 0, []) ::
  (33, .iastore, 1, 0, 0, 0, .inl 0, []) ::
  (34, .aload_n 0, 1, 0, 0, 0, .inl 0, []) ::
  (35, .getfield 46, 3, 3, 11, 3, .inr (.inr (16, 36, 11)), [401]) ::
  (38, .iconst 0, 1, 0, 0, 0, .inl (nI 0), []) ::
  (39, .iload_n 3, 1, 3, 0, 0, .inl 0, []) ::
  (40, .iadd, 1, 0, 0, 0, .inl 0, []) ::
  (41, .dup2, 1, 0, 0, 0, .inl 0, []) ::
  (42, .iaload, 1, 0, 0, 0, .inl 0, []) ::
  (43, .aload_n 1, 1, 1, 0, 0, .inl 0, []) ::
  (44, .getfield 125, 3, 0, 14, 3, .inr (.inr (16, 48, 11)), [288]) ::
  (47, .iload 4, 2, 4, 0, 0, .inl 0, []) ::
  (49, .iaload, 1, 0, 0, 0, .inl 0, []) ::
  (50, .iadd, 1, 0, 0, 0, .inl 0, []) ::
  (51, .iastore, 1, 0, 0, 0, .inl 0, []) ::
  (52, .aload_n 0, 1, 0, 0, 0, .inl 0, []) ::
  (53, .getfield 28, 3, 3, 5, 3, .inr (.inr (16, 6, 5)), [389]) ::
  (56, .iload_n 3, 1, 3, 0, 0, .inl 0, []) ::
  (57, .iaload, 1, 0, 0, 0, .inl 0, []) ::
  (58, .aload_n 1, 1, 1, 0, 0, .inl 0, []) ::
  (59, .getfield 78, 3, 0, 11, 3, .inr (.inr (16, 48, 8)), [277]) ::
  (62, .iload 4, 2, 4, 0, 0, .inl 0, []) ::
  (64, .iaload, 1, 0, 0, 0, .inl 0, []) ::
  (65, .aload_n 0, 1, 0, 0, 0, .inl 0, []) ::
  (66, .getfield 15, 3, 3, 1, 3, .inr (.inr (16, 48, 1)), [382]) ::
  (69, .iload 4, 2, 4, 0, 0, .inl 0, []) ::
  (71, .iaload, 1, 0, 0, 0, .inl 0, []) ::
  (72, .isub, 1, 0, 0, 0, .inl 0, []) ::
  (73, .invokestatic 81, 3, 0, 2, 10, .inl 0, [727]) ::
  (76, .istore 5, 2, 5, 0, 0, .inl 0, []) ::
  (78, .iload 5, 2, 5, 0, 0, .inl 0, []) ::
  (80, .ifCond .le 54, 3, 134, 0, 0, .inl 0, []) ::
  (83, .aload_n 0, 1, 0, 0, 0, .inl 0, []) ::
  (84, .getfield 15, 3, 3, 1, 3, .inr (.inr (16, 48, 1)), [382]) ::
  (87, .iload 4, 2, 4, 0, 0, .inl 0, []) ::
  (89, .dup2, 1, 0, 0, 0, .inl 0, []) ::
  (90, .iaload, 1, 0, 0, 0, .inl 0, []) ::
  (91, .iload 5, 2, 5, 0, 0, .inl 0, []) ::
  (93, .iadd, 1, 0, 0, 0, .inl 0, []) ::
  (94, .iastore, 1, 0, 0, 0, .inl 0, []) ::
  (95, .aload_n 0, 1, 0, 0, 0, .inl 0, []) ::
  (96, .getfield 19, 3, 3, 2, 3, .inr (.inr (16, 48, 2)), [384]) ::
  (99, .iload 4, 2, 4, 0, 0, .inl 0, []) ::
  (101, .dup2, 1, 0, 0, 0, .inl 0, []) ::
  (102, .iaload, 1, 0, 0, 0, .inl 0, []) ::
  (103, .aload_n 0, 1, 0, 0, 0, .inl 0, []) ::
  (104, .getfield 31, 3, 3, 6, 3, .inr (.inr (16, 6, 6)), [391]) ::
  (107, .iload_n 3, 1, 3, 0, 0, .inl 0, []) ::
  (108, .iaload, 1, 0, 0, 0, .inl 0, []) ::
  (109, .ior, 1, 0, 0, 0, .inl 0, []) ::
  (110, .iastore, 1, 0, 0, 0, .inl 0, []) ::
  (111, .aload_n 0, 1, 0, 0, 0, .inl 0, []) ::
  (112, .getfield 22, 3, 3, 3, 3, .inr (.inr (16, 48, 3)), [385]) ::
  (115, .iload 4, 2, 4, 0, 0, .inl 0, []) ::
  (117, .dup2, 1, 0, 0, 0, .inl 0, []) ::
  (118, .iaload, 1, 0, 0, 0, .inl 0, []) ::
  (119, .aload_n 0, 1, 0, 0, 0, .inl 0, []) ::
  (120, .getfield 34, 3, 3, 7, 3, .inr (.inr (16, 6, 7)), [392]) ::
  (123, .iload_n 3, 1, 3, 0, 0, .inl 0, []) ::
  (124, .iaload, 1, 0, 0, 0, .inl 0, []) ::
  (125, .ior, 1, 0, 0, 0, .inl 0, []) ::
  (126, .iastore, 1, 0, 0, 0, .inl 0, []) ::
  (127, .aload_n 0, 1, 0, 0, 0, .inl 0, []) ::
  (128, .iload_n 3, 1, 3, 0, 0, .inl 0, []) ::
  (129, .iload 5, 2, 5, 0, 0, .inl 0, []) ::
  (131, .invokevirtual 121, 3, 39, 3, 0, .inl 0, [744, 3]) :: s_X4_comeToWork_134) ls st μ := by rw [s_X4_comeToWork_2]
theorem v_X4_comeToWork_2 : vc X P m_X4_comeToWork h K k_X4_comeToWork S (n + 1) 2 ls st μ = if 2 ∈ S then mAt X m_X4_comeToWork h K 2 ls st μ else bb X P m_X4_comeToWork h K (vc X P m_X4_comeToWork h K k_X4_comeToWork S n) s_X4_comeToWork_2 ls st μ := by rw [vc_s, t_X4_comeToWork_2]
theorem w_X4_comeToWork_134 : bb X P m_X4_comeToWork h K J s_X4_comeToWork_134 ls st μ = bb X P m_X4_comeToWork h K J ((134, .iinc 3 1, 3, 3, 0, 0, .inl (nI 1), []) ::
  (137, .goto (-135), 3, 2, 0, 0, .inl 0, []) :: s_X4_comeToWork_140) ls st μ := by rw [s_X4_comeToWork_134]
theorem v_X4_comeToWork_134 : vc X P m_X4_comeToWork h K k_X4_comeToWork S (n + 1) 134 ls st μ = if 134 ∈ S then mAt X m_X4_comeToWork h K 134 ls st μ else bb X P m_X4_comeToWork h K (vc X P m_X4_comeToWork h K k_X4_comeToWork S n) s_X4_comeToWork_134 ls st μ := by rw [vc_s, t_X4_comeToWork_134]
theorem w_X4_comeToWork_140 : bb X P m_X4_comeToWork h K J s_X4_comeToWork_140 ls st μ = bb X P m_X4_comeToWork h K J ((140, .return_, 1, 0, 0, 0, .inl 0, []) :: []) ls st μ := by rw [s_X4_comeToWork_140]
theorem v_X4_comeToWork_140 : vc X P m_X4_comeToWork h K k_X4_comeToWork S (n + 1) 140 ls st μ = if 140 ∈ S then mAt X m_X4_comeToWork h K 140 ls st μ else bb X P m_X4_comeToWork h K (vc X P m_X4_comeToWork h K k_X4_comeToWork S n) s_X4_comeToWork_140 ls st μ := by rw [vc_s, t_X4_comeToWork_140]
end
section
variable {X : mC} {P : mP} {h : Nat} {K : MV → Mem → Prop} {J : mJ} {ls : List (Nat × MV)} {st : List MV} {μ : Mem} {S : List Nat} {n : Nat}
theorem w_X4_copyFrom_0 : bb X P m_X4_copyFrom h K J s_X4_copyFrom_0 ls st μ = bb X P m_X4_copyFrom h K J ((0, .aload_n 0, 1, 0, 0, 0, .inl 0, []) ::
  (1, .aload_n 1, 1, 1, 0, 0, .inl 0, []) ::
  (2, .getfield 9, 3, 3, 0, 0, .inl 0, [378]) ::
  (5, .putfield 9, 3, 3, 0, 0, .inl 0, [378]) ::
  (8, .aload_n 1, 1, 1, 0, 0, .inl 0, []) ::
  (9, .getfield 15, 3, 3, 1, 3, .inr (.inr (16, 48, 1)), [382]) ::
  (12, .iconst 0, 1, 0, 0, 0, .inl (nI 0), []) ::
  (13, .aload_n 0, 1, 0, 0, 0, .inl 0, []) ::
  (14, .getfield 15, 3, 3, 1, 3, .inr (.inr (16, 48, 1)), [382]) ::
  (17, .iconst 0, 1, 0, 0, 0, .inl (nI 0), []) ::
  (18, .bipush 48, 2, 0, 0, 0, .inl (nI 48), []) ::
  (20, .invokestatic 49, 3, 0, 5, 9, .inl 0, [707]) ::
  (23, .aload_n 1, 1, 1, 0, 0, .inl 0, []) ::
  (24, .getfield 19, 3, 3, 2, 3, .inr (.inr (16, 48, 2)), [384]) ::
  (27, .iconst 0, 1, 0, 0, 0, .inl (nI 0), []) ::
  (28, .aload_n 0, 1, 0, 0, 0, .inl 0, []) ::
  (29, .getfield 19, 3, 3, 2, 3, .inr (.inr (16, 48, 2)), [384]) ::
  (32, .iconst 0, 1, 0, 0, 0, .inl (nI 0), []) ::
  (33, .bipush 48, 2, 0, 0, 0, .inl (nI 48), []) ::
  (35, .invokestatic 49, 3, 0, 5, 9, .inl 0, [707]) ::
  (38, .aload_n 1, 1, 1, 0, 0, .inl 0, []) ::
  (39, .getfield 22, 3, 3, 3, 3, .inr (.inr (16, 48, 3)), [385]) ::
  (42, .iconst 0, 1, 0, 0, 0, .inl (nI 0), []) ::
  (43, .aload_n 0, 1, 0, 0, 0, .inl 0, []) ::
  (44, .getfield 22, 3, 3, 3, 3, .inr (.inr (16, 48, 3)), [385]) ::
  (47, .iconst 0, 1, 0, 0, 0, .inl (nI 0), []) ::
  (48, .bipush 48, 2, 0, 0, 0, .inl (nI 48), []) ::
  (50, .invokestatic 49, 3, 0, 5, 9, .inl 0, [707]) ::
  (53, .aload_n 1, 1, 1, 0, 0, .inl 0, []) ::
  (54, .getfield 25, 3, 3, 4, 3, .inr (.inr (16, 48, 4)), [387]) ::
  (57, .iconst 0, 1, 0, 0, 0, .inl (nI 0), []) ::
  (58, .aload_n 0, 1, 0, 0, 0, .inl 0, []) ::
  (59, .getfield 25, 3, 3, 4, 3, .inr (.inr (16, 48, 4)), [387]) ::
  (62, .iconst 0, 1, 0, 0, 0, .inl (nI 0), []) ::
  (63, .bipush 48, 2, 0, 0, 0, .inl (nI 48), []) ::
  (65, .invokestatic 49, 3, 0, 5, 9, .inl 0, [707]) ::
  (68, .aload_n 1, 1, 1, 0, 0, .inl 0, []) ::
  (69, .getfield 28, 3, 3, 5, 3, .inr (.inr (16, 6, 5)), [389]) ::
  (72, .iconst 0, 1, 0, 0, 0, .inl (nI 0), []) ::
  (73, .aload_n 0, 1, 0, 0, 0, .inl 0, []) ::
  (74, .getfield 28, 3, 3, 5, 3, .inr (.inr (16, 6, 5)), [389]) ::
  (77, .iconst 0, 1, 0, 0, 0, .inl (nI 0), []) ::
  (78, .bipush 6, 2, 0, 0, 0, .inl (nI 6), []) ::
  (80, .invokestatic 49, 3, 0, 5, 9, .inl 0, [707]) ::
  (83, .aload_n 1, 1, 1, 0, 0, .inl 0, []) ::
  (84, .getfield 31, 3, 3, 6, 3, .inr (.inr (16, 6, 6)), [391]) ::
  (87, .iconst 0, 1, 0, 0, 0, .inl (nI 0), []) ::
  (88, .aload_n 0, 1, 0, 0, 0, .inl 0, []) ::
  (89, .getfield 31, 3, 3, 6, 3, .inr (.inr (16, 6, 6)), [391]) ::
  (92, .iconst 0, 1, 0, 0, 0, .inl (nI 0), []) ::
  (93, .bipush 6, 2, 0, 0, 0, .inl (nI 6), []) ::
  (95, .invokestatic 49, 3, 0, 5, 9, .inl 0, [707]) ::
  (98, .aload_n 1, 1, 1, 0, 0, .inl 0, []) ::
  (99, .getfield 34, 3, 3, 7, 3, .inr (.inr (16, 6, 7)), [392]) ::
  (102, .iconst 0, 1, 0, 0, 0, .inl (nI 0), []) ::
  (103, .aload_n 0, 1, 0, 0, 0, .inl 0, []) ::
  (104, .getfield 34, 3, 3, 7, 3, .inr (.inr (16, 6, 7)), [392]) ::
  (107, .iconst 0, 1, 0, 0, 0, .inl (nI 0), []) ::
  (108, .bipush 6, 2, 0, 0, 0, .inl (nI 6), []) ::
  (110, .invokestatic 49, 3, 0, 5, 9, .inl 0, [707]) ::
  (113, .aload_n 1, 1, 1, 0, 0, .inl 0, []) ::
  (114, .getfield 37, 3, 3, 8, 3, .inr (.inr (16, 8, 8)), [393]) ::
  (117, .iconst 0, 1, 0, 0, 0, .inl (nI 0), []) ::
  (118, .aload_n 0, 1, 0, 0, 0, .inl 0, []) ::
  (119, .getfield 37, 3, 3, 8, 3, .inr (.inr (16, 8, 8)), [393]) ::
  (122, .iconst 0, 1, 0, 0, 0, .inl (nI 0), []) ::
  (123, .bipush 8, 2, 0, 0, 0, .inl (nI 8), []) ::
  (125, .invokestatic 49, 3, 0, 5, 9, .inl 0, [707]) ::
  (128, .aload_n 1, 1, 1, 0, 0, .inl 0, []) ::
  (129, .getfield 40, 3, 3, 9, 3, .inr (.inr (16, 8, 9)), [396]) ::
  (132, .iconst 0, 1, 0, 0, 0, .inl (nI 0), []) ::
  (133, .aload_n 0, 1, 0, 0, 0, .inl 0, []) ::
  (134, .getfield 40, 3, 3, 9, 3, .inr (.inr (16, 8, 9)), [396]) ::
  (137, .iconst 0, 1, 0, 0, 0, .inl (nI 0), []) ::
  (138, .bipush 8, 2, 0, 0, 0, .inl (nI 8), []) ::
  (140, .invokestatic 49, 3, 0, 5, 9, .inl 0, [707]) ::
  (143, .aload_n 1, 1, 1, 0, 0, .inl 0, []) ::
  (144, .getfield 43, 3, 3, 10, 3, .inr (.inr (16, 8, 10)), [398]) ::
  (147, .iconst 0, 1, 0, 0, 0, .inl (nI 0), []) ::
  (148, .aload_n 0, 1, 0, 0, 0, .inl 0, []) ::
  (149, .getfield 43, 3, 3, 10, 3, .inr (.inr (16, 8, 10)), [398]) ::
  (152, .iconst 0, 1, 0, 0, 0, .inl (nI 0), []) ::
  (153, .bipush 8, 2, 0, 0, 0, .inl (nI 8), []) ::
  (155, .invokestatic 49, 3, 0, 5, 9, .inl 0, [707]) ::
  (158, .aload_n 1, 1, 1, 0, 0, .inl 0, []) ::
  (159, .getfield 46, 3, 3, 11, 3, .inr (.inr (16, 36, 11)), [401]) ::
  (162, .iconst 0, 1, 0, 0, 0, .inl (nI 0), []) ::
  (163, .aload_n 0, 1, 0, 0, 0, .inl 0, []) ::
  (164, .getfield 46, 3, 3, 11, 3, .inr (.inr (16, 36, 11)), [401]) ::
  (167, .iconst 0, 1, 0, 0, 0, .inl (nI 0), []) ::
  (168, .bipush 36, 2, 0, 0, 0, .inl (nI 36), []) ::
  (170, .invokestatic 49, 3, 0, 5, 9, .inl 0, [707]) ::
  (173, .return_, 1, 0, 0, 0, .inl 0, []) :: []) ls st μ := by rw [s_X4_copyFrom_0]
theorem v_X4_copyFrom_0 : vc X P m_X4_copyFrom h K k_X4_copyFrom S (n + 1) 0 ls st μ = if 0 ∈ S then mAt X m_X4_copyFrom h K 0 ls st μ else bb X P m_X4_copyFrom h K (vc X P m_X4_copyFrom h K k_X4_copyFrom S n) s_X4_copyFrom_0 ls st μ := by rw [vc_s, t_X4_copyFrom_0]
end
section
variable {X : mC} {P : mP} {h : Nat} {K : MV → Mem → Prop} {J : mJ} {ls : List (Nat × MV)} {st : List MV} {μ : Mem} {S : List Nat} {n : Nat}
theorem w_X4_goOnce_0 : bb X P m_X4_goOnce h K J s_X4_goOnce_0 ls st μ = bb X P m_X4_goOnce h K J ((0, .iconst 0, 1, 0, 0, 0, .inl (nI 0), []) ::
  (1, .istore_n 3, 1, 3, 0, 0, .inl 0, []) ::
  (2, .iconst 0, 1, 0, 0, 0, .inl (nI 0), []) ::
  (3, .istore 4, 2, 4, 0, 0, .inl 0, []) :: s_X4_goOnce_5) ls st μ := by rw [s_X4_goOnce_0]
theorem v_X4_goOnce_0 : vc X P m_X4_goOnce h K k_X4_goOnce S (n + 1) 0 ls st μ = if 0 ∈ S then mAt X m_X4_goOnce h K 0 ls st μ else bb X P m_X4_goOnce h K (vc X P m_X4_goOnce h K k_X4_goOnce S n) s_X4_goOnce_0 ls st μ := by rw [vc_s, t_X4_goOnce_0]
theorem w_X4_goOnce_5 : bb X P m_X4_goOnce h K J s_X4_goOnce_5 ls st μ = bb X P m_X4_goOnce h K J ((5, .iload 4, 2, 4, 0, 0, .inl 0, []) ::
  (7, .aload_n 1, 1, 1, 0, 0, .inl 0, []) ::
  (8, .getfield 72, 3, 0, 0, 0, .inl 0, [245]) ::
  (11, .if_icmp .ge 83, 3, 94, 0, 0, .inl 0, []) ::
  (14, .iload_n 2, 1, 2, 0, 0, .inl 0, []) ::
  (15, .bipush 6, 2, 0, 0, 0, .inl (nI 6), []) ::
  (17, .imul, 1, 0, 0, 0, .inl 0, []) ::
  (18, .iload 4, 2, 4, 0, 0, .inl 0, []) ::
  (20, .iadd, 1, 0, 0, 0, .inl 0, []) ::
  (21, .istore 5, 2, 5, 0, 0, .inl 0, []) ::
  (23, .iload_n 3, 1, 3, 0, 0, .inl 0, []) ::
  (24, .aload_n 0, 1, 0, 0, 0, .inl 0, []) ::
  (25, .getfield 19, 3, 3, 2, 3, .inr (.inr (16, 48, 2)), [384]) ::
  (28, .iload 5, 2, 5, 0, 0, .inl 0, []) ::
  (30, .iaload, 1, 0, 0, 0, .inl 0, []) ::
  (31, .ior, 1, 0, 0, 0, .inl 0, []) ::
  (32, .istore_n 3, 1, 3, 0, 0, .inl 0, []) ::
  (33, .aload_n 0, 1, 0, 0, 0, .inl 0, []) ::
  (34, .getfield 15, 3, 3, 1, 3, .inr (.inr (16, 48, 1)), [382]) ::
  (37, .iload 5, 2, 5, 0, 0, .inl 0, []) ::
  (39, .dup2, 1, 0, 0, 0, .inl 0, []) ::
  (40, .iaload, 1, 0, 0, 0, .inl 0, []) ::
  (41, .aload_n 1, 1, 1, 0, 0, .inl 0, []) ::
  (42, .getfield 75, 3, 0, 10, 3, .inr (.inr (16, 48, 7)), [272]) ::
  (45, .iload 5, 2, 5, 0, 0, .inl 0, []) ::
  (47, .iaload, 1, 0, 0, 0, .inl 0, []) ::
  (48, .isub, 1, 0, 0, 0, .inl 0, []) ::
  (49, .iastore, 1, 0, 0, 0, .inl 0, []) ::
  (50, .aload_n 0, 1, 0, 0, 0, .inl 0, []) ::
  (51, .getfield 46, 3, 3, 11, 3, .inr (.inr (16, 36, 11)), [401]) ::
  (54, .bipush 18, 2, 0, 0, 0, .inl (nI 18), []) ::
  (56, .iload 4, 2, 4, 0, 0, .inl 0, []) ::
  (58, .iadd, 1, 0, 0, 0, .inl 0, []) ::
  (59, .dup2, 1, 0, 0, 0, .inl 0, []) ::
  (60, .iaload, 1, 0, 0, 0, .inl 0, []) ::
  (61, .aload_n 1, 1, 1, 0, 0, .inl 0, []) ::
  (62, .getfield 75, 3, 0, 10, 3, .inr (.inr (16, 48, 7)), [272]) ::
  (65, .iload 5, 2, 5, 0, 0, .inl 0, []) ::
  (67, .iaload, 1, 0, 0, 0, .inl 0, []) ::
  (68, .iadd, 1, 0, 0, 0, .inl 0, []) ::
  (69, .iastore, 1, 0, 0, 0, .inl 0, []) ::
  (70, .aload_n 0, 1, 0, 0, 0, .inl 0, []) ::
  (71, .getfield 15, 3, 3, 1, 3, .inr (.inr (16, 48, 1)), [382]) ::
  (74, .iload 5, 2, 5, 0, 0, .inl 0, []) ::
  (76, .iaload, 1, 0, 0, 0, .inl 0, []) ::
  (77, .ifCond .ne 11, 3, 88, 0, 0, .inl 0, []) ::
  (80, .aload_n 0, 1, 0, 0, 0, .inl 0, []) ::
  (81, .getfield 19, 3, 3, 2, 3, .inr (.inr (16, 48, 2)), [384]) ::
  (84, .iload 5, 2, 5, 0, 0, .inl 0, []) ::
  (86, .iconst 0, 1, 0, 0, 0, .inl (nI 0), []) ::
  (87, .iastore, 1, 0, 0, 0, .inl 0, []) :: s_X4_goOnce_88) ls st μ := by rw [s_X4_goOnce_5]
theorem v_X4_goOnce_5 : vc X P m_X4_goOnce h K k_X4_goOnce S (n + 1) 5 ls st μ = if 5 ∈ S then mAt X m_X4_goOnce h K 5 ls st μ else bb X P m_X4_goOnce h K (vc X P m_X4_goOnce h K k_X4_goOnce S n) s_X4_goOnce_5 ls st μ := by rw [vc_s, t_X4_goOnce_5]
theorem w_X4_goOnce_88 : bb X P m_X4_goOnce h K J s_X4_goOnce_88 ls st μ = bb X P m_X4_goOnce h K J ((88, .iinc 4 1, 3, 4, 0, 0, .inl (nI 1), []) ::
  (91, .goto (-86), 3, 5, 0, 0, .inl 0, []) :: s_X4_goOnce_94) ls st μ := by rw [s_X4_goOnce_88]
theorem v_X4_goOnce_88 : vc X P m_X4_goOnce h K k_X4_goOnce S (n + 1) 88 ls st μ = if 88 ∈ S then mAt X m_X4_goOnce h K 88 ls st μ else bb X P m_X4_goOnce h K (vc X P m_X4_goOnce h K k_X4_goOnce S n) s_X4_goOnce_88 ls st μ := by rw [vc_s, t_X4_goOnce_88]
theorem w_X4_goOnce_94 : bb X P m_X4_goOnce h K J s_X4_goOnce_94 ls st μ = bb X P m_X4_goOnce h K J ((94, .aload_n 0, 1, 0, 0, 0, .inl 0, []) ::
  (95, .getfield 43, 3, 3, 10, 3, .inr (.inr (16, 8, 10)), [398]) ::
  (98, .iload_n 2, 1, 2, 0, 0, .inl 0, []) ::
  (99, .dup2, 1, 0, 0, 0, .inl 0, []) ::
  (100, .iaload, 1, 0, 0, 0, .inl 0, []) ::
  (101, .iload_n 3, 1, 3, 0, 0, .inl 0, []) ::
  (102, .ior, 1, 0, 0, 0, .inl 0, []) ::
  (103, .iastore, 1, 0, 0, 0, .inl 0, []) ::
  (104, .iconst 0, 1, 0, 0, 0, .inl (nI 0), []) ::
  (105, .istore 4, 2, 4, 0, 0, .inl 0, []) :: s_X4_goOnce_107) ls st μ := by rw [s_X4_goOnce_94]
theorem v_X4_goOnce_94 : vc X P m_X4_goOnce h K k_X4_goOnce S (n + 1) 94 ls st μ = if 94 ∈ S then mAt X m_X4_goOnce h K 94 ls st μ else bb X P m_X4_goOnce h K (vc X P m_X4_goOnce h K k_X4_goOnce S n) s_X4_goOnce_94 ls st μ := by rw [vc_s, t_X4_goOnce_94]
theorem w_X4_goOnce_107 : bb X P m_X4_goOnce h K J s_X4_goOnce_107 ls st μ = bb X P m_X4_goOnce h K J ((107, .iload 4, 2, 4, 0, 0, .inl 0, []) ::
  (109, .aload_n 1, 1, 1, 0, 0, .inl 0, []) ::
  (110, .getfield 72, 3, 0, 0, 0, .inl 0, [245]) ::
  (113, .if_icmp .ge 83, 3, 196, 0, 0, .inl 0, []) ::
  (116, .aload_n 1, 1, 1, 0, 0, .inl 0, []) ::
  (117, .getfield 128, 3, 0, 13, 3, .inr (.inr (16, 48, 10)), [285]) ::
  (120, .iload_n 2, 1, 2, 0, 0, .inl 0, []) ::
  (121, .bipush 6, 2, 0, 0, 0, .inl (nI 6), []) ::
  (123, .imul, 1, 0, 0, 0, .inl 0, []) ::
  (124, .iload 4, 2, 4, 0, 0, .inl 0, []) ::
  (126, .iadd, 1, 0, 0, 0, .inl 0, []) ::
  (127, .iaload, 1, 0, 0, 0, .inl 0, []) ::
  (128, .istore 5, 2, 5, 0, 0, .inl 0, []) ::
  (130, .iload 5, 2, 5, 0, 0, .inl 0, []) ::
  (132, .ifCond .le 58, 3, 190, 0, 0, .inl 0, []) ::
  (135, .aload_n 0, 1, 0, 0, 0, .inl 0, []) ::
  (136, .getfield 28, 3, 3, 5, 3, .inr (.inr (16, 6, 5)), [389]) ::
  (139, .iload 4, 2, 4, 0, 0, .inl 0, []) ::
  (141, .dup2, 1, 0, 0, 0, .inl 0, []) ::
  (142, .iaload, 1, 0, 0, 0, .inl 0, []) ::
  (143, .iload 5, 2, 5, 0, 0, .inl 0, []) ::
  (145, .iadd, 1, 0, 0, 0, .inl 0, []) ::
  (146, .iastore, 1, 0, 0, 0, .inl 0, []) ::
  (147, .aload_n 0, 1, 0, 0, 0, .inl 0, []) ::
  (148, .getfield 31, 3, 3, 6, 3, .inr (.inr (16, 6, 6)), [391]) ::
  (151, .iload 4, 2, 4, 0, 0, .inl 0, []) ::
  (153, .dup2, 1, 0, 0, 0, .inl 0, []) ::
  (154, .iaload, 1, 0, 0, 0, .inl 0, []) ::
  (155, .iload_n 3, 1, 3, 0, 0, .inl 0, []) ::
  (156, .iconst 1, 1, 0, 0, 0, .inl (nI 1), []) ::
  (157, .iload_n 2, 1, 2, 0, 0, .inl 0, []) ::
  (158, .ishl, 1, 0, 0, 0, .inl 0, []) ::
  (159, .ior, 1, 0, 0, 0, .inl 0, []) ::
  (160, .ior, 1, 0, 0, 0, .inl 0, []) ::
  (161, .iastore, 1, 0, 0, 0, .inl 0, []) ::
  (162, .aload_n 0, 1, 0, 0, 0, .inl 0, []) ::
  (163, .getfield 34, 3, 3, 7, 3, .inr (.inr (16, 6, 7)), [392]) ::
  (166, .iload 4, 2, 4, 0, 0, .inl 0, []) ::
  (168, .dup2, 1, 0, 0, 0, .inl 0, []) ::
  (169, .iaload, 1, 0, 0, 0, .inl 0, []) ::
  (170, .iconst 1, 1, 0, 0, 0, .inl (nI 1), []) ::
  (171, .iload_n 2, 1, 2, 0, 0, .inl 0, []) ::
  (172, .ishl, 1, 0, 0, 0, .inl 0, []) ::
  (173, .ior, 1, 0, 0, 0, .inl 0, []) ::
  (174, .iastore, 1, 0, 0, 0, .inl 0, []) ::
  (175, .aload_n 0, 1, 0, 0, 0, .inl 0, []) ::
  (176, .getfield 46, 3, 3, 11, 3, .inr (.inr (16, 36, 11)), [401]) ::
  (179, .bipush 12, 2, 0, 0, 0, .inl (nI 12), []) ::
  (181, .iload 4, 2, 4, 0, 0, .inl 0, []) ::
  (183, .iadd, 1, 0, 0, 0, .inl 0, []) ::
  (184, .dup2, 1, 0, 0, 0, .inl 0, []) ::
  (185, .iaload, 1, 0, 0, 0, .inl 0, []) ::
  (186, .iload 5, 2, 5, 0, 0, .inl 0, []) ::
  (188, .iadd, 1, 0, 0, 0, .inl 0, []) ::
  (189, .iastore, 1, 0, 0, 0, .inl 0, []) :: s_X4_goOnce_190) ls st μ := by rw [s_X4_goOnce_107]
theorem v_X4_goOnce_107 : vc X P m_X4_goOnce h K k_X4_goOnce S (n + 1) 107 ls st μ = if 107 ∈ S then mAt X m_X4_goOnce h K 107 ls st μ else bb X P m_X4_goOnce h K (vc X P m_X4_goOnce h K k_X4_goOnce S n) s_X4_goOnce_107 ls st μ := by rw [vc_s, t_X4_goOnce_107]
theorem w_X4_goOnce_190 : bb X P m_X4_goOnce h K J s_X4_goOnce_190 ls st μ = bb X P m_X4_goOnce h K J ((190, .iinc 4 1, 3, 4, 0, 0, .inl (nI 1), []) ::
  (193, .goto (-86), 3, 107, 0, 0, .inl 0, []) :: s_X4_goOnce_196) ls st μ := by rw [s_X4_goOnce_190]
theorem v_X4_goOnce_190 : vc X P m_X4_goOnce h K k_X4_goOnce S (n + 1) 190 ls st μ = if 190 ∈ S then mAt X m_X4_goOnce h K 190 ls st μ else bb X P m_X4_goOnce h K (vc X P m_X4_goOnce h K k_X4_goOnce S n) s_X4_goOnce_190 ls st μ := by rw [vc_s, t_X4_goOnce_190]
theorem w_X4_goOnce_196 : bb X P m_X4_goOnce h K J s_X4_goOnce_196 ls st μ = bb X P m_X4_goOnce h K J ((196, .aload_n 0, 1, 0, 0, 0, .inl 0, []) ::
  (197, .getfield 37, 3, 3, 8, 3, .inr (.inr (16, 8, 8)), [393]) ::
  (200, .iload_n 2, 1, 2, 0, 0, .inl 0, []) ::
  (201, .dup2, 1, 0, 0, 0, .inl 0, []) ::
  (202, .iaload, 1, 0, 0, 0, .inl 0, []) ::
  (203, .iconst 1, 1, 0, 0, 0, .inl (nI 1), []) ::
  (204, .iadd, 1, 0, 0, 0, .inl 0, []) ::
  (205, .iastore, 1, 0, 0, 0, .inl 0, []) ::
  (206, .aload_n 0, 1, 0, 0, 0, .inl 0, []) ::
  (207, .getfield 40, 3, 3, 9, 3, .inr (.inr (16, 8, 9)), [396]) ::
  (210, .iload_n 2, 1, 2, 0, 0, .inl 0, []) ::
  (211, .aload_n 0, 1, 0, 0, 0, .inl 0, []) ::
  (212, .getfield 9, 3, 3, 0, 0, .inl 0, [378]) ::
  (215, .iastore, 1, 0, 0, 0, .inl 0, []) ::
  (216, .return_, 1, 0, 0, 0, .inl 0, []) :: []) ls st μ := by rw [s_X4_goOnce_196]
theorem v_X4_goOnce_196 : vc X P m_X4_goOnce h K k_X4_goOnce S (n + 1) 196 ls st μ = if 196 ∈ S then mAt X m_X4_goOnce h K 196 ls st μ else bb X P m_X4_goOnce h K (vc X P m_X4_goOnce h K k_X4_goOnce S n) s_X4_goOnce_196 ls st μ := by rw [vc_s, t_X4_goOnce_196]
end
