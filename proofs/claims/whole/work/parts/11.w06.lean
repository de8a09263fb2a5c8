section
variable {X : mC} {P : mP} {h : Nat} {K : MV → Mem → Prop} {J : mJ} {ls : List (Nat × MV)} {st : List MV} {μ : Mem} {S : List Nat} {n : Nat}
theorem w_X9_readPlain_0 : bb X P m_X9_readPlain h K J s_X9_readPlain_0 ls st μ = bb X P m_X9_readPlain h K J ((0, .aload_n 0, 1, 0, 0, 0, .inl 0, []) ::
  (1, .iload_n 1, 1, 1, 0, 0, .inl 0, []) ::
  (2, .invokevirtual 186, 3, 219, 2, 1, .inl 0, [1425, 8]) ::
  (5, .istore_n 3, 1, 3, 0, 0, .inl 0, []) ::
  (6, .iload_n 3, 1, 3, 0, 0, .inl 0, []) ::
  (7, .iconst (-1), 1, 0, 0, 0, .inl (-1), []) ::
  (8, .if_icmp .eq 13, 3, 21, 0, 0, .inl 0, []) ::
  (11, .aload_n 0, 1, 0, 0, 0, .inl 0, []) ::
  (12, .iconst 1, 1, 0, 0, 0, .inl (nI 1), []) ::
  (13, .bipush 9, 2, 0, 0, 0, .inl (nI 9), []) ::
  (15, .invokevirtual 171, 3, 229, 3, 1, .inl 0, [1410, 8]) ::
  (18, .ifCond .ne 5, 3, 23, 0, 0, .inl 0, []) :: s_X9_readPlain_21) ls st μ := by rw [s_X9_readPlain_0]
theorem v_X9_readPlain_0 : vc X P m_X9_readPlain h K k_X9_readPlain S (n + 1) 0 ls st μ = if 0 ∈ S then mAt X m_X9_readPlain h K 0 ls st μ else bb X P m_X9_readPlain h K (vc X P m_X9_readPlain h K k_X9_readPlain S n) s_X9_readPlain_0 ls st μ := by rw [vc_s, t_X9_readPlain_0]
theorem w_X9_readPlain_21 : bb X P m_X9_readPlain h K J s_X9_readPlain_21 ls st μ = bb X P m_X9_readPlain h K J ((21, .iconst 0, 1, 0, 0, 0, .inl (nI 0), []) ::
  (22, .ireturn, 1, 1, 0, 0, .inl 0, []) :: s_X9_readPlain_23) ls st μ := by rw [s_X9_readPlain_21]
theorem v_X9_readPlain_21 : vc X P m_X9_readPlain h K k_X9_readPlain S (n + 1) 21 ls st μ = if 21 ∈ S then mAt X m_X9_readPlain h K 21 ls st μ else bb X P m_X9_readPlain h K (vc X P m_X9_readPlain h K k_X9_readPlain S n) s_X9_readPlain_21 ls st μ := by rw [vc_s, t_X9_readPlain_21]
theorem w_X9_readPlain_23 : bb X P m_X9_readPlain h K J s_X9_readPlain_23 ls st μ = bb X P m_X9_readPlain h K J ((23, .aload_n 0, 1, 0, 0, 0, .inl 0, []) ::
  (24, .getfield 16, 3, 8, 15, 3, .inr (.inr (16, 278, 3)), [1211]) ::
  (27, .iload_n 1, 1, 1, 0, 0, .inl 0, []) ::
  (28, .iload_n 3, 1, 3, 0, 0, .inl 0, []) ::
  (29, .iadd, 1, 0, 0, 0, .inl 0, []) ::
  (30, .aload_n 0, 1, 0, 0, 0, .inl 0, []) ::
  (31, .getfield 147, 3, 8, 13, 0, .inl 0, [1209]) ::
  (34, .iastore, 1, 0, 0, 0, .inl 0, []) ::
  (35, .aload_n 0, 1, 0, 0, 0, .inl 0, []) ::
  (36, .getfield 16, 3, 8, 15, 3, .inr (.inr (16, 278, 3)), [1211]) ::
  (39, .iload_n 2, 1, 2, 0, 0, .inl 0, []) ::
  (40, .dup2, 1, 0, 0, 0, .inl 0, []) ::
  (41, .iaload, 1, 0, 0, 0, .inl 0, []) ::
  (42, .iconst 1, 1, 0, 0, 0, .inl (nI 1), []) ::
  (43, .iadd, 1, 0, 0, 0, .inl 0, []) ::
  (44, .iastore, 1, 0, 0, 0, .inl 0, []) ::
  (45, .iconst 1, 1, 0, 0, 0, .inl (nI 1), []) ::
  (46, .ireturn, 1, 1, 0, 0, .inl 0, []) :: []) ls st μ := by rw [s_X9_readPlain_23]
theorem v_X9_readPlain_23 : vc X P m_X9_readPlain h K k_X9_readPlain S (n + 1) 23 ls st μ = if 23 ∈ S then mAt X m_X9_readPlain h K 23 ls st μ else bb X P m_X9_readPlain h K (vc X P m_X9_readPlain h K k_X9_readPlain S n) s_X9_readPlain_23 ls st μ := by rw [vc_s, t_X9_readPlain_23]
end
section
variable {X : mC} {P : mP} {h : Nat} {K : MV → Mem → Prop} {J : mJ} {ls : List (Nat × MV)} {st : List MV} {μ : Mem} {S : List Nat} {n : Nat}
theorem w_X9_readTakes_0 : bb X P m_X9_readTakes h K J s_X9_readTakes_0 ls st μ = bb X P m_X9_readTakes h K J ((0, .aload_n 0, 1, 0, 0, 0, .inl 0, []) ::
  (1, .bipush 38, 2, 0, 0, 0, .inl (nI 38), []) ::
  (3, .invokevirtual 186, 3, 219, 2, 1, .inl 0, [1425, 8]) ::
  (6, .istore_n 1, 1, 1, 0, 0, .inl 0, []) ::
  (7, .iload_n 1, 1, 1, 0, 0, .inl 0, []) ::
  (8, .iconst (-1), 1, 0, 0, 0, .inl (-1), []) ::
  (9, .if_icmp .eq 13, 3, 22, 0, 0, .inl 0, []) ::
  (12, .aload_n 0, 1, 0, 0, 0, .inl 0, []) ::
  (13, .iconst 1, 1, 0, 0, 0, .inl (nI 1), []) ::
  (14, .bipush 9, 2, 0, 0, 0, .inl (nI 9), []) ::
  (16, .invokevirtual 171, 3, 229, 3, 1, .inl 0, [1410, 8]) ::
  (19, .ifCond .ne 5, 3, 24, 0, 0, .inl 0, []) :: s_X9_readTakes_22) ls st μ := by rw [s_X9_readTakes_0]
theorem v_X9_readTakes_0 : vc X P m_X9_readTakes h K k_X9_readTakes S (n + 1) 0 ls st μ = if 0 ∈ S then mAt X m_X9_readTakes h K 0 ls st μ else bb X P m_X9_readTakes h K (vc X P m_X9_readTakes h K k_X9_readTakes S n) s_X9_readTakes_0 ls st μ := by rw [vc_s, t_X9_readTakes_0]
theorem w_X9_readTakes_22 : bb X P m_X9_readTakes h K J s_X9_readTakes_22 ls st μ = bb X P m_X9_readTakes h K J ((22, .iconst 0, 1, 0, 0, 0, .inl (nI 0), []) ::
  (23, .ireturn, 1, 1, 0, 0, .inl 0, []) :: s_X9_readTakes_24) ls st μ := by rw [s_X9_readTakes_22]
theorem v_X9_readTakes_22 : vc X P m_X9_readTakes h K k_X9_readTakes S (n + 1) 22 ls st μ = if 22 ∈ S then mAt X m_X9_readTakes h K 22 ls st μ else bb X P m_X9_readTakes h K (vc X P m_X9_readTakes h K k_X9_readTakes S n) s_X9_readTakes_22 ls st μ := by rw [vc_s, t_X9_readTakes_22]
theorem w_X9_readTakes_24 : bb X P m_X9_readTakes h K J s_X9_readTakes_24 ls st μ = bb X P m_X9_readTakes h K J ((24, .aload_n 0, 1, 0, 0, 0, .inl 0, []) ::
  (25, .getfield 16, 3, 8, 15, 3, .inr (.inr (16, 278, 3)), [1211]) ::
  (28, .bipush 38, 2, 0, 0, 0, .inl (nI 38), []) ::
  (30, .iload_n 1, 1, 1, 0, 0, .inl 0, []) ::
  (31, .iadd, 1, 0, 0, 0, .inl 0, []) ::
  (32, .aload_n 0, 1, 0, 0, 0, .inl 0, []) ::
  (33, .getfield 147, 3, 8, 13, 0, .inl 0, [1209]) ::
  (36, .iastore, 1, 0, 0, 0, .inl 0, []) ::
  (37, .aload_n 0, 1, 0, 0, 0, .inl 0, []) ::
  (38, .aload_n 0, 1, 0, 0, 0, .inl 0, []) ::
  (39, .getfield 147, 3, 8, 13, 0, .inl 0, [1209]) ::
  (42, .bipush 99, 2, 0, 0, 0, .inl (nI 99), []) ::
  (44, .invokevirtual 171, 3, 229, 3, 1, .inl 0, [1410, 8]) ::
  (47, .ifCond .ne 5, 3, 52, 0, 0, .inl 0, []) ::
  (50, .iconst 0, 1, 0, 0, 0, .inl (nI 0), []) ::
  (51, .ireturn, 1, 1, 0, 0, .inl 0, []) :: s_X9_readTakes_52) ls st μ := by rw [s_X9_readTakes_24]
theorem v_X9_readTakes_24 : vc X P m_X9_readTakes h K k_X9_readTakes S (n + 1) 24 ls st μ = if 24 ∈ S then mAt X m_X9_readTakes h K 24 ls st μ else bb X P m_X9_readTakes h K (vc X P m_X9_readTakes h K k_X9_readTakes S n) s_X9_readTakes_24 ls st μ := by rw [vc_s, t_X9_readTakes_24]
theorem w_X9_readTakes_52 : bb X P m_X9_readTakes h K J s_X9_readTakes_52 ls st μ = bb X P m_X9_readTakes h K J ((52, .aload_n 0, 1, 0, 0, 0, .inl 0, []) ::
  (53, .getfield 16, 3, 8, 15, 3, .inr (.inr (16, 278, 3)), [1211]) ::
  (56, .bipush 86, 2, 0, 0, 0, .inl (nI 86), []) ::
  (58, .iload_n 1, 1, 1, 0, 0, .inl 0, []) ::
  (59, .iadd, 1, 0, 0, 0, .inl 0, []) ::
  (60, .aload_n 0, 1, 0, 0, 0, .inl 0, []) ::
  (61, .getfield 147, 3, 8, 13, 0, .inl 0, [1209]) ::
  (64, .iastore, 1, 0, 0, 0, .inl 0, []) ::
  (65, .aload_n 0, 1, 0, 0, 0, .inl 0, []) ::
  (66, .iconst 0, 1, 0, 0, 0, .inl (nI 0), []) ::
  (67, .aload_n 0, 1, 0, 0, 0, .inl 0, []) ::
  (68, .getfield 147, 3, 8, 13, 0, .inl 0, [1209]) ::
  (71, .invokevirtual 171, 3, 229, 3, 1, .inl 0, [1410, 8]) ::
  (74, .ifCond .ne 5, 3, 79, 0, 0, .inl 0, []) ::
  (77, .iconst 0, 1, 0, 0, 0, .inl (nI 0), []) ::
  (78, .ireturn, 1, 1, 0, 0, .inl 0, []) :: s_X9_readTakes_79) ls st μ := by rw [s_X9_readTakes_52]
theorem v_X9_readTakes_52 : vc X P m_X9_readTakes h K k_X9_readTakes S (n + 1) 52 ls st μ = if 52 ∈ S then mAt X m_X9_readTakes h K 52 ls st μ else bb X P m_X9_readTakes h K (vc X P m_X9_readTakes h K k_X9_readTakes S n) s_X9_readTakes_52 ls st μ := by rw [vc_s, t_X9_readTakes_52]
theorem w_X9_readTakes_79 : bb X P m_X9_readTakes h K J s_X9_readTakes_79 ls st μ = bb X P m_X9_readTakes h K J ((79, .aload_n 0, 1, 0, 0, 0, .inl 0, []) ::
  (80, .getfield 16, 3, 8, 15, 3, .inr (.inr (16, 278, 3)), [1211]) ::
  (83, .sipush 134, 3, 0, 0, 0, .inl (nI 134), []) ::
  (86, .iload_n 1, 1, 1, 0, 0, .inl 0, []) ::
  (87, .iadd, 1, 0, 0, 0, .inl 0, []) ::
  (88, .aload_n 0, 1, 0, 0, 0, .inl 0, []) ::
  (89, .getfield 147, 3, 8, 13, 0, .inl 0, [1209]) ::
  (92, .iastore, 1, 0, 0, 0, .inl 0, []) ::
  (93, .aload_n 0, 1, 0, 0, 0, .inl 0, []) ::
  (94, .getfield 16, 3, 8, 15, 3, .inr (.inr (16, 278, 3)), [1211]) ::
  (97, .iconst 3, 1, 0, 0, 0, .inl (nI 3), []) ::
  (98, .dup2, 1, 0, 0, 0, .inl 0, []) ::
  (99, .iaload, 1, 0, 0, 0, .inl 0, []) ::
  (100, .iconst 1, 1, 0, 0, 0, .inl (nI 1), []) ::
  (101, .iadd, 1, 0, 0, 0, .inl 0, []) ::
  (102, .iastore, 1, 0, 0, 0, .inl 0, []) ::
  (103, .iconst 1, 1, 0, 0, 0, .inl (nI 1), []) ::
  (104, .ireturn, 1, 1, 0, 0, .inl 0, []) :: []) ls st μ := by rw [s_X9_readTakes_79]
theorem v_X9_readTakes_79 : vc X P m_X9_readTakes h K k_X9_readTakes S (n + 1) 79 ls st μ = if 79 ∈ S then mAt X m_X9_readTakes h K 79 ls st μ else bb X P m_X9_readTakes h K (vc X P m_X9_readTakes h K k_X9_readTakes S n) s_X9_readTakes_79 ls st μ := by rw [vc_s, t_X9_readTakes_79]
end
section
variable {X : mC} {P : mP} {h : Nat} {K : MV → Mem → Prop} {J : mJ} {ls : List (Nat × MV)} {st : List MV} {μ : Mem} {S : List Nat} {n : Nat}
theorem w_X9_readWork_0 : bb X P m_X9_readWork h K J s_X9_readWork_0 ls st μ = bb X P m_X9_readWork h K J ((0, .aload_n 0, 1, 0, 0, 0, .inl 0, []) ::
  (1, .getfield 16, 3, 8, 15, 3, .inr (.inr (16, 278, 3)), [1211]) ::
  (4, .iconst 1, 1, 0, 0, 0, .inl (nI 1), []) ::
  (5, .iaload, 1, 0, 0, 0, .inl 0, []) ::
  (6, .istore_n 1, 1, 1, 0, 0, .inl 0, []) ::
  (7, .iload_n 1, 1, 1, 0, 0, .inl 0, []) ::
  (8, .bipush 8, 2, 0, 0, 0, .inl (nI 8), []) ::
  (10, .if_icmp .ne 9, 3, 19, 0, 0, .inl 0, []) ::
  (13, .aload_n 0, 1, 0, 0, 0, .inl 0, []) ::
  (14, .iconst 4, 1, 0, 0, 0, .inl (nI 4), []) ::
  (15, .invokevirtual 140, 3, 140, 2, 1, .inl 0, [1395, 8]) ::
  (18, .ireturn, 1, 1, 0, 0, .inl 0, []) :: s_X9_readWork_19) ls st μ := by rw [s_X9_readWork_0]
theorem v_X9_readWork_0 : vc X P m_X9_readWork h K k_X9_readWork S (n + 1) 0 ls st μ = if 0 ∈ S then mAt X m_X9_readWork h K 0 ls st μ else bb X P m_X9_readWork h K (vc X P m_X9_readWork h K k_X9_readWork S n) s_X9_readWork_0 ls st μ := by rw [vc_s, t_X9_readWork_0]
theorem w_X9_readWork_19 : bb X P m_X9_readWork h K J s_X9_readWork_19 ls st μ = bb X P m_X9_readWork h K J ((19, .aload_n 0, 1, 0, 0, 0, .inl 0, []) ::
  (20, .invokevirtual 150, 3, 162, 1, 0, .inl 0, [1361, 8]) ::
  (23, .aload_n 0, 1, 0, 0, 0, .inl 0, []) ::
  (24, .bipush 6, 2, 0, 0, 0, .inl (nI 6), []) ::
  (26, .iload_n 1, 1, 1, 0, 0, .inl 0, []) ::
  (27, .iadd, 1, 0, 0, 0, .inl 0, []) ::
  (28, .invokevirtual 168, 3, 227, 2, 1, .inl 0, [1399, 8]) ::
  (31, .ifCond .ne 5, 3, 36, 0, 0, .inl 0, []) ::
  (34, .iconst 0, 1, 0, 0, 0, .inl (nI 0), []) ::
  (35, .ireturn, 1, 1, 0, 0, .inl 0, []) :: s_X9_readWork_36) ls st μ := by rw [s_X9_readWork_19]
theorem v_X9_readWork_19 : vc X P m_X9_readWork h K k_X9_readWork S (n + 1) 19 ls st μ = if 19 ∈ S then mAt X m_X9_readWork h K 19 ls st μ else bb X P m_X9_readWork h K (vc X P m_X9_readWork h K k_X9_readWork S n) s_X9_readWork_19 ls st μ := by rw [vc_s, t_X9_readWork_19]
theorem w_X9_readWork_36 : bb X P m_X9_readWork h K J s_X9_readWork_36 ls st μ = bb X P m_X9_readWork h K J ((36, .aload_n 0, 1, 0, 0, 0, .inl 0, []) ::
  (37, .getfield 16, 3, 8, 15, 3, .inr (.inr (16, 278, 3)), [1211]) ::
  (40, .bipush 14, 2, 0, 0, 0, .inl (nI 14), []) ::
  (42, .iload_n 1, 1, 1, 0, 0, .inl 0, []) ::
  (43, .iadd, 1, 0, 0, 0, .inl 0, []) ::
  (44, .iconst 0, 1, 0, 0, 0, .inl (nI 0), []) ::
  (45, .iastore, 1, 0, 0, 0, .inl 0, []) ::
  (46, .aload_n 0, 1, 0, 0, 0, .inl 0, []) ::
  (47, .getfield 16, 3, 8, 15, 3, .inr (.inr (16, 278, 3)), [1211]) ::
  (50, .bipush 22, 2, 0, 0, 0, .inl (nI 22), []) ::
  (52, .iload_n 1, 1, 1, 0, 0, .inl 0, []) ::
  (53, .iadd, 1, 0, 0, 0, .inl 0, []) ::
  (54, .bipush 11, 2, 0, 0, 0, .inl (nI 11), []) ::
  (56, .iastore, 1, 0, 0, 0, .inl 0, []) ::
  (57, .aload_n 0, 1, 0, 0, 0, .inl 0, []) ::
  (58, .getfield 98, 3, 8, 7, 0, .inl 0, [1203]) ::
  (61, .iconst 3, 1, 0, 0, 0, .inl (nI 3), []) ::
  (62, .if_icmp .ne 56, 3, 118, 0, 0, .inl 0, []) ::
  (65, .aload_n 0, 1, 0, 0, 0, .inl 0, []) ::
  (66, .iconst 0, 1, 0, 0, 0, .inl (nI 0), []) ::
  (67, .bipush 11, 2, 0, 0, 0, .inl (nI 11), []) ::
  (69, .invokevirtual 171, 3, 229, 3, 1, .inl 0, [1410, 8]) ::
  (72, .ifCond .ne 5, 3, 77, 0, 0, .inl 0, []) ::
  (75, .iconst 0, 1, 0, 0, 0, .inl (nI 0), []) ::
  (76, .ireturn, 1, 1, 0, 0, .inl 0, []) :: s_X9_readWork_77) ls st μ := by rw [s_X9_readWork_36]
theorem v_X9_readWork_36 : vc X P m_X9_readWork h K k_X9_readWork S (n + 1) 36 ls st μ = if 36 ∈ S then mAt X m_X9_readWork h K 36 ls st μ else bb X P m_X9_readWork h K (vc X P m_X9_readWork h K k_X9_readWork S n) s_X9_readWork_36 ls st μ := by rw [vc_s, t_X9_readWork_36]
theorem w_X9_readWork_77 : bb X P m_X9_readWork h K J s_X9_readWork_77 ls st μ = bb X P m_X9_readWork h K J ((77, .aload_n 0, 1, 0, 0, 0, .inl 0, []) ::
  (78, .getfield 16, 3, 8, 15, 3, .inr (.inr (16, 278, 3)), [1211]) ::
  (81, .bipush 14, 2, 0, 0, 0, .inl (nI 14), []) ::
  (83, .iload_n 1, 1, 1, 0, 0, .inl 0, []) ::
  (84, .iadd, 1, 0, 0, 0, .inl 0, []) ::
  (85, .aload_n 0, 1, 0, 0, 0, .inl 0, []) ::
  (86, .getfield 147, 3, 8, 13, 0, .inl 0, [1209]) ::
  (89, .iastore, 1, 0, 0, 0, .inl 0, []) ::
  (90, .aload_n 0, 1, 0, 0, 0, .inl 0, []) ::
  (91, .aload_n 0, 1, 0, 0, 0, .inl 0, []) ::
  (92, .getfield 147, 3, 8, 13, 0, .inl 0, [1209]) ::
  (95, .bipush 11, 2, 0, 0, 0, .inl (nI 11), []) ::
  (97, .invokevirtual 171, 3, 229, 3, 1, .inl 0, [1410, 8]) ::
  (100, .ifCond .ne 5, 3, 105, 0, 0, .inl 0, []) ::
  (103, .iconst 0, 1, 0, 0, 0, .inl (nI 0), []) ::
  (104, .ireturn, 1, 1, 0, 0, .inl 0, []) :: s_X9_readWork_105) ls st μ := by rw [s_X9_readWork_77]
theorem v_X9_readWork_77 : vc X P m_X9_readWork h K k_X9_readWork S (n + 1) 77 ls st μ = if 77 ∈ S then mAt X m_X9_readWork h K 77 ls st μ else bb X P m_X9_readWork h K (vc X P m_X9_readWork h K k_X9_readWork S n) s_X9_readWork_77 ls st μ := by rw [vc_s, t_X9_readWork_77]
theorem w_X9_readWork_105 : bb X P m_X9_readWork h K J s_X9_readWork_105 ls st μ = bb X P m_X9_readWork h K J ((105, .aload_n 0, 1, 0, 0, 0, .inl 0, []) ::
  (106, .getfield 16, 3, 8, 15, 3, .inr (.inr (16, 278, 3)), [1211]) ::
  (109, .bipush 22, 2, 0, 0, 0, .inl (nI 22), []) ::
  (111, .iload_n 1, 1, 1, 0, 0, .inl 0, []) ::
  (112, .iadd, 1, 0, 0, 0, .inl 0, []) ::
  (113, .aload_n 0, 1, 0, 0, 0, .inl 0, []) ::
  (114, .getfield 147, 3, 8, 13, 0, .inl 0, [1209]) ::
  (117, .iastore, 1, 0, 0, 0, .inl 0, []) :: s_X9_readWork_118) ls st μ := by rw [s_X9_readWork_105]
theorem v_X9_readWork_105 : vc X P m_X9_readWork h K k_X9_readWork S (n + 1) 105 ls st μ = if 105 ∈ S then mAt X m_X9_readWork h K 105 ls st μ else bb X P m_X9_readWork h K (vc X P m_X9_readWork h K k_X9_readWork S n) s_X9_readWork_105 ls st μ := by rw [vc_s, t_X9_readWork_105]
theorem w_X9_readWork_118 : bb X P m_X9_readWork h K J s_X9_readWork_118 ls st μ = bb X P m_X9_readWork h K J ((118, .aload_n 0, 1, 0, 0, 0, .inl 0, []) ::
  (119, .getfield 16, 3, 8, 15, 3, .inr (.inr (16, 278, 3)), [1211]) ::
  (122, .iconst 1, 1, 0, 0, 0, .inl (nI 1), []) ::
  (123, .dup2, 1, 0, 0, 0, .inl 0, []) ::
  (124, .iaload, 1, 0, 0, 0, .inl 0, []) ::
  (125, .iconst 1, 1, 0, 0, 0, .inl (nI 1), []) ::
  (126, .iadd, 1, 0, 0, 0, .inl 0, []) ::
  (127, .iastore, 1, 0, 0, 0, .inl 0, []) ::
  (128, .iconst 1, 1, 0, 0, 0, .inl (nI 1), []) ::
  (129, .ireturn, 1, 1, 0, 0, .inl 0, []) :: []) ls st μ := by rw [s_X9_readWork_118]
theorem v_X9_readWork_118 : vc X P m_X9_readWork h K k_X9_readWork S (n + 1) 118 ls st μ = if 118 ∈ S then mAt X m_X9_readWork h K 118 ls st μ else bb X P m_X9_readWork h K (vc X P m_X9_readWork h K k_X9_readWork S n) s_X9_readWork_118 ls st μ := by rw [vc_s, t_X9_readWork_118]
end
section
variable {X : mC} {P : mP} {h : Nat} {K : MV → Mem → Prop} {J : mJ} {ls : List (Nat × MV)} {st : List MV} {μ : Mem} {S : List Nat} {n : Nat}
theorem w_X9_refuse_0 : bb X P m_X9_refuse h K J s_X9_refuse_0 ls st μ = bb X P m_X9_refuse h K J ((0, .aload_n 0, 1, 0, 0, 0, .inl 0, []) ::
  (1, .iconst 1, 1, 0, 0, 0, .inl (nI 1), []) ::
  (2, .putfield 76, 3, 8, 0, 0, .inl 0, [1196]) ::
  (5, .iconst 0, 1, 0, 0, 0, .inl (nI 0), []) ::
  (6, .ireturn, 1, 0, 0, 0, .inl 0, []) :: []) ls st μ := by rw [s_X9_refuse_0]
theorem v_X9_refuse_0 : vc X P m_X9_refuse h K k_X9_refuse S (n + 1) 0 ls st μ = if 0 ∈ S then mAt X m_X9_refuse h K 0 ls st μ else bb X P m_X9_refuse h K (vc X P m_X9_refuse h K k_X9_refuse S n) s_X9_refuse_0 ls st μ := by rw [vc_s, t_X9_refuse_0]
end
section
variable {X : mC} {P : mP} {h : Nat} {K : MV → Mem → Prop} {J : mJ} {ls : List (Nat × MV)} {st : List MV} {μ : Mem} {S : List Nat} {n : Nat}
theorem w_X9_rest_0 : bb X P m_X9_rest h K J s_X9_rest_0 ls st μ = bb X P m_X9_rest h K J ((0, .aload_n 0, 1, 0, 0, 0, .inl 0, []) ::
  (1, .iconst 0, 1, 0, 0, 0, .inl (nI 0), []) ::
  (2, .putfield 76, 3, 8, 0, 0, .inl 0, [1196]) ::
  (5, .aload_n 0, 1, 0, 0, 0, .inl 0, []) ::
  (6, .invokevirtual 219, 3, 253, 1, 1, .inl 0, [1472, 8]) ::
  (9, .ifCond .ne 5, 3, 14, 0, 0, .inl 0, []) ::
  (12, .iconst (-1), 1, 0, 0, 0, .inl (-1), []) ::
  (13, .ireturn, 1, 0, 0, 0, .inl 0, []) :: s_X9_rest_14) ls st μ := by rw [s_X9_rest_0]
theorem v_X9_rest_0 : vc X P m_X9_rest h K k_X9_rest S (n + 1) 0 ls st μ = if 0 ∈ S then mAt X m_X9_rest h K 0 ls st μ else bb X P m_X9_rest h K (vc X P m_X9_rest h K k_X9_rest S n) s_X9_rest_0 ls st μ := by rw [vc_s, t_X9_rest_0]
theorem w_X9_rest_14 : bb X P m_X9_rest h K J s_X9_rest_14 ls st μ = bb X P m_X9_rest h K J ((14, .iconst 0, 1, 0, 0, 0, .inl (nI 0), []) ::
  (15, .istore_n 1, 1, 1, 0, 0, .inl 0, []) ::
  (16, .iconst (-1), 1, 0, 0, 0, .inl (-1), []) ::
  (17, .istore_n 2, 1, 2, 0, 0, .inl 0, []) ::
  (18, .iconst 0, 1, 0, 0, 0, .inl (nI 0), []) ::
  (19, .istore_n 3, 1, 3, 0, 0, .inl 0, []) :: s_X9_rest_20) ls st μ := by rw [s_X9_rest_14]
theorem v_X9_rest_14 : vc X P m_X9_rest h K k_X9_rest S (n + 1) 14 ls st μ = if 14 ∈ S then mAt X m_X9_rest h K 14 ls st μ else bb X P m_X9_rest h K (vc X P m_X9_rest h K k_X9_rest S n) s_X9_rest_14 ls st μ := by rw [vc_s, t_X9_rest_14]
theorem w_X9_rest_20 : bb X P m_X9_rest h K J s_X9_rest_20 ls st μ = bb X P m_X9_rest h K J ((20, .iload_n 3, 1, 3, 0, 0, .inl 0, []) ::
  (21, .bipush 7, 2, 0, 0, 0, .inl (nI 7), []) ::
  (23, .if_icmp .ge 40, 3, 63, 0, 0, .inl 0, []) ::
  (26, .aload_n 0, 1, 0, 0, 0, .inl 0, []) ::
  (27, .invokevirtual 285, 3, 196, 1, 0, .inl 0, [1504, 8]) ::
  (30, .aload_n 0, 1, 0, 0, 0, .inl 0, []) ::
  (31, .iload_n 3, 1, 3, 0, 0, .inl 0, []) ::
  (32, .putfield 240, 3, 8, 28, 0, .inl 0, [1224]) ::
  (35, .aload_n 0, 1, 0, 0, 0, .inl 0, []) ::
  (36, .bipush 84, 2, 0, 0, 0, .inl (nI 84), []) ::
  (38, .invokevirtual 297, 3, 238, 2, 1, .inl 0, [1621, 8]) ::
  (41, .istore 4, 2, 4, 0, 0, .inl 0, []) ::
  (43, .iload 4, 2, 4, 0, 0, .inl 0, []) ::
  (45, .iload_n 2, 1, 2, 0, 0, .inl 0, []) ::
  (46, .if_icmp .gt 6, 3, 52, 0, 0, .inl 0, []) ::
  (49, .goto 8, 3, 57, 0, 0, .inl 0, []) :: s_X9_rest_52) ls st μ := by rw [s_X9_rest_20]
theorem v_X9_rest_20 : vc X P m_X9_rest h K k_X9_rest S (n + 1) 20 ls st μ = if 20 ∈ S then mAt X m_X9_rest h K 20 ls st μ else bb X P m_X9_rest h K (vc X P m_X9_rest h K k_X9_rest S n) s_X9_rest_20 ls st μ := by rw [vc_s, t_X9_rest_20]
theorem w_X9_rest_52 : bb X P m_X9_rest h K J s_X9_rest_52 ls st μ = bb X P m_X9_rest h K J ((52, .iload 4, 2, 4, 0, 0, .inl 0, []) ::
  (54, .istore_n 2, 1, 2, 0, 0, .inl 0, []) ::
  (55, .iload_n 3, 1, 3, 0, 0, .inl 0, []) ::
  (56, .istore_n 1, 1, 1, 0, 0, .inl 0, []) :: s_X9_rest_57) ls st μ := by rw [s_X9_rest_52]
theorem v_X9_rest_52 : vc X P m_X9_rest h K k_X9_rest S (n + 1) 52 ls st μ = if 52 ∈ S then mAt X m_X9_rest h K 52 ls st μ else bb X P m_X9_rest h K (vc X P m_X9_rest h K k_X9_rest S n) s_X9_rest_52 ls st μ := by rw [vc_s, t_X9_rest_52]
theorem w_X9_rest_57 : bb X P m_X9_rest h K J s_X9_rest_57 ls st μ = bb X P m_X9_rest h K J ((57, .iinc 3 1, 3, 3, 0, 0, .inl (nI 1), []) ::
  (60, .goto (-40), 3, 20, 0, 0, .inl 0, []) :: s_X9_rest_63) ls st μ := by rw [s_X9_rest_57]
theorem v_X9_rest_57 : vc X P m_X9_rest h K k_X9_rest S (n + 1) 57 ls st μ = if 57 ∈ S then mAt X m_X9_rest h K 57 ls st μ else bb X P m_X9_rest h K (vc X P m_X9_rest h K k_X9_rest S n) s_X9_rest_57 ls st μ := by rw [vc_s, t_X9_rest_57]
theorem w_X9_rest_63 : bb X P m_X9_rest h K J s_X9_rest_63 ls st μ = bb X P m_X9_rest h K J ((63, .iload_n 1, 1, 1, 0, 0, .inl 0, []) ::
  (64, .ireturn, 1, 0, 0, 0, .inl 0, []) :: []) ls st μ := by rw [s_X9_rest_63]
theorem v_X9_rest_63 : vc X P m_X9_rest h K k_X9_rest S (n + 1) 63 ls st μ = if 63 ∈ S then mAt X m_X9_rest h K 63 ls st μ else bb X P m_X9_rest h K (vc X P m_X9_rest h K k_X9_rest S n) s_X9_rest_63 ls st μ := by rw [vc_s, t_X9_rest_63]
end
section
variable {X : mC} {P : mP} {h : Nat} {K : MV → Mem → Prop} {J : mJ} {ls : List (Nat × MV)} {st : List MV} {μ : Mem} {S : List Nat} {n : Nat}
theorem w_X9_restore_0 : bb X P m_X9_restore h K J s_X9_restore_0 ls st μ = bb X P m_X9_restore h K J ((0, .aload_n 0, 1, 0, 0, 0, .inl 0, []) ::
  (1, .iconst 0, 1, 0, 0, 0, .inl (nI 0), []) ::
  (2, .putfield 76, 3, 8, 0, 0, .inl 0, [1196]) ::
  (5, .iload_n 1, 1, 1, 0, 0, .inl 0, []) ::
  (6, .iconst 0, 1, 0, 0, 0, .inl (nI 0), []) ::
  (7, .iconst 1, 1, 0, 0, 0, .inl (nI 1), []) ::
  (8, .invokestatic 143, 3, 177, 3, 1, .inl 0, [1414]) ::
  (11, .ifCond .eq 12, 3, 23, 0, 0, .inl 0, []) ::
  (14, .aload_n 0, 1, 0, 0, 0, .inl 0, []) ::
  (15, .getfield 35, 3, 8, 21, 3, .inr (.inr (18, 2, 9)), [1217]) ::
  (18, .iload_n 1, 1, 1, 0, 0, .inl 0, []) ::
  (19, .baload, 1, 0, 0, 0, .inl 0, []) ::
  (20, .ifCond .ne 5, 3, 25, 0, 0, .inl 0, []) :: s_X9_restore_23) ls st μ := by rw [s_X9_restore_0]
theorem v_X9_restore_0 : vc X P m_X9_restore h K k_X9_restore S (n + 1) 0 ls st μ = if 0 ∈ S then mAt X m_X9_restore h K 0 ls st μ else bb X P m_X9_restore h K (vc X P m_X9_restore h K k_X9_restore S n) s_X9_restore_0 ls st μ := by rw [vc_s, t_X9_restore_0]
theorem w_X9_restore_23 : bb X P m_X9_restore h K J s_X9_restore_23 ls st μ = bb X P m_X9_restore h K J ((23, .iconst 0, 1, 0, 0, 0, .inl (nI 0), []) ::
  (24, .ireturn, 1, 1, 0, 0, .inl 0, []) :: s_X9_restore_25) ls st μ := by rw [s_X9_restore_23]
theorem v_X9_restore_23 : vc X P m_X9_restore h K k_X9_restore S (n + 1) 23 ls st μ = if 23 ∈ S then mAt X m_X9_restore h K 23 ls st μ else bb X P m_X9_restore h K (vc X P m_X9_restore h K k_X9_restore S n) s_X9_restore_23 ls st μ := by rw [vc_s, t_X9_restore_23]
theorem w_X9_restore_25 : bb X P m_X9_restore h K J s_X9_restore_25 ls st μ = bb X P m_X9_restore h K J ((25, .iconst 0, 1, 0, 0, 0, .inl (nI 0), []) ::
  (26, .istore_n 2, 1, 2, 0, 0, .inl 0, []) :: s_X9_restore_27) ls st μ := by rw [s_X9_restore_25]
theorem v_X9_restore_25 : vc X P m_X9_restore h K k_X9_restore S (n + 1) 25 ls st μ = if 25 ∈ S then mAt X m_X9_restore h K 25 ls st μ else bb X P m_X9_restore h K (vc X P m_X9_restore h K k_X9_restore S n) s_X9_restore_25 ls st μ := by rw [vc_s, t_X9_restore_25]
theorem w_X9_restore_27 : bb X P m_X9_restore h K J s_X9_restore_27 ls st μ = bb X P m_X9_restore h K J ((27, .iload_n 2, 1, 2, 0, 0, .inl 0, []) ::
  (28, .sipush 925, 3, 0, 0, 0, .inl (nI 925), []) ::
  (31, .if_icmp .ge 27, 3, 58, 0, 0, .inl 0, []) ::
  (34, .aload_n 0, 1, 0, 0, 0, .inl 0, []) ::
  (35, .getfield 13, 3, 8, 14, 3, .inr (.inr (16, 925, 2)), [1210]) ::
  (38, .iload_n 2, 1, 2, 0, 0, .inl 0, []) ::
  (39, .aload_n 0, 1, 0, 0, 0, .inl 0, []) ::
  (40, .getfield 22, 3, 8, 17, 3, .inr (.inr (16, 1850, 5)), [1213]) ::
  (43, .sipush 925, 3, 0, 0, 0, .inl (nI 925), []) ::
  (46, .iload_n 1, 1, 1, 0, 0, .inl 0, []) ::
  (47, .imul, 1, 0, 0, 0, .inl 0, []) ::
  (48, .iload_n 2, 1, 2, 0, 0, .inl 0, []) ::
  (49, .iadd, 1, 0, 0, 0, .inl 0, []) ::
  (50, .iaload, 1, 0, 0, 0, .inl 0, []) ::
  (51, .iastore, 1, 0, 0, 0, .inl 0, []) ::
  (52, .iinc 2 1, 3, 2, 0, 0, .inl (nI 1), []) ::
  (55, .goto (-28), 3, 27, 0, 0, .inl 0, []) :: s_X9_restore_58) ls st μ := by rw [s_X9_restore_27]
theorem v_X9_restore_27 : vc X P m_X9_restore h K k_X9_restore S (n + 1) 27 ls st μ = if 27 ∈ S then mAt X m_X9_restore h K 27 ls st μ else bb X P m_X9_restore h K (vc X P m_X9_restore h K k_X9_restore S n) s_X9_restore_27 ls st μ := by rw [vc_s, t_X9_restore_27]
theorem w_X9_restore_58 : bb X P m_X9_restore h K J s_X9_restore_58 ls st μ = bb X P m_X9_restore h K J ((58, .iconst 0, 1, 0, 0, 0, .inl (nI 0), []) ::
  (59, .istore_n 2, 1, 2, 0, 0, .inl 0, []) :: s_X9_restore_60) ls st μ := by rw [s_X9_restore_58]
theorem v_X9_restore_58 : vc X P m_X9_restore h K k_X9_restore S (n + 1) 58 ls st μ = if 58 ∈ S then mAt X m_X9_restore h K 58 ls st μ else bb X P m_X9_restore h K (vc X P m_X9_restore h K k_X9_restore S n) s_X9_restore_58 ls st μ := by rw [vc_s, t_X9_restore_58]
theorem w_X9_restore_60 : bb X P m_X9_restore h K J s_X9_restore_60 ls st μ = bb X P m_X9_restore h K J ((60, .iload_n 2, 1, 2, 0, 0, .inl 0, []) ::
  (61, .bipush 14, 2, 0, 0, 0, .inl (nI 14), []) ::
  (63, .if_icmp .ge 26, 3, 89, 0, 0, .inl 0, []) ::
  (66, .aload_n 0, 1, 0, 0, 0, .inl 0, []) ::
  (67, .getfield 25, 3, 8, 18, 3, .inr (.inr (17, 14, 6)), [1214]) ::
  (70, .iload_n 2, 1, 2, 0, 0, .inl 0, []) ::
  (71, .aload_n 0, 1, 0, 0, 0, .inl 0, []) ::
  (72, .getfield 32, 3, 8, 20, 3, .inr (.inr (17, 28, 8)), [1216]) ::
  (75, .bipush 14, 2, 0, 0, 0, .inl (nI 14), []) ::
  (77, .iload_n 1, 1, 1, 0, 0, .inl 0, []) ::
  (78, .imul, 1, 0, 0, 0, .inl 0, []) ::
  (79, .iload_n 2, 1, 2, 0, 0, .inl 0, []) ::
  (80, .iadd, 1, 0, 0, 0, .inl 0, []) ::
  (81, .laload, 1, 0, 0, 0, .inl 0, []) ::
  (82, .lastore, 1, 0, 0, 0, .inl 0, []) ::
  (83, .iinc 2 1, 3, 2, 0, 0, .inl (nI 1), []) ::
  (86, .goto (-26), 3, 60, 0, 0, .inl 0, []) :: s_X9_restore_89) ls st μ := by rw [s_X9_restore_60]
theorem v_X9_restore_60 : vc X P m_X9_restore h K k_X9_restore S (n + 1) 60 ls st μ = if 60 ∈ S then mAt X m_X9_restore h K 60 ls st μ else bb X P m_X9_restore h K (vc X P m_X9_restore h K k_X9_restore S n) s_X9_restore_60 ls st μ := by rw [vc_s, t_X9_restore_60]
theorem w_X9_restore_89 : bb X P m_X9_restore h K J s_X9_restore_89 ls st μ = bb X P m_X9_restore h K J ((89, .iconst 1, 1, 0, 0, 0, .inl (nI 1), []) ::
  (90, .ireturn, 1, 1, 0, 0, .inl 0, []) :: []) ls st μ := by rw [s_X9_restore_89]
theorem v_X9_restore_89 : vc X P m_X9_restore h K k_X9_restore S (n + 1) 89 ls st μ = if 89 ∈ S then mAt X m_X9_restore h K 89 ls st μ else bb X P m_X9_restore h K (vc X P m_X9_restore h K k_X9_restore S n) s_X9_restore_89 ls st μ := by rw [vc_s, t_X9_restore_89]
end
section
variable {X : mC} {P : mP} {h : Nat} {K : MV → Mem → Prop} {J : mJ} {ls : List (Nat × MV)} {st : List MV} {μ : Mem} {S : List Nat} {n : Nat}
theorem w_X9_run_0 : bb X P m_X9_run h K J s_X9_run_0 ls st μ = bb X P m_X9_run h K J ((0, .aload_n 0, 1, 0, 0, 0, .inl 0, []) ::
  (1, .aload_n 0, 1, 0, 0, 0, .inl 0, []) ::
  (2, .getfield 42, 3, 8, 23, 3, .inr (.inr (16, 296, 11)), [1219]) ::
  (5, .iconst 0, 1, 0, 0, 0, .inl (nI 0), []) ::
  (6, .invokevirtual 274, 3, 242, 3, 0, .inl 0, [1508, 8]) ::
  (9, .iconst 0, 1, 0, 0, 0, .inl (nI 0), []) ::
  (10, .istore_n 2, 1, 2, 0, 0, .inl 0, []) :: s_X9_run_11) ls st μ := by rw [s_X9_run_0]
theorem v_X9_run_0 : vc X P m_X9_run h K k_X9_run S (n + 1) 0 ls st μ = if 0 ∈ S then mAt X m_X9_run h K 0 ls st μ else bb X P m_X9_run h K (vc X P m_X9_run h K k_X9_run S n) s_X9_run_0 ls st μ := by rw [vc_s, t_X9_run_0]
theorem w_X9_run_11 : bb X P m_X9_run h K J s_X9_run_11 ls st μ = bb X P m_X9_run h K J ((11, .iload_n 2, 1, 2, 0, 0, .inl 0, []) ::
  (12, .iload_n 1, 1, 1, 0, 0, .inl 0, []) ::
  (13, .if_icmp .ge 18, 3, 31, 0, 0, .inl 0, []) ::
  (16, .aload_n 0, 1, 0, 0, 0, .inl 0, []) ::
  (17, .aload_n 0, 1, 0, 0, 0, .inl 0, []) ::
  (18, .getfield 42, 3, 8, 23, 3, .inr (.inr (16, 296, 11)), [1219]) ::
  (21, .iconst 0, 1, 0, 0, 0, .inl (nI 0), []) ::
  (22, .invokevirtual 278, 3, 171, 3, 0, .inl 0, [1520, 8]) ::
  (25, .iinc 2 1, 3, 2, 0, 0, .inl (nI 1), []) ::
  (28, .goto (-17), 3, 11, 0, 0, .inl 0, []) :: s_X9_run_31) ls st μ := by rw [s_X9_run_11]
theorem v_X9_run_11 : vc X P m_X9_run h K k_X9_run S (n + 1) 11 ls st μ = if 11 ∈ S then mAt X m_X9_run h K 11 ls st μ else bb X P m_X9_run h K (vc X P m_X9_run h K k_X9_run S n) s_X9_run_11 ls st μ := by rw [vc_s, t_X9_run_11]
theorem w_X9_run_31 : bb X P m_X9_run h K J s_X9_run_31 ls st μ = bb X P m_X9_run h K J ((31, .aload_n 0, 1, 0, 0, 0, .inl 0, []) ::
  (32, .aload_n 0, 1, 0, 0, 0, .inl 0, []) ::
  (33, .getfield 42, 3, 8, 23, 3, .inr (.inr (16, 296, 11)), [1219]) ::
  (36, .iconst 0, 1, 0, 0, 0, .inl (nI 0), []) ::
  (37, .invokevirtual 281, 3, 205, 3, 1, .inl 0, [1586, 8]) ::
  (40, .ireturn, 1, 0, 0, 0, .inl 0, []) :: []) ls st μ := by rw [s_X9_run_31]
theorem v_X9_run_31 : vc X P m_X9_run h K k_X9_run S (n + 1) 31 ls st μ = if 31 ∈ S then mAt X m_X9_run h K 31 ls st μ else bb X P m_X9_run h K (vc X P m_X9_run h K k_X9_run S n) s_X9_run_31 ls st μ := by rw [vc_s, t_X9_run_31]
end
section
variable {X : mC} {P : mP} {h : Nat} {K : MV → Mem → Prop} {J : mJ} {ls : List (Nat × MV)} {st : List MV} {μ : Mem} {S : List Nat} {n : Nat}
theorem w_X9_said_0 : bb X P m_X9_said h K J s_X9_said_0 ls st μ = bb X P m_X9_said h K J ((0, .aload_n 0, 1, 0, 0, 0, .inl 0, []) ::
  (1, .iconst 0, 1, 0, 0, 0, .inl (nI 0), []) ::
  (2, .putfield 76, 3, 8, 0, 0, .inl 0, [1196]) ::
  (5, .aload_n 0, 1, 0, 0, 0, .inl 0, []) ::
  (6, .getfield 13, 3, 8, 14, 3, .inr (.inr (16, 925, 2)), [1210]) ::
  (9, .sipush 379, 3, 0, 0, 0, .inl (nI 379), []) ::
  (12, .iaload, 1, 0, 0, 0, .inl 0, []) ::
  (13, .ifCond .eq 10, 3, 23, 0, 0, .inl 0, []) ::
  (16, .aload_n 0, 1, 0, 0, 0, .inl 0, []) ::
  (17, .invokevirtual 288, 3, 180, 1, 1, .inl 0, [1516, 8]) ::
  (20, .ifCond .ne 5, 3, 25, 0, 0, .inl 0, []) :: s_X9_said_23) ls st μ := by rw [s_X9_said_0]
theorem v_X9_said_0 : vc X P m_X9_said h K k_X9_said S (n + 1) 0 ls st μ = if 0 ∈ S then mAt X m_X9_said h K 0 ls st μ else bb X P m_X9_said h K (vc X P m_X9_said h K k_X9_said S n) s_X9_said_0 ls st μ := by rw [vc_s, t_X9_said_0]
theorem w_X9_said_23 : bb X P m_X9_said h K J s_X9_said_23 ls st μ = bb X P m_X9_said h K J ((23, .iconst (-1), 1, 0, 0, 0, .inl (-1), []) ::
  (24, .ireturn, 1, 0, 0, 0, .inl 0, []) :: s_X9_said_25) ls st μ := by rw [s_X9_said_23]
theorem v_X9_said_23 : vc X P m_X9_said h K k_X9_said S (n + 1) 23 ls st μ = if 23 ∈ S then mAt X m_X9_said h K 23 ls st μ else bb X P m_X9_said h K (vc X P m_X9_said h K k_X9_said S n) s_X9_said_23 ls st μ := by rw [vc_s, t_X9_said_23]
theorem w_X9_said_25 : bb X P m_X9_said h K J s_X9_said_25 ls st μ = bb X P m_X9_said h K J ((25, .iconst 0, 1, 0, 0, 0, .inl (nI 0), []) ::
  (26, .istore_n 2, 1, 2, 0, 0, .inl 0, []) ::
  (27, .iconst 0, 1, 0, 0, 0, .inl (nI 0), []) ::
  (28, .istore_n 3, 1, 3, 0, 0, .inl 0, []) :: s_X9_said_29) ls st μ := by rw [s_X9_said_25]
theorem v_X9_said_25 : vc X P m_X9_said h K k_X9_said S (n + 1) 25 ls st μ = if 25 ∈ S then mAt X m_X9_said h K 25 ls st μ else bb X P m_X9_said h K (vc X P m_X9_said h K k_X9_said S n) s_X9_said_25 ls st μ := by rw [vc_s, t_X9_said_25]
theorem w_X9_said_29 : bb X P m_X9_said h K J s_X9_said_29 ls st μ = bb X P m_X9_said h K J ((29, .iload_n 3, 1, 3, 0, 0, .inl 0, []) ::
  (30, .aload_n 0, 1, 0, 0, 0, .inl 0, []) ::
  (31, .invokevirtual 219, 3, 253, 1, 1, .inl 0, [1472, 8]) ::
  (34, .if_icmp .ge 38, 3, 72, 0, 0, .inl 0, []) ::
  (37, .aload_n 0, 1, 0, 0, 0, .inl 0, []) ::
  (38, .aload_n 0, 1, 0, 0, 0, .inl 0, []) ::
  (39, .getfield 13, 3, 8, 14, 3, .inr (.inr (16, 925, 2)), [1210]) ::
  (42, .sipush 380, 3, 0, 0, 0, .inl (nI 380), []) ::
  (45, .iaload, 1, 0, 0, 0, .inl 0, []) ::
  (46, .iload_n 3, 1, 3, 0, 0, .inl 0, []) ::
  (47, .invokevirtual 399, 3, 170, 3, 1, .inl 0, [1791, 8]) ::
  (50, .ifCond .ne 6, 3, 56, 0, 0, .inl 0, []) ::
  (53, .goto 13, 3, 66, 0, 0, .inl 0, []) :: s_X9_said_56) ls st μ := by rw [s_X9_said_29]
theorem v_X9_said_29 : vc X P m_X9_said h K k_X9_said S (n + 1) 29 ls st μ = if 29 ∈ S then mAt X m_X9_said h K 29 ls st μ else bb X P m_X9_said h K (vc X P m_X9_said h K k_X9_said S n) s_X9_said_29 ls st μ := by rw [vc_s, t_X9_said_29]
theorem w_X9_said_56 : bb X P m_X9_said h K J s_X9_said_56 ls st μ = bb X P m_X9_said h K J ((56, .iload_n 2, 1, 2, 0, 0, .inl 0, []) ::
  (57, .iload_n 1, 1, 1, 0, 0, .inl 0, []) ::
  (58, .if_icmp .ne 5, 3, 63, 0, 0, .inl 0, []) ::
  (61, .iload_n 3, 1, 3, 0, 0, .inl 0, []) ::
  (62, .ireturn, 1, 0, 0, 0, .inl 0, []) :: s_X9_said_63) ls st μ := by rw [s_X9_said_56]
theorem v_X9_said_56 : vc X P m_X9_said h K k_X9_said S (n + 1) 56 ls st μ = if 56 ∈ S then mAt X m_X9_said h K 56 ls st μ else bb X P m_X9_said h K (vc X P m_X9_said h K k_X9_said S n) s_X9_said_56 ls st μ := by rw [vc_s, t_X9_said_56]
theorem w_X9_said_63 : bb X P m_X9_said h K J s_X9_said_63 ls st μ = bb X P m_X9_said h K J ((63, .iinc 2 1, 3, 2, 0, 0, .inl (nI 1), []) :: s_X9_said_66) ls st μ := by rw [s_X9_said_63]
theorem v_X9_said_63 : vc X P m_X9_said h K k_X9_said S (n + 1) 63 ls st μ = if 63 ∈ S then mAt X m_X9_said h K 63 ls st μ else bb X P m_X9_said h K (vc X P m_X9_said h K k_X9_said S n) s_X9_said_63 ls st μ := by rw [vc_s, t_X9_said_63]
theorem w_X9_said_66 : bb X P m_X9_said h K J s_X9_said_66 ls st μ = bb X P m_X9_said h K J ((66, .iinc 3 1, 3, 3, 0, 0, .inl (nI 1), []) ::
  (69, .goto (-40), 3, 29, 0, 0, .inl 0, []) :: s_X9_said_72) ls st μ := by rw [s_X9_said_66]
theorem v_X9_said_66 : vc X P m_X9_said h K k_X9_said S (n + 1) 66 ls st μ = if 66 ∈ S then mAt X m_X9_said h K 66 ls st μ else bb X P m_X9_said h K (vc X P m_X9_said h K k_X9_said S n) s_X9_said_66 ls st μ := by rw [vc_s, t_X9_said_66]
theorem w_X9_said_72 : bb X P m_X9_said h K J s_X9_said_72 ls st μ = bb X P m_X9_said h K J ((72, .iload_n 1, 1, 1, 0, 0, .inl 0, []) ::
  (73, .iconst (-1), 1, 0, 0, 0, .inl (-1), []) ::
  (74, .if_icmp .ne 7, 3, 81, 0, 0, .inl 0, []) ::
  (77, .iload_n 2, 1, 2, 0, 0, .inl 0, []) ::
  (78, .goto 4, 3, 82, 0, 0, .inl 0, []) :: s_X9_said_81) ls st μ := by rw [s_X9_said_72]
theorem v_X9_said_72 : vc X P m_X9_said h K k_X9_said S (n + 1) 72 ls st μ = if 72 ∈ S then mAt X m_X9_said h K 72 ls st μ else bb X P m_X9_said h K (vc X P m_X9_said h K k_X9_said S n) s_X9_said_72 ls st μ := by rw [vc_s, t_X9_said_72]
theorem w_X9_said_81 : bb X P m_X9_said h K J s_X9_said_81 ls st μ = bb X P m_X9_said h K J ((81, .iconst (-1), 1, 0, 0, 0, .inl (-1), []) :: s_X9_said_82) ls st μ := by rw [s_X9_said_81]
theorem v_X9_said_81 : vc X P m_X9_said h K k_X9_said S (n + 1) 81 ls st μ = if 81 ∈ S then mAt X m_X9_said h K 81 ls st μ else bb X P m_X9_said h K (vc X P m_X9_said h K k_X9_said S n) s_X9_said_81 ls st μ := by rw [vc_s, t_X9_said_81]
theorem w_X9_said_82 : bb X P m_X9_said h K J s_X9_said_82 ls st μ = bb X P m_X9_said h K J ((82, .ireturn, 1, 0, 0, 0, .inl 0, []) :: []) ls st μ := by rw [s_X9_said_82]
theorem v_X9_said_82 : vc X P m_X9_said h K k_X9_said S (n + 1) 82 ls st μ = if 82 ∈ S then mAt X m_X9_said h K 82 ls st μ else bb X P m_X9_said h K (vc X P m_X9_said h K k_X9_said S n) s_X9_said_82 ls st μ := by rw [vc_s, t_X9_said_82]
end
section
variable {X : mC} {P : mP} {h : Nat} {K : MV → Mem → Prop} {J : mJ} {ls : List (Nat × MV)} {st : List MV} {μ : Mem} {S : List Nat} {n : Nat}
theorem w_X9_sentence_0 : bb X P m_X9_sentence h K J s_X9_sentence_0 ls st μ = bb X P m_X9_sentence h K J ((0, .aload_n 0, 1, 0, 0, 0, .inl 0, []) ::
  (1, .sipush 200, 3, 0, 0, 0, .inl (nI 200), []) ::
  (4, .invokevirtual 213, 3, 141, 2, 0, .inl 0, [1353, 8]) ::
  (7, .aload_n 0, 1, 0, 0, 0, .inl 0, []) ::
  (8, .iconst 0, 1, 0, 0, 0, .inl (nI 0), []) ::
  (9, .putfield 362, 3, 8, 41, 0, .inl 0, [1237]) ::
  (12, .aload_n 0, 1, 0, 0, 0, .inl 0, []) ::
  (13, .iconst 0, 1, 0, 0, 0, .inl (nI 0), []) ::
  (14, .putfield 378, 3, 8, 42, 0, .inl 0, [1238]) ::
  (17, .aload_n 0, 1, 0, 0, 0, .inl 0, []) ::
  (18, .iconst 0, 1, 0, 0, 0, .inl (nI 0), []) ::
  (19, .putfield 381, 3, 8, 43, 0, .inl 0, [1239]) ::
  (22, .aload_n 0, 1, 0, 0, 0, .inl 0, []) ::
  (23, .invokevirtual 396, 3, 231, 1, 1, .inl 0, [1755, 8]) ::
  (26, .ifCond .ne 10, 3, 36, 0, 0, .inl 0, []) ::
  (29, .iconst (-1), 1, 0, 0, 0, .inl (-1), []) ::
  (30, .aload_n 0, 1, 0, 0, 0, .inl 0, []) ::
  (31, .getfield 137, 3, 8, 11, 0, .inl 0, [1207]) ::
  (34, .isub, 1, 0, 0, 0, .inl 0, []) ::
  (35, .ireturn, 1, 0, 0, 0, .inl 0, []) :: s_X9_sentence_36) ls st μ := by rw [s_X9_sentence_0]
theorem v_X9_sentence_0 : vc X P m_X9_sentence h K k_X9_sentence S (n + 1) 0 ls st μ = if 0 ∈ S then mAt X m_X9_sentence h K 0 ls st μ else bb X P m_X9_sentence h K (vc X P m_X9_sentence h K k_X9_sentence S n) s_X9_sentence_0 ls st μ := by rw [vc_s, t_X9_sentence_0]
theorem w_X9_sentence_36 : bb X P m_X9_sentence h K J s_X9_sentence_36 ls st μ = bb X P m_X9_sentence h K J ((36, .aload_n 0, 1, 0, 0, 0, .inl 0, []) ::
  (37, .getfield 98, 3, 8, 7, 0, .inl 0, [1203]) ::
  (40, .ifCond .eq 16, 3, 56, 0, 0, .inl 0, []) ::
  (43, .aload_n 0, 1, 0, 0, 0, .inl 0, []) ::
  (44, .iconst 1, 1, 0, 0, 0, .inl (nI 1), []) ::
  (45, .invokevirtual 140, 3, 140, 2, 1, .inl 0, [1395, 8]) ::
  (48, .pop, 1, 0, 0, 0, .inl 0, []) ::
  (49, .iconst (-1), 1, 0, 0, 0, .inl (-1), []) ::
  (50, .aload_n 0, 1, 0, 0, 0, .inl 0, []) ::
  (51, .getfield 137, 3, 8, 11, 0, .inl 0, [1207]) ::
  (54, .isub, 1, 0, 0, 0, .inl 0, []) ::
  (55, .ireturn, 1, 0, 0, 0, .inl 0, []) :: s_X9_sentence_56) ls st μ := by rw [s_X9_sentence_36]
theorem v_X9_sentence_36 : vc X P m_X9_sentence h K k_X9_sentence S (n + 1) 36 ls st μ = if 36 ∈ S then mAt X m_X9_sentence h K 36 ls st μ else bb X P m_X9_sentence h K (vc X P m_X9_sentence h K k_X9_sentence S n) s_X9_sentence_36 ls st μ := by rw [vc_s, t_X9_sentence_36]
theorem w_X9_sentence_56 : bb X P m_X9_sentence h K J s_X9_sentence_56 ls st μ = bb X P m_X9_sentence h K J ((56, .aload_n 0, 1, 0, 0, 0, .inl 0, []) ::
  (57, .getfield 13, 3, 8, 14, 3, .inr (.inr (16, 925, 2)), [1210]) ::
  (60, .sipush 379, 3, 0, 0, 0, .inl (nI 379), []) ::
  (63, .iconst 1, 1, 0, 0, 0, .inl (nI 1), []) ::
  (64, .iastore, 1, 0, 0, 0, .inl 0, []) ::
  (65, .aload_n 0, 1, 0, 0, 0, .inl 0, []) ::
  (66, .getfield 13, 3, 8, 14, 3, .inr (.inr (16, 925, 2)), [1210]) ::
  (69, .sipush 380, 3, 0, 0, 0, .inl (nI 380), []) ::
  (72, .aload_n 0, 1, 0, 0, 0, .inl 0, []) ::
  (73, .getfield 368, 3, 8, 44, 0, .inl 0, [1240]) ::
  (76, .iastore, 1, 0, 0, 0, .inl 0, []) ::
  (77, .iconst 0, 1, 0, 0, 0, .inl (nI 0), []) ::
  (78, .istore_n 1, 1, 1, 0, 0, .inl 0, []) :: s_X9_sentence_79) ls st μ := by rw [s_X9_sentence_56]
theorem v_X9_sentence_56 : vc X P m_X9_sentence h K k_X9_sentence S (n + 1) 56 ls st μ = if 56 ∈ S then mAt X m_X9_sentence h K 56 ls st μ else bb X P m_X9_sentence h K (vc X P m_X9_sentence h K k_X9_sentence S n) s_X9_sentence_56 ls st μ := by rw [vc_s, t_X9_sentence_56]
theorem w_X9_sentence_79 : bb X P m_X9_sentence h K J s_X9_sentence_79 ls st μ = bb X P m_X9_sentence h K J ((79, .iload_n 1, 1, 1, 0, 0, .inl 0, []) ::
  (80, .sipush 240, 3, 0, 0, 0, .inl (nI 240), []) ::
  (83, .if_icmp .ge 25, 3, 108, 0, 0, .inl 0, []) ::
  (86, .aload_n 0, 1, 0, 0, 0, .inl 0, []) ::
  (87, .getfield 13, 3, 8, 14, 3, .inr (.inr (16, 925, 2)), [1210]) ::
  (90, .sipush 381, 3, 0, 0, 0, .inl (nI 381), []) ::
  (93, .iload_n 1, 1, 1, 0, 0, .inl 0, []) ::
  (94, .iadd, 1, 0, 0, 0, .inl 0, []) ::
  (95, .aload_n 0, 1, 0, 0, 0, .inl 0, []) ::
  (96, .getfield 73, 3, 8, 40, 3, .inr (.inr (16, 240, 20)), [1236]) ::
  (99, .iload_n 1, 1, 1, 0, 0, .inl 0, []) ::
  (100, .iaload, 1, 0, 0, 0, .inl 0, []) ::
  (101, .iastore, 1, 0, 0, 0, .inl 0, []) ::
  (102, .iinc 1 1, 3, 1, 0, 0, .inl (nI 1), []) ::
  (105, .goto (-26), 3, 79, 0, 0, .inl 0, []) :: s_X9_sentence_108) ls st μ := by rw [s_X9_sentence_79]
theorem v_X9_sentence_79 : vc X P m_X9_sentence h K k_X9_sentence S (n + 1) 79 ls st μ = if 79 ∈ S then mAt X m_X9_sentence h K 79 ls st μ else bb X P m_X9_sentence h K (vc X P m_X9_sentence h K k_X9_sentence S n) s_X9_sentence_79 ls st μ := by rw [vc_s, t_X9_sentence_79]
theorem w_X9_sentence_108 : bb X P m_X9_sentence h K J s_X9_sentence_108 ls st μ = bb X P m_X9_sentence h K J ((108, .aload_n 0, 1, 0, 0, 0, .inl 0, []) ::
  (109, .getfield 378, 3, 8, 42, 0, .inl 0, [1238]) ::
  (112, .ireturn, 1, 0, 0, 0, .inl 0, []) :: []) ls st μ := by rw [s_X9_sentence_108]
theorem v_X9_sentence_108 : vc X P m_X9_sentence h K k_X9_sentence S (n + 1) 108 ls st μ = if 108 ∈ S then mAt X m_X9_sentence h K 108 ls st μ else bb X P m_X9_sentence h K (vc X P m_X9_sentence h K k_X9_sentence S n) s_X9_sentence_108 ls st μ := by rw [vc_s, t_X9_sentence_108]
end
section
variable {X : mC} {P : mP} {h : Nat} {K : MV → Mem → Prop} {J : mJ} {ls : List (Nat × MV)} {st : List MV} {μ : Mem} {S : List Nat} {n : Nat}
theorem w_X9_spelt_0 : bb X P m_X9_spelt h K J s_X9_spelt_0 ls st μ = bb X P m_X9_spelt h K J ((0, .ldc2_w 122, 3, 0, 0, 0, .inr (.inl 27), [1375]) ::
  (3, .iload_n 0, 1, 0, 0, 0, .inl 0, []) ::
  (4, .i2l, 1, 0, 0, 0, .inl 0, []) ::
  (5, .ldc2_w 124, 3, 0, 0, 0, .inr (.inl 96), [1376]) ::
  (8, .lsub, 1, 0, 0, 0, .inl 0, []) ::
  (9, .lmul, 1, 0, 0, 0, .inl 0, []) ::
  (10, .iload_n 1, 1, 1, 0, 0, .inl 0, []) ::
  (11, .i2l, 1, 0, 0, 0, .inl 0, []) ::
  (12, .ladd, 1, 0, 0, 0, .inl 0, []) ::
  (13, .ldc2_w 124, 3, 0, 0, 0, .inr (.inl 96), [1376]) ::
  (16, .lsub, 1, 0, 0, 0, .inl 0, []) ::
  (17, .lstore 6, 2, 6, 0, 0, .inl 0, []) ::
  (19, .iload_n 2, 1, 2, 0, 0, .inl 0, []) ::
  (20, .ifCond .le 18, 3, 38, 0, 0, .inl 0, []) ::
  (23, .ldc2_w 122, 3, 0, 0, 0, .inr (.inl 27), [1375]) ::
  (26, .lload 6, 2, 6, 0, 0, .inl 0, []) ::
  (28, .lmul, 1, 0, 0, 0, .inl 0, []) ::
  (29, .iload_n 2, 1, 2, 0, 0, .inl 0, []) ::
  (30, .i2l, 1, 0, 0, 0, .inl 0, []) ::
  (31, .ladd, 1, 0, 0, 0, .inl 0, []) ::
  (32, .ldc2_w 124, 3, 0, 0, 0, .inr (.inl 96), [1376]) ::
  (35, .lsub, 1, 0, 0, 0, .inl 0, []) ::
  (36, .lstore 6, 2, 6, 0, 0, .inl 0, []) :: s_X9_spelt_38) ls st μ := by rw [s_X9_spelt_0]
theorem v_X9_spelt_0 : vc X P m_X9_spelt h K k_X9_spelt S (n + 1) 0 ls st μ = if 0 ∈ S then mAt X m_X9_spelt h K 0 ls st μ else bb X P m_X9_spelt h K (vc X P m_X9_spelt h K k_X9_spelt S n) s_X9_spelt_0 ls st μ := by rw [vc_s, t_X9_spelt_0]
theorem w_X9_spelt_38 : bb X P m_X9_spelt h K J s_X9_spelt_38 ls st μ = bb X P m_X9_spelt h K J ((38, .iload_n 3, 1, 3, 0, 0, .inl 0, []) ::
  (39, .ifCond .le 18, 3, 57, 0, 0, .inl 0, []) ::
  (42, .ldc2_w 122, 3, 0, 0, 0, .inr (.inl 27), [1375]) ::
  (45, .lload 6, 2, 6, 0, 0, .inl 0, []) ::
  (47, .lmul, 1, 0, 0, 0, .inl 0, []) ::
  (48, .iload_n 3, 1, 3, 0, 0, .inl 0, []) ::
  (49, .i2l, 1, 0, 0, 0, .inl 0, []) ::
  (50, .ladd, 1, 0, 0, 0, .inl 0, []) ::
  (51, .ldc2_w 124, 3, 0, 0, 0, .inr (.inl 96), [1376]) ::
  (54, .lsub, 1, 0, 0, 0, .inl 0, []) ::
  (55, .lstore 6, 2, 6, 0, 0, .inl 0, []) :: s_X9_spelt_57) ls st μ := by rw [s_X9_spelt_38]
theorem v_X9_spelt_38 : vc X P m_X9_spelt h K k_X9_spelt S (n + 1) 38 ls st μ = if 38 ∈ S then mAt X m_X9_spelt h K 38 ls st μ else bb X P m_X9_spelt h K (vc X P m_X9_spelt h K k_X9_spelt S n) s_X9_spelt_38 ls st μ := by rw [vc_s, t_X9_spelt_38]
theorem w_X9_spelt_57 : bb X P m_X9_spelt h K J s_X9_spelt_57 ls st μ = bb X P m_X9_spelt h K J ((57, .iload 4, 2, 4, 0, 0, .inl 0, []) ::
  (59, .ifCond .le 19, 3, 78, 0, 0, .inl 0, []) ::
  (62, .ldc2_w 122, 3, 0, 0, 0, .inr (.inl 27), [1375]) ::
  (65, .lload 6, 2, 6, 0, 0, .inl 0, []) ::
  (67, .lmul, 1, 0, 0, 0, .inl 0, []) ::
  (68, .iload 4, 2, 4, 0, 0, .inl 0, []) ::
  (70, .i2l, 1, 0, 0, 0, .inl 0, []) ::
  (71, .ladd, 1, 0, 0, 0, .inl 0, []) ::
  (72, .ldc2_w 124, 3, 0, 0, 0, .inr (.inl 96), [1376]) ::
  (75, .lsub, 1, 0, 0, 0, .inl 0, []) ::
  (76, .lstore 6, 2, 6, 0, 0, .inl 0, []) :: s_X9_spelt_78) ls st μ := by rw [s_X9_spelt_57]
theorem v_X9_spelt_57 : vc X P m_X9_spelt h K k_X9_spelt S (n + 1) 57 ls st μ = if 57 ∈ S then mAt X m_X9_spelt h K 57 ls st μ else bb X P m_X9_spelt h K (vc X P m_X9_spelt h K k_X9_spelt S n) s_X9_spelt_57 ls st μ := by rw [vc_s, t_X9_spelt_57]
theorem w_X9_spelt_78 : bb X P m_X9_spelt h K J s_X9_spelt_78 ls st μ = bb X P m_X9_spelt h K J ((78, .iload 5, 2, 5, 0, 0, .inl 0, []) ::
  (80, .ifCond .le 20, 3, 100, 0, 0, .inl 0, []) ::
  (83, .ldc2_w 122, 3, 0, 0, 0, .inr (.inl 27), [1375]) ::
  (86, .lload 6, 2, 6, 0, 0, .inl 0, []) ::
  (88, .lmul, 1, 0, 0, 0, .inl 0, []) ::
  (89, .iload 5, 2, 5, 0, 0, .inl 0, []) ::
  (91, .i2l, 1, 0, 0, 0, .inl 0, []) ::
  (92, .ladd, 1, 0, 0, 0, .inl 0, []) ::
  (93, .ldc2_w 124, 3, 0, 0, 0, .inr (.inl 96), [1376]) ::
  (96, .lsub, 1, 0, 0, 0, .inl 0, []) ::
  (97, .goto 5, 3, 102, 0, 0, .inl 0, []) :: s_X9_spelt_100) ls st μ := by rw [s_X9_spelt_78]
theorem v_X9_spelt_78 : vc X P m_X9_spelt h K k_X9_spelt S (n + 1) 78 ls st μ = if 78 ∈ S then mAt X m_X9_spelt h K 78 ls st μ else bb X P m_X9_spelt h K (vc X P m_X9_spelt h K k_X9_spelt S n) s_X9_spelt_78 ls st μ := by rw [vc_s, t_X9_spelt_78]
theorem w_X9_spelt_100 : bb X P m_X9_spelt h K J s_X9_spelt_100 ls st μ = bb X P m_X9_spelt h K J ((100, .lload 6, 2, 6, 0, 0, .inl 0, []) :: s_X9_spelt_102) ls st μ := by rw [s_X9_spelt_100]
theorem v_X9_spelt_100 : vc X P m_X9_spelt h K k_X9_spelt S (n + 1) 100 ls st μ = if 100 ∈ S then mAt X m_X9_spelt h K 100 ls st μ else bb X P m_X9_spelt h K (vc X P m_X9_spelt h K k_X9_spelt S n) s_X9_spelt_100 ls st μ := by rw [vc_s, t_X9_spelt_100]
theorem w_X9_spelt_102 : bb X P m_X9_spelt h K J s_X9_spelt_102 ls st μ = bb X P m_X9_spelt h K J ((102, .lreturn, 1, 0, 0, 0, .inl 0, []) :: []) ls st μ := by rw [s_X9_spelt_102]
theorem v_X9_spelt_102 : vc X P m_X9_spelt h K k_X9_spelt S (n + 1) 102 ls st μ = if 102 ∈ S then mAt X m_X9_spelt h K 102 ls st μ else bb X P m_X9_spelt h K (vc X P m_X9_spelt h K k_X9_spelt S n) s_X9_spelt_102 ls st μ := by rw [vc_s, t_X9_spelt_102]
end
section
variable {X : mC} {P : mP} {h : Nat} {K : MV → Mem → Prop} {J : mJ} {ls : List (Nat × MV)} {st : List MV} {μ : Mem} {S : List Nat} {n : Nat}
theorem w_X9_start_0 : bb X P m_X9_start h K J s_X9_start_0 ls st μ = bb X P m_X9_start h K J ((0, .iconst 0, 1, 0, 0, 0, .inl (nI 0), []) ::
  (1, .istore_n 3, 1, 3, 0, 0, .inl 0, []) :: s_X9_start_2) ls st μ := by rw [s_X9_start_0]
theorem v_X9_start_0 : vc X P m_X9_start h K k_X9_start S (n + 1) 0 ls st μ = if 0 ∈ S then mAt X m_X9_start h K 0 ls st μ else bb X P m_X9_start h K (vc X P m_X9_start h K k_X9_start S n) s_X9_start_0 ls st μ := by rw [vc_s, t_X9_start_0]
theorem w_X9_start_2 : bb X P m_X9_start h K J s_X9_start_2 ls st μ = bb X P m_X9_start h K J ((2, .iload_n 3, 1, 3, 0, 0, .inl 0, []) ::
  (3, .sipush 296, 3, 0, 0, 0, .inl (nI 296), []) ::
  (6, .if_icmp .ge 15, 3, 21, 0, 0, .inl 0, []) ::
  (9, .aload_n 1, 1, 1, 0, 0, .inl 0, []) ::
  (10, .iload_n 2, 1, 2, 0, 0, .inl 0, []) ::
  (11, .iload_n 3, 1, 3, 0, 0, .inl 0, []) ::
  (12, .iadd, 1, 0, 0, 0, .inl 0, []) ::
  (13, .iconst 0, 1, 0, 0, 0, .inl (nI 0), []) ::
  (14, .iastore, 1, 0, 0, 0, .inl 0, []) ::
  (15, .iinc 3 1, 3, 3, 0, 0, .inl (nI 1), []) ::
  (18, .goto (-16), 3, 2, 0, 0, .inl 0, []) :: s_X9_start_21) ls st μ := by rw [s_X9_start_2]
theorem v_X9_start_2 : vc X P m_X9_start h K k_X9_start S (n + 1) 2 ls st μ = if 2 ∈ S then mAt X m_X9_start h K 2 ls st μ else bb X P m_X9_start h K (vc X P m_X9_start h K k_X9_start S n) s_X9_start_2 ls st μ := by rw [vc_s, t_X9_start_2]
theorem w_X9_start_21 : bb X P m_X9_start h K J s_X9_start_21 ls st μ = bb X P m_X9_start h K J ((21, .aload_n 1, 1, 1, 0, 0, .inl 0, []) ::
  (22, .iload_n 2, 1, 2, 0, 0, .inl 0, []) ::
  (23, .iconst 0, 1, 0, 0, 0, .inl (nI 0), []) ::
  (24, .iadd, 1, 0, 0, 0, .inl 0, []) ::
  (25, .iconst 1, 1, 0, 0, 0, .inl (nI 1), []) ::
  (26, .iastore, 1, 0, 0, 0, .inl 0, []) ::
  (27, .iconst 0, 1, 0, 0, 0, .inl (nI 0), []) ::
  (28, .istore_n 3, 1, 3, 0, 0, .inl 0, []) :: s_X9_start_29) ls st μ := by rw [s_X9_start_21]
theorem v_X9_start_21 : vc X P m_X9_start h K k_X9_start S (n + 1) 21 ls st μ = if 21 ∈ S then mAt X m_X9_start h K 21 ls st μ else bb X P m_X9_start h K (vc X P m_X9_start h K k_X9_start S n) s_X9_start_21 ls st μ := by rw [vc_s, t_X9_start_21]
theorem w_X9_start_29 : bb X P m_X9_start h K J s_X9_start_29 ls st μ = bb X P m_X9_start h K J ((29, .iload_n 3, 1, 3, 0, 0, .inl 0, []) ::
  (30, .bipush 48, 2, 0, 0, 0, .inl (nI 48), []) ::
  (32, .if_icmp .ge 26, 3, 58, 0, 0, .inl 0, []) ::
  (35, .aload_n 1, 1, 1, 0, 0, .inl 0, []) ::
  (36, .iload_n 2, 1, 2, 0, 0, .inl 0, []) ::
  (37, .iconst 2, 1, 0, 0, 0, .inl (nI 2), []) ::
  (38, .iadd, 1, 0, 0, 0, .inl 0, []) ::
  (39, .iload_n 3, 1, 3, 0, 0, .inl 0, []) ::
  (40, .iadd, 1, 0, 0, 0, .inl 0, []) ::
  (41, .aload_n 0, 1, 0, 0, 0, .inl 0, []) ::
  (42, .getfield 39, 3, 8, 22, 3, .inr (.inr (16, 278, 10)), [1218]) ::
  (45, .sipush 134, 3, 0, 0, 0, .inl (nI 134), []) ::
  (48, .iload_n 3, 1, 3, 0, 0, .inl 0, []) ::
  (49, .iadd, 1, 0, 0, 0, .inl 0, []) ::
  (50, .iaload, 1, 0, 0, 0, .inl 0, []) ::
  (51, .iastore, 1, 0, 0, 0, .inl 0, []) ::
  (52, .iinc 3 1, 3, 3, 0, 0, .inl (nI 1), []) ::
  (55, .goto (-26), 3, 29, 0, 0, .inl 0, []) :: s_X9_start_58) ls st μ := by rw [s_X9_start_29]
theorem v_X9_start_29 : vc X P m_X9_start h K k_X9_start S (n + 1) 29 ls st μ = if 29 ∈ S then mAt X m_X9_start h K 29 ls st μ else bb X P m_X9_start h K (vc X P m_X9_start h K k_X9_start S n) s_X9_start_29 ls st μ := by rw [vc_s, t_X9_start_29]
theorem w_X9_start_58 : bb X P m_X9_start h K J s_X9_start_58 ls st μ = bb X P m_X9_start h K J ((58, .iconst 0, 1, 0, 0, 0, .inl (nI 0), []) ::
  (59, .istore_n 3, 1, 3, 0, 0, .inl 0, []) :: s_X9_start_60) ls st μ := by rw [s_X9_start_58]
theorem v_X9_start_58 : vc X P m_X9_start h K k_X9_start S (n + 1) 58 ls st μ = if 58 ∈ S then mAt X m_X9_start h K 58 ls st μ else bb X P m_X9_start h K (vc X P m_X9_start h K k_X9_start S n) s_X9_start_58 ls st μ := by rw [vc_s, t_X9_start_58]
theorem w_X9_start_60 : bb X P m_X9_start h K J s_X9_start_60 ls st μ = bb X P m_X9_start h K J ((60, .iload_n 3, 1, 3, 0, 0, .inl 0, []) ::
  (61, .bipush 8, 2, 0, 0, 0, .inl (nI 8), []) ::
  (63, .if_icmp .ge 19, 3, 82, 0, 0, .inl 0, []) ::
  (66, .aload_n 1, 1, 1, 0, 0, .inl 0, []) ::
  (67, .iload_n 2, 1, 2, 0, 0, .inl 0, []) ::
  (68, .sipush 244, 3, 0, 0, 0, .inl (nI 244), []) ::
  (71, .iadd, 1, 0, 0, 0, .inl 0, []) ::
  (72, .iload_n 3, 1, 3, 0, 0, .inl 0, []) ::
  (73, .iadd, 1, 0, 0, 0, .inl 0, []) ::
  (74, .iconst (-1), 1, 0, 0, 0, .inl (-1), []) ::
  (75, .iastore, 1, 0, 0, 0, .inl 0, []) ::
  (76, .iinc 3 1, 3, 3, 0, 0, .inl (nI 1), []) ::
  (79, .goto (-19), 3, 60, 0, 0, .inl 0, []) :: s_X9_start_82) ls st μ := by rw [s_X9_start_60]
theorem v_X9_start_60 : vc X P m_X9_start h K k_X9_start S (n + 1) 60 ls st μ = if 60 ∈ S then mAt X m_X9_start h K 60 ls st μ else bb X P m_X9_start h K (vc X P m_X9_start h K k_X9_start S n) s_X9_start_60 ls st μ := by rw [vc_s, t_X9_start_60]
theorem w_X9_start_82 : bb X P m_X9_start h K J s_X9_start_82 ls st μ = bb X P m_X9_start h K J ((82, .return_, 1, 0, 0, 0, .inl 0, []) :: []) ls st μ := by rw [s_X9_start_82]
theorem v_X9_start_82 : vc X P m_X9_start h K k_X9_start S (n + 1) 82 ls st μ = if 82 ∈ S then mAt X m_X9_start h K 82 ls st μ else bb X P m_X9_start h K (vc X P m_X9_start h K k_X9_start S n) s_X9_start_82 ls st μ := by rw [vc_s, t_X9_start_82]
end
section
variable {X : mC} {P : mP} {h : Nat} {K : MV → Mem → Prop} {J : mJ} {ls : List (Nat × MV)} {st : List MV} {μ : Mem} {S : List Nat} {n : Nat}
theorem w_X9_steadies_0 : bb X P m_X9_steadies h K J s_X9_steadies_0 ls st μ = bb X P m_X9_steadies h K J ((0, .aload_n 0, 1, 0, 0, 0, .inl 0, []) ::
  (1, .iconst 0, 1, 0, 0, 0, .inl (nI 0), []) ::
  (2, .putfield 76, 3, 8, 0, 0, .inl 0, [1196]) ::
  (5, .iconst 0, 1, 0, 0, 0, .inl (nI 0), []) ::
  (6, .istore_n 2, 1, 2, 0, 0, .inl 0, []) ::
  (7, .iconst 0, 1, 0, 0, 0, .inl (nI 0), []) ::
  (8, .istore_n 3, 1, 3, 0, 0, .inl 0, []) :: s_X9_steadies_9) ls st μ := by rw [s_X9_steadies_0]
theorem v_X9_steadies_0 : vc X P m_X9_steadies h K k_X9_steadies S (n + 1) 0 ls st μ = if 0 ∈ S then mAt X m_X9_steadies h K 0 ls st μ else bb X P m_X9_steadies h K (vc X P m_X9_steadies h K k_X9_steadies S n) s_X9_steadies_0 ls st μ := by rw [vc_s, t_X9_steadies_0]
theorem w_X9_steadies_9 : bb X P m_X9_steadies h K J s_X9_steadies_9 ls st μ = bb X P m_X9_steadies h K J ((9, .aload_n 0, 1, 0, 0, 0, .inl 0, []) ::
  (10, .iload_n 3, 1, 3, 0, 0, .inl 0, []) ::
  (11, .invokevirtual 300, 3, 181, 2, 1, .inl 0, [1610, 8]) ::
  (14, .ifCond .eq 30, 3, 44, 0, 0, .inl 0, []) ::
  (17, .aload_n 0, 1, 0, 0, 0, .inl 0, []) ::
  (18, .iload_n 3, 1, 3, 0, 0, .inl 0, []) ::
  (19, .invokevirtual 331, 3, 184, 2, 1, .inl 0, [1659, 8]) ::
  (22, .ifCond .ne 6, 3, 28, 0, 0, .inl 0, []) ::
  (25, .goto 13, 3, 38, 0, 0, .inl 0, []) :: s_X9_steadies_28) ls st μ := by rw [s_X9_steadies_9]
theorem v_X9_steadies_9 : vc X P m_X9_steadies h K k_X9_steadies S (n + 1) 9 ls st μ = if 9 ∈ S then mAt X m_X9_steadies h K 9 ls st μ else bb X P m_X9_steadies h K (vc X P m_X9_steadies h K k_X9_steadies S n) s_X9_steadies_9 ls st μ := by rw [vc_s, t_X9_steadies_9]
theorem w_X9_steadies_28 : bb X P m_X9_steadies h K J s_X9_steadies_28 ls st μ = bb X P m_X9_steadies h K J ((28, .iload_n 2, 1, 2, 0, 0, .inl 0, []) ::
  (29, .iload_n 1, 1, 1, 0, 0, .inl 0, []) ::
  (30, .if_icmp .ne 5, 3, 35, 0, 0, .inl 0, []) ::
  (33, .iload_n 3, 1, 3, 0, 0, .inl 0, []) ::
  (34, .ireturn, 1, 0, 0, 0, .inl 0, []) :: s_X9_steadies_35) ls st μ := by rw [s_X9_steadies_28]
theorem v_X9_steadies_28 : vc X P m_X9_steadies h K k_X9_steadies S (n + 1) 28 ls st μ = if 28 ∈ S then mAt X m_X9_steadies h K 28 ls st μ else bb X P m_X9_steadies h K (vc X P m_X9_steadies h K k_X9_steadies S n) s_X9_steadies_28 ls st μ := by rw [vc_s, t_X9_steadies_28]
theorem w_X9_steadies_35 : bb X P m_X9_steadies h K J s_X9_steadies_35 ls st μ = bb X P m_X9_steadies h K J ((35, .iinc 2 1, 3, 2, 0, 0, .inl (nI 1), []) :: s_X9_steadies_38) ls st μ := by rw [s_X9_steadies_35]
theorem v_X9_steadies_35 : vc X P m_X9_steadies h K k_X9_steadies S (n + 1) 35 ls st μ = if 35 ∈ S then mAt X m_X9_steadies h K 35 ls st μ else bb X P m_X9_steadies h K (vc X P m_X9_steadies h K k_X9_steadies S n) s_X9_steadies_35 ls st μ := by rw [vc_s, t_X9_steadies_35]
theorem w_X9_steadies_38 : bb X P m_X9_steadies h K J s_X9_steadies_38 ls st μ = bb X P m_X9_steadies h K J ((38, .iinc 3 1, 3, 3, 0, 0, .inl (nI 1), []) ::
  (41, .goto (-32), 3, 9, 0, 0, .inl 0, []) :: s_X9_steadies_44) ls st μ := by rw [s_X9_steadies_38]
theorem v_X9_steadies_38 : vc X P m_X9_steadies h K k_X9_steadies S (n + 1) 38 ls st μ = if 38 ∈ S then mAt X m_X9_steadies h K 38 ls st μ else bb X P m_X9_steadies h K (vc X P m_X9_steadies h K k_X9_steadies S n) s_X9_steadies_38 ls st μ := by rw [vc_s, t_X9_steadies_38]
theorem w_X9_steadies_44 : bb X P m_X9_steadies h K J s_X9_steadies_44 ls st μ = bb X P m_X9_steadies h K J ((44, .iload_n 1, 1, 1, 0, 0, .inl 0, []) ::
  (45, .iconst (-1), 1, 0, 0, 0, .inl (-1), []) ::
  (46, .if_icmp .ne 7, 3, 53, 0, 0, .inl 0, []) ::
  (49, .iload_n 2, 1, 2, 0, 0, .inl 0, []) ::
  (50, .goto 4, 3, 54, 0, 0, .inl 0, []) :: s_X9_steadies_53) ls st μ := by rw [s_X9_steadies_44]
theorem v_X9_steadies_44 : vc X P m_X9_steadies h K k_X9_steadies S (n + 1) 44 ls st μ = if 44 ∈ S then mAt X m_X9_steadies h K 44 ls st μ else bb X P m_X9_steadies h K (vc X P m_X9_steadies h K k_X9_steadies S n) s_X9_steadies_44 ls st μ := by rw [vc_s, t_X9_steadies_44]
theorem w_X9_steadies_53 : bb X P m_X9_steadies h K J s_X9_steadies_53 ls st μ = bb X P m_X9_steadies h K J ((53, .iconst (-1), 1, 0, 0, 0, .inl (-1), []) :: s_X9_steadies_54) ls st μ := by rw [s_X9_steadies_53]
theorem v_X9_steadies_53 : vc X P m_X9_steadies h K k_X9_steadies S (n + 1) 53 ls st μ = if 53 ∈ S then mAt X m_X9_steadies h K 53 ls st μ else bb X P m_X9_steadies h K (vc X P m_X9_steadies h K k_X9_steadies S n) s_X9_steadies_53 ls st μ := by rw [vc_s, t_X9_steadies_53]
theorem w_X9_steadies_54 : bb X P m_X9_steadies h K J s_X9_steadies_54 ls st μ = bb X P m_X9_steadies h K J ((54, .ireturn, 1, 0, 0, 0, .inl 0, []) :: []) ls st μ := by rw [s_X9_steadies_54]
theorem v_X9_steadies_54 : vc X P m_X9_steadies h K k_X9_steadies S (n + 1) 54 ls st μ = if 54 ∈ S then mAt X m_X9_steadies h K 54 ls st μ else bb X P m_X9_steadies h K (vc X P m_X9_steadies h K k_X9_steadies S n) s_X9_steadies_54 ls st μ := by rw [vc_s, t_X9_steadies_54]
end
section
variable {X : mC} {P : mP} {h : Nat} {K : MV → Mem → Prop} {J : mJ} {ls : List (Nat × MV)} {st : List MV} {μ : Mem} {S : List Nat} {n : Nat}
theorem w_X9_steady_0 : bb X P m_X9_steady h K J s_X9_steady_0 ls st μ = bb X P m_X9_steady h K J ((0, .aload_n 0, 1, 0, 0, 0, .inl 0, []) ::
  (1, .iconst 0, 1, 0, 0, 0, .inl (nI 0), []) ::
  (2, .putfield 76, 3, 8, 0, 0, .inl 0, [1196]) ::
  (5, .aload_n 0, 1, 0, 0, 0, .inl 0, []) ::
  (6, .iload_n 1, 1, 1, 0, 0, .inl 0, []) ::
  (7, .invokevirtual 300, 3, 181, 2, 1, .inl 0, [1610, 8]) ::
  (10, .ifCond .eq 19, 3, 29, 0, 0, .inl 0, []) ::
  (13, .aload_n 0, 1, 0, 0, 0, .inl 0, []) ::
  (14, .iload_n 1, 1, 1, 0, 0, .inl 0, []) ::
  (15, .invokevirtual 331, 3, 184, 2, 1, .inl 0, [1659, 8]) ::
  (18, .ifCond .eq 7, 3, 25, 0, 0, .inl 0, []) ::
  (21, .iconst 1, 1, 0, 0, 0, .inl (nI 1), []) ::
  (22, .goto 8, 3, 30, 0, 0, .inl 0, []) :: s_X9_steady_25) ls st μ := by rw [s_X9_steady_0]
theorem v_X9_steady_0 : vc X P m_X9_steady h K k_X9_steady S (n + 1) 0 ls st μ = if 0 ∈ S then mAt X m_X9_steady h K 0 ls st μ else bb X P m_X9_steady h K (vc X P m_X9_steady h K k_X9_steady S n) s_X9_steady_0 ls st μ := by rw [vc_s, t_X9_steady_0]
theorem w_X9_steady_25 : bb X P m_X9_steady h K J s_X9_steady_25 ls st μ = bb X P m_X9_steady h K J ((25, .iconst 0, 1, 0, 0, 0, .inl (nI 0), []) ::
  (26, .goto 4, 3, 30, 0, 0, .inl 0, []) :: s_X9_steady_29) ls st μ := by rw [s_X9_steady_25]
theorem v_X9_steady_25 : vc X P m_X9_steady h K k_X9_steady S (n + 1) 25 ls st μ = if 25 ∈ S then mAt X m_X9_steady h K 25 ls st μ else bb X P m_X9_steady h K (vc X P m_X9_steady h K k_X9_steady S n) s_X9_steady_25 ls st μ := by rw [vc_s, t_X9_steady_25]
theorem w_X9_steady_29 : bb X P m_X9_steady h K J s_X9_steady_29 ls st μ = bb X P m_X9_steady h K J ((29, .iconst (-1), 1, 0, 0, 0, .inl (-1), []) :: s_X9_steady_30) ls st μ := by rw [s_X9_steady_29]
theorem v_X9_steady_29 : vc X P m_X9_steady h K k_X9_steady S (n + 1) 29 ls st μ = if 29 ∈ S then mAt X m_X9_steady h K 29 ls st μ else bb X P m_X9_steady h K (vc X P m_X9_steady h K k_X9_steady S n) s_X9_steady_29 ls st μ := by rw [vc_s, t_X9_steady_29]
theorem w_X9_steady_30 : bb X P m_X9_steady h K J s_X9_steady_30 ls st μ = bb X P m_X9_steady h K J ((30, .ireturn, 1, 0, 0, 0, .inl 0, []) :: []) ls st μ := by rw [s_X9_steady_30]
theorem v_X9_steady_30 : vc X P m_X9_steady h K k_X9_steady S (n + 1) 30 ls st μ = if 30 ∈ S then mAt X m_X9_steady h K 30 ls st μ else bb X P m_X9_steady h K (vc X P m_X9_steady h K k_X9_steady S n) s_X9_steady_30 ls st μ := by rw [vc_s, t_X9_steady_30]
end
section
variable {X : mC} {P : mP} {h : Nat} {K : MV → Mem → Prop} {J : mJ} {ls : List (Nat × MV)} {st : List MV} {μ : Mem} {S : List Nat} {n : Nat}
theorem w_X9_take_0 : bb X P m_X9_take h K J s_X9_take_0 ls st μ = bb X P m_X9_take h K J ((0, .aload_n 0, 1, 0, 0, 0, .inl 0, []) ::
  (1, .getfield 79, 3, 8, 2, 0, .inl 0, [1198]) ::
  (4, .istore_n 1, 1, 1, 0, 0, .inl 0, []) ::
  (5, .aload_n 0, 1, 0, 0, 0, .inl 0, []) ::
  (6, .iconst 0, 1, 0, 0, 0, .inl (nI 0), []) ::
  (7, .putfield 79, 3, 8, 2, 0, .inl 0, [1198]) ::
  (10, .iload_n 1, 1, 1, 0, 0, .inl 0, []) ::
  (11, .ireturn, 1, 0, 0, 0, .inl 0, []) :: []) ls st μ := by rw [s_X9_take_0]
theorem v_X9_take_0 : vc X P m_X9_take h K k_X9_take S (n + 1) 0 ls st μ = if 0 ∈ S then mAt X m_X9_take h K 0 ls st μ else bb X P m_X9_take h K (vc X P m_X9_take h K k_X9_take S n) s_X9_take_0 ls st μ := by rw [vc_s, t_X9_take_0]
end
section
variable {X : mC} {P : mP} {h : Nat} {K : MV → Mem → Prop} {J : mJ} {ls : List (Nat × MV)} {st : List MV} {μ : Mem} {S : List Nat} {n : Nat}
theorem w_X9_tapeAt_0 : bb X P m_X9_tapeAt h K J s_X9_tapeAt_0 ls st μ = bb X P m_X9_tapeAt h K J ((0, .iload_n 1, 1, 1, 0, 0, .inl 0, []) ::
  (1, .aload_n 0, 1, 0, 0, 0, .inl 0, []) ::
  (2, .getfield 86, 3, 8, 3, 0, .inl 0, [1199]) ::
  (5, .if_icmp .ge 12, 3, 17, 0, 0, .inl 0, []) ::
  (8, .aload_n 0, 1, 0, 0, 0, .inl 0, []) ::
  (9, .getfield 7, 3, 8, 1, 3, .inr (.inr (16, 940, 1)), [1197]) ::
  (12, .iload_n 1, 1, 1, 0, 0, .inl 0, []) ::
  (13, .iaload, 1, 0, 0, 0, .inl 0, []) ::
  (14, .goto 4, 3, 18, 0, 0, .inl 0, []) :: s_X9_tapeAt_17) ls st μ := by rw [s_X9_tapeAt_0]
theorem v_X9_tapeAt_0 : vc X P m_X9_tapeAt h K k_X9_tapeAt S (n + 1) 0 ls st μ = if 0 ∈ S then mAt X m_X9_tapeAt h K 0 ls st μ else bb X P m_X9_tapeAt h K (vc X P m_X9_tapeAt h K k_X9_tapeAt S n) s_X9_tapeAt_0 ls st μ := by rw [vc_s, t_X9_tapeAt_0]
theorem w_X9_tapeAt_17 : bb X P m_X9_tapeAt h K J s_X9_tapeAt_17 ls st μ = bb X P m_X9_tapeAt h K J ((17, .iconst 0, 1, 0, 0, 0, .inl (nI 0), []) :: s_X9_tapeAt_18) ls st μ := by rw [s_X9_tapeAt_17]
theorem v_X9_tapeAt_17 : vc X P m_X9_tapeAt h K k_X9_tapeAt S (n + 1) 17 ls st μ = if 17 ∈ S then mAt X m_X9_tapeAt h K 17 ls st μ else bb X P m_X9_tapeAt h K (vc X P m_X9_tapeAt h K k_X9_tapeAt S n) s_X9_tapeAt_17 ls st μ := by rw [vc_s, t_X9_tapeAt_17]
theorem w_X9_tapeAt_18 : bb X P m_X9_tapeAt h K J s_X9_tapeAt_18 ls st μ = bb X P m_X9_tapeAt h K J ((18, .ireturn, 1, 0, 0, 0, .inl 0, []) :: []) ls st μ := by rw [s_X9_tapeAt_18]
theorem v_X9_tapeAt_18 : vc X P m_X9_tapeAt h K k_X9_tapeAt S (n + 1) 18 ls st μ = if 18 ∈ S then mAt X m_X9_tapeAt h K 18 ls st μ else bb X P m_X9_tapeAt h K (vc X P m_X9_tapeAt h K k_X9_tapeAt S n) s_X9_tapeAt_18 ls st μ := by rw [vc_s, t_X9_tapeAt_18]
end
section
variable {X : mC} {P : mP} {h : Nat} {K : MV → Mem → Prop} {J : mJ} {ls : List (Nat × MV)} {st : List MV} {μ : Mem} {S : List Nat} {n : Nat}
theorem w_X9_thrown_0 : bb X P m_X9_thrown h K J s_X9_thrown_0 ls st μ = bb X P m_X9_thrown h K J ((0, .aload_n 0, 1, 0, 0, 0, .inl 0, []) ::
  (1, .getfield 76, 3, 8, 0, 0, .inl 0, [1196]) ::
  (4, .ireturn, 1, 0, 0, 0, .inl 0, []) :: []) ls st μ := by rw [s_X9_thrown_0]
theorem v_X9_thrown_0 : vc X P m_X9_thrown h K k_X9_thrown S (n + 1) 0 ls st μ = if 0 ∈ S then mAt X m_X9_thrown h K 0 ls st μ else bb X P m_X9_thrown h K (vc X P m_X9_thrown h K k_X9_thrown S n) s_X9_thrown_0 ls st μ := by rw [vc_s, t_X9_thrown_0]
end
section
variable {X : mC} {P : mP} {h : Nat} {K : MV → Mem → Prop} {J : mJ} {ls : List (Nat × MV)} {st : List MV} {μ : Mem} {S : List Nat} {n : Nat}
theorem w_X9_vat_0 : bb X P m_X9_vat h K J s_X9_vat_0 ls st μ = bb X P m_X9_vat h K J ((0, .aload_n 0, 1, 0, 0, 0, .inl 0, []) ::
  (1, .iconst 0, 1, 0, 0, 0, .inl (nI 0), []) ::
  (2, .putfield 76, 3, 8, 0, 0, .inl 0, [1196]) ::
  (5, .aload_n 0, 1, 0, 0, 0, .inl 0, []) ::
  (6, .iload_n 1, 1, 1, 0, 0, .inl 0, []) ::
  (7, .iload_n 2, 1, 2, 0, 0, .inl 0, []) ::
  (8, .invokevirtual 291, 3, 188, 3, 1, .inl 0, [1562, 8]) ::
  (11, .ifCond .eq 20, 3, 31, 0, 0, .inl 0, []) ::
  (14, .aload_n 0, 1, 0, 0, 0, .inl 0, []) ::
  (15, .getfield 13, 3, 8, 14, 3, .inr (.inr (16, 925, 2)), [1210]) ::
  (18, .sipush 623, 3, 0, 0, 0, .inl (nI 623), []) ::
  (21, .iload_n 1, 1, 1, 0, 0, .inl 0, []) ::
  (22, .iload_n 2, 1, 2, 0, 0, .inl 0, []) ::
  (23, .invokestatic 182, 3, 148, 2, 1, .inl 0, [1437]) ::
  (26, .iadd, 1, 0, 0, 0, .inl 0, []) ::
  (27, .iaload, 1, 0, 0, 0, .inl 0, []) ::
  (28, .goto 4, 3, 32, 0, 0, .inl 0, []) :: s_X9_vat_31) ls st μ := by rw [s_X9_vat_0]
theorem v_X9_vat_0 : vc X P m_X9_vat h K k_X9_vat S (n + 1) 0 ls st μ = if 0 ∈ S then mAt X m_X9_vat h K 0 ls st μ else bb X P m_X9_vat h K (vc X P m_X9_vat h K k_X9_vat S n) s_X9_vat_0 ls st μ := by rw [vc_s, t_X9_vat_0]
theorem w_X9_vat_31 : bb X P m_X9_vat h K J s_X9_vat_31 ls st μ = bb X P m_X9_vat h K J ((31, .iconst (-1), 1, 0, 0, 0, .inl (-1), []) :: s_X9_vat_32) ls st μ := by rw [s_X9_vat_31]
theorem v_X9_vat_31 : vc X P m_X9_vat h K k_X9_vat S (n + 1) 31 ls st μ = if 31 ∈ S then mAt X m_X9_vat h K 31 ls st μ else bb X P m_X9_vat h K (vc X P m_X9_vat h K k_X9_vat S n) s_X9_vat_31 ls st μ := by rw [vc_s, t_X9_vat_31]
theorem w_X9_vat_32 : bb X P m_X9_vat h K J s_X9_vat_32 ls st μ = bb X P m_X9_vat h K J ((32, .ireturn, 1, 0, 0, 0, .inl 0, []) :: []) ls st μ := by rw [s_X9_vat_32]
theorem v_X9_vat_32 : vc X P m_X9_vat h K k_X9_vat S (n + 1) 32 ls st μ = if 32 ∈ S then mAt X m_X9_vat h K 32 ls st μ else bb X P m_X9_vat h K (vc X P m_X9_vat h K k_X9_vat S n) s_X9_vat_32 ls st μ := by rw [vc_s, t_X9_vat_32]
end
section
variable {X : mC} {P : mP} {h : Nat} {K : MV → Mem → Prop} {J : mJ} {ls : List (Nat × MV)} {st : List MV} {μ : Mem} {S : List Nat} {n : Nat}
theorem w_X9_went_0 : bb X P m_X9_went h K J s_X9_went_0 ls st μ = bb X P m_X9_went h K J ((0, .aload_n 0, 1, 0, 0, 0, .inl 0, []) ::
  (1, .iconst 0, 1, 0, 0, 0, .inl (nI 0), []) ::
  (2, .putfield 76, 3, 8, 0, 0, .inl 0, [1196]) ::
  (5, .aload_n 0, 1, 0, 0, 0, .inl 0, []) ::
  (6, .invokevirtual 288, 3, 180, 1, 1, .inl 0, [1516, 8]) ::
  (9, .ifCond .eq 38, 3, 47, 0, 0, .inl 0, []) ::
  (12, .aload_n 0, 1, 0, 0, 0, .inl 0, []) ::
  (13, .iload_n 1, 1, 1, 0, 0, .inl 0, []) ::
  (14, .invokevirtual 225, 3, 190, 2, 1, .inl 0, [1468, 8]) ::
  (17, .ifCond .eq 30, 3, 47, 0, 0, .inl 0, []) ::
  (20, .iload_n 2, 1, 2, 0, 0, .inl 0, []) ::
  (21, .iconst 0, 1, 0, 0, 0, .inl (nI 0), []) ::
  (22, .iconst 5, 1, 0, 0, 0, .inl (nI 5), []) ::
  (23, .invokestatic 143, 3, 177, 3, 1, .inl 0, [1414]) ::
  (26, .ifCond .eq 21, 3, 47, 0, 0, .inl 0, []) ::
  (29, .aload_n 0, 1, 0, 0, 0, .inl 0, []) ::
  (30, .getfield 13, 3, 8, 14, 3, .inr (.inr (16, 925, 2)), [1210]) ::
  (33, .sipush 833, 3, 0, 0, 0, .inl (nI 833), []) ::
  (36, .bipush 8, 2, 0, 0, 0, .inl (nI 8), []) ::
  (38, .iload_n 2, 1, 2, 0, 0, .inl 0, []) ::
  (39, .imul, 1, 0, 0, 0, .inl 0, []) ::
  (40, .iadd, 1, 0, 0, 0, .inl 0, []) ::
  (41, .iload_n 1, 1, 1, 0, 0, .inl 0, []) ::
  (42, .iadd, 1, 0, 0, 0, .inl 0, []) ::
  (43, .iaload, 1, 0, 0, 0, .inl 0, []) ::
  (44, .goto 4, 3, 48, 0, 0, .inl 0, []) :: s_X9_went_47) ls st μ := by rw [s_X9_went_0]
theorem v_X9_went_0 : vc X P m_X9_went h K k_X9_went S (n + 1) 0 ls st μ = if 0 ∈ S then mAt X m_X9_went h K 0 ls st μ else bb X P m_X9_went h K (vc X P m_X9_went h K k_X9_went S n) s_X9_went_0 ls st μ := by rw [vc_s, t_X9_went_0]
theorem w_X9_went_47 : bb X P m_X9_went h K J s_X9_went_47 ls st μ = bb X P m_X9_went h K J ((47, .iconst (-1), 1, 0, 0, 0, .inl (-1), []) :: s_X9_went_48) ls st μ := by rw [s_X9_went_47]
theorem v_X9_went_47 : vc X P m_X9_went h K k_X9_went S (n + 1) 47 ls st μ = if 47 ∈ S then mAt X m_X9_went h K 47 ls st μ else bb X P m_X9_went h K (vc X P m_X9_went h K k_X9_went S n) s_X9_went_47 ls st μ := by rw [vc_s, t_X9_went_47]
theorem w_X9_went_48 : bb X P m_X9_went h K J s_X9_went_48 ls st μ = bb X P m_X9_went h K J ((48, .ireturn, 1, 0, 0, 0, .inl 0, []) :: []) ls st μ := by rw [s_X9_went_48]
theorem v_X9_went_48 : vc X P m_X9_went h K k_X9_went S (n + 1) 48 ls st μ = if 48 ∈ S then mAt X m_X9_went h K 48 ls st μ else bb X P m_X9_went h K (vc X P m_X9_went h K k_X9_went S n) s_X9_went_48 ls st μ := by rw [vc_s, t_X9_went_48]
end
section
variable {X : mC} {P : mP} {h : Nat} {K : MV → Mem → Prop} {J : mJ} {ls : List (Nat × MV)} {st : List MV} {μ : Mem} {S : List Nat} {n : Nat}
theorem w_X9_wider_0 : bb X P m_X9_wider h K J s_X9_wider_0 ls st μ = bb X P m_X9_wider h K J ((0, .aload_n 0, 1, 0, 0, 0, .inl 0, []) ::
  (1, .iconst 0, 1, 0, 0, 0, .inl (nI 0), []) ::
  (2, .putfield 76, 3, 8, 0, 0, .inl 0, [1196]) ::
  (5, .iload_n 1, 1, 1, 0, 0, .inl 0, []) ::
  (6, .iconst 1, 1, 0, 0, 0, .inl (nI 1), []) ::
  (7, .bipush 99, 2, 0, 0, 0, .inl (nI 99), []) ::
  (9, .invokestatic 143, 3, 177, 3, 1, .inl 0, [1414]) ::
  (12, .ifCond .eq 10, 3, 22, 0, 0, .inl 0, []) ::
  (15, .iload_n 2, 1, 2, 0, 0, .inl 0, []) ::
  (16, .invokestatic 303, 3, 176, 1, 1, .inl 0, [1614]) ::
  (19, .ifCond .ne 5, 3, 24, 0, 0, .inl 0, []) :: s_X9_wider_22) ls st μ := by rw [s_X9_wider_0]
theorem v_X9_wider_0 : vc X P m_X9_wider h K k_X9_wider S (n + 1) 0 ls st μ = if 0 ∈ S then mAt X m_X9_wider h K 0 ls st μ else bb X P m_X9_wider h K (vc X P m_X9_wider h K k_X9_wider S n) s_X9_wider_0 ls st μ := by rw [vc_s, t_X9_wider_0]
theorem w_X9_wider_22 : bb X P m_X9_wider h K J s_X9_wider_22 ls st μ = bb X P m_X9_wider h K J ((22, .iconst (-1), 1, 0, 0, 0, .inl (-1), []) ::
  (23, .ireturn, 1, 0, 0, 0, .inl 0, []) :: s_X9_wider_24) ls st μ := by rw [s_X9_wider_22]
theorem v_X9_wider_22 : vc X P m_X9_wider h K k_X9_wider S (n + 1) 22 ls st μ = if 22 ∈ S then mAt X m_X9_wider h K 22 ls st μ else bb X P m_X9_wider h K (vc X P m_X9_wider h K k_X9_wider S n) s_X9_wider_22 ls st μ := by rw [vc_s, t_X9_wider_22]
theorem w_X9_wider_24 : bb X P m_X9_wider h K J s_X9_wider_24 ls st μ = bb X P m_X9_wider h K J ((24, .iconst (-1), 1, 0, 0, 0, .inl (-1), []) ::
  (25, .istore_n 3, 1, 3, 0, 0, .inl 0, []) ::
  (26, .iconst 0, 1, 0, 0, 0, .inl (nI 0), []) ::
  (27, .istore 4, 2, 4, 0, 0, .inl 0, []) ::
  (29, .iconst 0, 1, 0, 0, 0, .inl (nI 0), []) ::
  (30, .istore 5, 2, 5, 0, 0, .inl 0, []) :: s_X9_wider_32) ls st μ := by rw [s_X9_wider_24]
theorem v_X9_wider_24 : vc X P m_X9_wider h K k_X9_wider S (n + 1) 24 ls st μ = if 24 ∈ S then mAt X m_X9_wider h K 24 ls st μ else bb X P m_X9_wider h K (vc X P m_X9_wider h K k_X9_wider S n) s_X9_wider_24 ls st μ := by rw [vc_s, t_X9_wider_24]
theorem w_X9_wider_32 : bb X P m_X9_wider h K J s_X9_wider_32 ls st μ = bb X P m_X9_wider h K J ((32, .iload 5, 2, 5, 0, 0, .inl 0, []) ::
  (34, .aload_n 0, 1, 0, 0, 0, .inl 0, []) ::
  (35, .invokevirtual 219, 3, 253, 1, 1, .inl 0, [1472, 8]) ::
  (38, .if_icmp .ge 106, 3, 144, 0, 0, .inl 0, []) ::
  (41, .iconst 0, 1, 0, 0, 0, .inl (nI 0), []) ::
  (42, .istore 6, 2, 6, 0, 0, .inl 0, []) :: s_X9_wider_44) ls st μ := by rw [s_X9_wider_32]
theorem v_X9_wider_32 : vc X P m_X9_wider h K k_X9_wider S (n + 1) 32 ls st μ = if 32 ∈ S then mAt X m_X9_wider h K 32 ls st μ else bb X P m_X9_wider h K (vc X P m_X9_wider h K k_X9_wider S n) s_X9_wider_32 ls st μ := by rw [vc_s, t_X9_wider_32]
theorem w_X9_wider_44 : bb X P m_X9_wider h K J s_X9_wider_44 ls st μ = bb X P m_X9_wider h K J ((44, .iload 6, 2, 6, 0, 0, .inl 0, []) ::
  (46, .aload_n 0, 1, 0, 0, 0, .inl 0, []) ::
  (47, .invokevirtual 222, 3, 165, 1, 1, .inl 0, [1484, 8]) ::
  (50, .if_icmp .ge 88, 3, 138, 0, 0, .inl 0, []) ::
  (53, .aload_n 0, 1, 0, 0, 0, .inl 0, []) ::
  (54, .getfield 13, 3, 8, 14, 3, .inr (.inr (16, 925, 2)), [1210]) ::
  (57, .bipush 38, 2, 0, 0, 0, .inl (nI 38), []) ::
  (59, .iload 5, 2, 5, 0, 0, .inl 0, []) ::
  (61, .iload 6, 2, 6, 0, 0, .inl 0, []) ::
  (63, .invokestatic 182, 3, 148, 2, 1, .inl 0, [1437]) ::
  (66, .iadd, 1, 0, 0, 0, .inl 0, []) ::
  (67, .iaload, 1, 0, 0, 0, .inl 0, []) ::
  (68, .ifCond .ne 6, 3, 74, 0, 0, .inl 0, []) ::
  (71, .goto 61, 3, 132, 0, 0, .inl 0, []) :: s_X9_wider_74) ls st μ := by rw [s_X9_wider_44]
theorem v_X9_wider_44 : vc X P m_X9_wider h K k_X9_wider S (n + 1) 44 ls st μ = if 44 ∈ S then mAt X m_X9_wider h K 44 ls st μ else bb X P m_X9_wider h K (vc X P m_X9_wider h K k_X9_wider S n) s_X9_wider_44 ls st μ := by rw [vc_s, t_X9_wider_44]
theorem w_X9_wider_74 : bb X P m_X9_wider h K J s_X9_wider_74 ls st μ = bb X P m_X9_wider h K J ((74, .aload_n 0, 1, 0, 0, 0, .inl 0, []) ::
  (75, .invokevirtual 285, 3, 196, 1, 0, .inl 0, [1504, 8]) ::
  (78, .aload_n 0, 1, 0, 0, 0, .inl 0, []) ::
  (79, .getfield 39, 3, 8, 22, 3, .inr (.inr (16, 278, 10)), [1218]) ::
  (82, .bipush 86, 2, 0, 0, 0, .inl (nI 86), []) ::
  (84, .iload 5, 2, 5, 0, 0, .inl 0, []) ::
  (86, .iload 6, 2, 6, 0, 0, .inl 0, []) ::
  (88, .invokestatic 182, 3, 148, 2, 1, .inl 0, [1437]) ::
  (91, .iadd, 1, 0, 0, 0, .inl 0, []) ::
  (92, .dup2, 1, 0, 0, 0, .inl 0, []) ::
  (93, .iaload, 1, 0, 0, 0, .inl 0, []) ::
  (94, .iload_n 1, 1, 1, 0, 0, .inl 0, []) ::
  (95, .iadd, 1, 0, 0, 0, .inl 0, []) ::
  (96, .iastore, 1, 0, 0, 0, .inl 0, []) ::
  (97, .aload_n 0, 1, 0, 0, 0, .inl 0, []) ::
  (98, .iload_n 2, 1, 2, 0, 0, .inl 0, []) ::
  (99, .invokevirtual 297, 3, 238, 2, 1, .inl 0, [1621, 8]) ::
  (102, .istore 7, 2, 7, 0, 0, .inl 0, []) ::
  (104, .iload_n 3, 1, 3, 0, 0, .inl 0, []) ::
  (105, .iconst (-1), 1, 0, 0, 0, .inl (-1), []) ::
  (106, .if_icmp .eq 13, 3, 119, 0, 0, .inl 0, []) ::
  (109, .iload 7, 2, 7, 0, 0, .inl 0, []) ::
  (111, .iload 4, 2, 4, 0, 0, .inl 0, []) ::
  (113, .if_icmp .gt 6, 3, 119, 0, 0, .inl 0, []) ::
  (116, .goto 16, 3, 132, 0, 0, .inl 0, []) :: s_X9_wider_119) ls st μ := by rw [s_X9_wider_74]
theorem v_X9_wider_74 : vc X P m_X9_wider h K k_X9_wider S (n + 1) 74 ls st μ = if 74 ∈ S then mAt X m_X9_wider h K 74 ls st μ else bb X P m_X9_wider h K (vc X P m_X9_wider h K k_X9_wider S n) s_X9_wider_74 ls st μ := by rw [vc_s, t_X9_wider_74]
theorem w_X9_wider_119 : bb X P m_X9_wider h K J s_X9_wider_119 ls st μ = bb X P m_X9_wider h K J ((119, .bipush 10, 2, 0, 0, 0, .inl (nI 10), []) ::
  (121, .iload 5, 2, 5, 0, 0, .inl 0, []) ::
  (123, .imul, 1, 0, 0, 0, .inl 0, []) ::
  (124, .iload 6, 2, 6, 0, 0, .inl 0, []) ::
  (126, .iadd, 1, 0, 0, 0, .inl 0, []) ::
  (127, .istore_n 3, 1, 3, 0, 0, .inl 0, []) ::
  (128, .iload 7, 2, 7, 0, 0, .inl 0, []) ::
  (130, .istore 4, 2, 4, 0, 0, .inl 0, []) :: s_X9_wider_132) ls st μ := by rw [s_X9_wider_119]
theorem v_X9_wider_119 : vc X P m_X9_wider h K k_X9_wider S (n + 1) 119 ls st μ = if 119 ∈ S then mAt X m_X9_wider h K 119 ls st μ else bb X P m_X9_wider h K (vc X P m_X9_wider h K k_X9_wider S n) s_X9_wider_119 ls st μ := by rw [vc_s, t_X9_wider_119]
theorem w_X9_wider_132 : bb X P m_X9_wider h K J s_X9_wider_132 ls st μ = bb X P m_X9_wider h K J ((132, .iinc 6 1, 3, 6, 0, 0, .inl (nI 1), []) ::
  (135, .goto (-91), 3, 44, 0, 0, .inl 0, []) :: s_X9_wider_138) ls st μ := by rw [s_X9_wider_132]
theorem v_X9_wider_132 : vc X P m_X9_wider h K k_X9_wider S (n + 1) 132 ls st μ = if 132 ∈ S then mAt X m_X9_wider h K 132 ls st μ else bb X P m_X9_wider h K (vc X P m_X9_wider h K k_X9_wider S n) s_X9_wider_132 ls st μ := by rw [vc_s, t_X9_wider_132]
theorem w_X9_wider_138 : bb X P m_X9_wider h K J s_X9_wider_138 ls st μ = bb X P m_X9_wider h K J ((138, .iinc 5 1, 3, 5, 0, 0, .inl (nI 1), []) ::
  (141, .goto (-109), 3, 32, 0, 0, .inl 0, []) :: s_X9_wider_144) ls st μ := by rw [s_X9_wider_138]
theorem v_X9_wider_138 : vc X P m_X9_wider h K k_X9_wider S (n + 1) 138 ls st μ = if 138 ∈ S then mAt X m_X9_wider h K 138 ls st μ else bb X P m_X9_wider h K (vc X P m_X9_wider h K k_X9_wider S n) s_X9_wider_138 ls st μ := by rw [vc_s, t_X9_wider_138]
theorem w_X9_wider_144 : bb X P m_X9_wider h K J s_X9_wider_144 ls st μ = bb X P m_X9_wider h K J ((144, .iload_n 3, 1, 3, 0, 0, .inl 0, []) ::
  (145, .ireturn, 1, 0, 0, 0, .inl 0, []) :: []) ls st μ := by rw [s_X9_wider_144]
theorem v_X9_wider_144 : vc X P m_X9_wider h K k_X9_wider S (n + 1) 144 ls st μ = if 144 ∈ S then mAt X m_X9_wider h K 144 ls st μ else bb X P m_X9_wider h K (vc X P m_X9_wider h K k_X9_wider S n) s_X9_wider_144 ls st μ := by rw [vc_s, t_X9_wider_144]
end
section
variable {X : mC} {P : mP} {h : Nat} {K : MV → Mem → Prop} {J : mJ} {ls : List (Nat × MV)} {st : List MV} {μ : Mem} {S : List Nat} {n : Nat}
theorem w_X9_wordOf_0 : bb X P m_X9_wordOf h K J s_X9_wordOf_0 ls st μ = bb X P m_X9_wordOf h K J ((0, .iload_n 0, 1, 0, 0, 0, .inl 0, []) ::
  (1, .tableswitch 347 0 17 #[87, 101, 115, 130, 145, 160, 175, 191, 206, 222, 234, 247, 260, 275, 289, 304, 318, 333], 87, 348, 0, 0, .inl 0, [88, 102, 116, 131, 146, 161, 176, 192, 207, 223, 235, 248, 261, 276, 290, 305, 319, 334]) :: s_X9_wordOf_88) ls st μ := by rw [s_X9_wordOf_0]
theorem v_X9_wordOf_0 : vc X P m_X9_wordOf h K k_X9_wordOf S (n + 1) 0 ls st μ = if 0 ∈ S then mAt X m_X9_wordOf h K 0 ls st μ else bb X P m_X9_wordOf h K (vc X P m_X9_wordOf h K k_X9_wordOf S n) s_X9_wordOf_0 ls st μ := by rw [vc_s, t_X9_wordOf_0]
theorem w_X9_wordOf_88 : bb X P m_X9_wordOf h K J s_X9_wordOf_88 ls st μ = bb X P m_X9_wordOf h K J ((88, .bipush 103, 2, 0, 0, 0, .inl (nI 103), []) ::
  (90, .bipush 111, 2, 0, 0, 0, .inl (nI 111), []) ::
  (92, .bipush 111, 2, 0, 0, 0, .inl (nI 111), []) ::
  (94, .bipush 100, 2, 0, 0, 0, .inl (nI 100), []) ::
  (96, .iconst 0, 1, 0, 0, 0, .inl (nI 0), []) ::
  (97, .iconst 0, 1, 0, 0, 0, .inl (nI 0), []) ::
  (98, .invokestatic 126, 3, 241, 6, 2, .inl 0, [1388]) ::
  (101, .lreturn, 1, 0, 0, 0, .inl 0, []) :: s_X9_wordOf_102) ls st μ := by rw [s_X9_wordOf_88]
theorem v_X9_wordOf_88 : vc X P m_X9_wordOf h K k_X9_wordOf S (n + 1) 88 ls st μ = if 88 ∈ S then mAt X m_X9_wordOf h K 88 ls st μ else bb X P m_X9_wordOf h K (vc X P m_X9_wordOf h K k_X9_wordOf S n) s_X9_wordOf_88 ls st μ := by rw [vc_s, t_X9_wordOf_88]
theorem w_X9_wordOf_102 : bb X P m_X9_wordOf h K J s_X9_wordOf_102 ls st μ = bb X P m_X9_wordOf h K J ((102, .bipush 119, 2, 0, 0, 0, .inl (nI 119), []) ::
  (104, .bipush 111, 2, 0, 0, 0, .inl (nI 111), []) ::
  (106, .bipush 114, 2, 0, 0, 0, .inl (nI 114), []) ::
  (108, .bipush 107, 2, 0, 0, 0, .inl (nI 107), []) ::
  (110, .iconst 0, 1, 0, 0, 0, .inl (nI 0), []) ::
  (111, .iconst 0, 1, 0, 0, 0, .inl (nI 0), []) ::
  (112, .invokestatic 126, 3, 241, 6, 2, .inl 0, [1388]) ::
  (115, .lreturn, 1, 0, 0, 0, .inl 0, []) :: s_X9_wordOf_116) ls st μ := by rw [s_X9_wordOf_102]
theorem v_X9_wordOf_102 : vc X P m_X9_wordOf h K k_X9_wordOf S (n + 1) 102 ls st μ = if 102 ∈ S then mAt X m_X9_wordOf h K 102 ls st μ else bb X P m_X9_wordOf h K (vc X P m_X9_wordOf h K k_X9_wordOf S n) s_X9_wordOf_102 ls st μ := by rw [vc_s, t_X9_wordOf_102]
theorem w_X9_wordOf_116 : bb X P m_X9_wordOf h K J s_X9_wordOf_116 ls st μ = bb X P m_X9_wordOf h K J ((116, .bipush 116, 2, 0, 0, 0, .inl (nI 116), []) ::
  (118, .bipush 97, 2, 0, 0, 0, .inl (nI 97), []) ::
  (120, .bipush 107, 2, 0, 0, 0, .inl (nI 107), []) ::
  (122, .bipush 101, 2, 0, 0, 0, .inl (nI 101), []) ::
  (124, .bipush 115, 2, 0, 0, 0, .inl (nI 115), []) ::
  (126, .iconst 0, 1, 0, 0, 0, .inl (nI 0), []) ::
  (127, .invokestatic 126, 3, 241, 6, 2, .inl 0, [1388]) ::
  (130, .lreturn, 1, 0, 0, 0, .inl 0, []) :: s_X9_wordOf_131) ls st μ := by rw [s_X9_wordOf_116]
theorem v_X9_wordOf_116 : vc X P m_X9_wordOf h K k_X9_wordOf S (n + 1) 116 ls st μ = if 116 ∈ S then mAt X m_X9_wordOf h K 116 ls st μ else bb X P m_X9_wordOf h K (vc X P m_X9_wordOf h K k_X9_wordOf S n) s_X9_wordOf_116 ls st μ := by rw [vc_s, t_X9_wordOf_116]
theorem w_X9_wordOf_131 : bb X P m_X9_wordOf h K J s_X9_wordOf_131 ls st μ = bb X P m_X9_wordOf h K J ((131, .bipush 103, 2, 0, 0, 0, .inl (nI 103), []) ::
  (133, .bipush 105, 2, 0, 0, 0, .inl (nI 105), []) ::
  (135, .bipush 118, 2, 0, 0, 0, .inl (nI 118), []) ::
  (137, .bipush 101, 2, 0, 0, 0, .inl (nI 101), []) ::
  (139, .bipush 115, 2, 0, 0, 0, .inl (nI 115), []) ::
  (141, .iconst 0, 1, 0, 0, 0, .inl (nI 0), []) ::
  (142, .invokestatic 126, 3, 241, 6, 2, .inl 0, [1388]) ::
  (145, .lreturn, 1, 0, 0, 0, .inl 0, []) :: s_X9_wordOf_146) ls st μ := by rw [s_X9_wordOf_131]
theorem v_X9_wordOf_131 : vc X P m_X9_wordOf h K k_X9_wordOf S (n + 1) 131 ls st μ = if 131 ∈ S then mAt X m_X9_wordOf h K 131 ls st μ else bb X P m_X9_wordOf h K (vc X P m_X9_wordOf h K k_X9_wordOf S n) s_X9_wordOf_131 ls st μ := by rw [vc_s, t_X9_wordOf_131]
theorem w_X9_wordOf_146 : bb X P m_X9_wordOf h K J s_X9_wordOf_146 ls st μ = bb X P m_X9_wordOf h K J ((146, .bipush 109, 2, 0, 0, 0, .inl (nI 109), []) ::
  (148, .bipush 97, 2, 0, 0, 0, .inl (nI 97), []) ::
  (150, .bipush 107, 2, 0, 0, 0, .inl (nI 107), []) ::
  (152, .bipush 101, 2, 0, 0, 0, .inl (nI 101), []) ::
  (154, .bipush 115, 2, 0, 0, 0, .inl (nI 115), []) ::
  (156, .iconst 0, 1, 0, 0, 0, .inl (nI 0), []) ::
  (157, .invokestatic 126, 3, 241, 6, 2, .inl 0, [1388]) ::
  (160, .lreturn, 1, 0, 0, 0, .inl 0, []) :: s_X9_wordOf_161) ls st μ := by rw [s_X9_wordOf_146]
theorem v_X9_wordOf_146 : vc X P m_X9_wordOf h K k_X9_wordOf S (n + 1) 146 ls st μ = if 146 ∈ S then mAt X m_X9_wordOf h K 146 ls st μ else bb X P m_X9_wordOf h K (vc X P m_X9_wordOf h K k_X9_wordOf S n) s_X9_wordOf_146 ls st μ := by rw [vc_s, t_X9_wordOf_146]
theorem w_X9_wordOf_161 : bb X P m_X9_wordOf h K J s_X9_wordOf_161 ls st μ = bb X P m_X9_wordOf h K J ((161, .bipush 102, 2, 0, 0, 0, .inl (nI 102), []) ::
  (163, .bipush 101, 2, 0, 0, 0, .inl (nI 101), []) ::
  (165, .bipush 101, 2, 0, 0, 0, .inl (nI 101), []) ::
  (167, .bipush 100, 2, 0, 0, 0, .inl (nI 100), []) ::
  (169, .bipush 115, 2, 0, 0, 0, .inl (nI 115), []) ::
  (171, .iconst 0, 1, 0, 0, 0, .inl (nI 0), []) ::
  (172, .invokestatic 126, 3, 241, 6, 2, .inl 0, [1388]) ::
  (175, .lreturn, 1, 0, 0, 0, .inl 0, []) :: s_X9_wordOf_176) ls st μ := by rw [s_X9_wordOf_161]
theorem v_X9_wordOf_161 : vc X P m_X9_wordOf h K k_X9_wordOf S (n + 1) 161 ls st μ = if 161 ∈ S then mAt X m_X9_wordOf h K 161 ls st μ else bb X P m_X9_wordOf h K (vc X P m_X9_wordOf h K k_X9_wordOf S n) s_X9_wordOf_161 ls st μ := by rw [vc_s, t_X9_wordOf_161]
theorem w_X9_wordOf_176 : bb X P m_X9_wordOf h K J s_X9_wordOf_176 ls st μ = bb X P m_X9_wordOf h K J ((176, .bipush 106, 2, 0, 0, 0, .inl (nI 106), []) ::
  (178, .bipush 111, 2, 0, 0, 0, .inl (nI 111), []) ::
  (180, .bipush 105, 2, 0, 0, 0, .inl (nI 105), []) ::
  (182, .bipush 110, 2, 0, 0, 0, .inl (nI 110), []) ::
  (184, .bipush 101, 2, 0, 0, 0, .inl (nI 101), []) ::
  (186, .bipush 100, 2, 0, 0, 0, .inl (nI 100), []) ::
  (188, .invokestatic 126, 3, 241, 6, 2, .inl 0, [1388]) ::
  (191, .lreturn, 1, 0, 0, 0, .inl 0, []) :: s_X9_wordOf_192) ls st μ := by rw [s_X9_wordOf_176]
theorem v_X9_wordOf_176 : vc X P m_X9_wordOf h K k_X9_wordOf S (n + 1) 176 ls st μ = if 176 ∈ S then mAt X m_X9_wordOf h K 176 ls st μ else bb X P m_X9_wordOf h K (vc X P m_X9_wordOf h K k_X9_wordOf S n) s_X9_wordOf_176 ls st μ := by rw [vc_s, t_X9_wordOf_176]
theorem w_X9_wordOf_192 : bb X P m_X9_wordOf h K J s_X9_wordOf_192 ls st μ = bb X P m_X9_wordOf h K J ((192, .bipush 115, 2, 0, 0, 0, .inl (nI 115), []) ::
  (194, .bipush 116, 2, 0, 0, 0, .inl (nI 116), []) ::
  (196, .bipush 111, 2, 0, 0, 0, .inl (nI 111), []) ::
  (198, .bipush 112, 2, 0, 0, 0, .inl (nI 112), []) ::
  (200, .bipush 115, 2, 0, 0, 0, .inl (nI 115), []) ::
  (202, .iconst 0, 1, 0, 0, 0, .inl (nI 0), []) ::
  (203, .invokestatic 126, 3, 241, 6, 2, .inl 0, [1388]) ::
  (206, .lreturn, 1, 0, 0, 0, .inl 0, []) :: s_X9_wordOf_207) ls st μ := by rw [s_X9_wordOf_192]
theorem v_X9_wordOf_192 : vc X P m_X9_wordOf h K k_X9_wordOf S (n + 1) 192 ls st μ = if 192 ∈ S then mAt X m_X9_wordOf h K 192 ls st μ else bb X P m_X9_wordOf h K (vc X P m_X9_wordOf h K k_X9_wordOf S n) s_X9_wordOf_192 ls st μ := by rw [vc_s, t_X9_wordOf_192]
theorem w_X9_wordOf_207 : bb X P m_X9_wordOf h K J s_X9_wordOf_207 ls st μ = bb X P m_X9_wordOf h K J ((207, .bipush 98, 2, 0, 0, 0, .inl (nI 98), []) ::
  (209, .bipush 114, 2, 0, 0, 0, .inl (nI 114), []) ::
  (211, .bipush 105, 2, 0, 0, 0, .inl (nI 105), []) ::
  (213, .bipush 110, 2, 0, 0, 0, .inl (nI 110), []) ::
  (215, .bipush 103, 2, 0, 0, 0, .inl (nI 103), []) ::
  (217, .bipush 115, 2, 0, 0, 0, .inl (nI 115), []) ::
  (219, .invokestatic 126, 3, 241, 6, 2, .inl 0, [1388]) ::
  (222, .lreturn, 1, 0, 0, 0, .inl 0, []) :: s_X9_wordOf_223) ls st μ := by rw [s_X9_wordOf_207]
theorem v_X9_wordOf_207 : vc X P m_X9_wordOf h K k_X9_wordOf S (n + 1) 207 ls st μ = if 207 ∈ S then mAt X m_X9_wordOf h K 207 ls st μ else bb X P m_X9_wordOf h K (vc X P m_X9_wordOf h K k_X9_wordOf S n) s_X9_wordOf_207 ls st μ := by rw [vc_s, t_X9_wordOf_207]
theorem w_X9_wordOf_223 : bb X P m_X9_wordOf h K J s_X9_wordOf_223 ls st μ = bb X P m_X9_wordOf h K J ((223, .bipush 111, 2, 0, 0, 0, .inl (nI 111), []) ::
  (225, .bipush 114, 2, 0, 0, 0, .inl (nI 114), []) ::
  (227, .iconst 0, 1, 0, 0, 0, .inl (nI 0), []) ::
  (228, .iconst 0, 1, 0, 0, 0, .inl (nI 0), []) ::
  (229, .iconst 0, 1, 0, 0, 0, .inl (nI 0), []) ::
  (230, .iconst 0, 1, 0, 0, 0, .inl (nI 0), []) ::
  (231, .invokestatic 126, 3, 241, 6, 2, .inl 0, [1388]) ::
  (234, .lreturn, 1, 0, 0, 0, .inl 0, []) :: s_X9_wordOf_235) ls st μ := by rw [s_X9_wordOf_223]
theorem v_X9_wordOf_223 : vc X P m_X9_wordOf h K k_X9_wordOf S (n + 1) 223 ls st μ = if 223 ∈ S then mAt X m_X9_wordOf h K 223 ls st μ else bb X P m_X9_wordOf h K (vc X P m_X9_wordOf h K k_X9_wordOf S n) s_X9_wordOf_223 ls st μ := by rw [vc_s, t_X9_wordOf_223]
theorem w_X9_wordOf_235 : bb X P m_X9_wordOf h K J s_X9_wordOf_235 ls st μ = bb X P m_X9_wordOf h K J ((235, .bipush 97, 2, 0, 0, 0, .inl (nI 97), []) ::
  (237, .bipush 110, 2, 0, 0, 0, .inl (nI 110), []) ::
  (239, .bipush 100, 2, 0, 0, 0, .inl (nI 100), []) ::
  (241, .iconst 0, 1, 0, 0, 0, .inl (nI 0), []) ::
  (242, .iconst 0, 1, 0, 0, 0, .inl (nI 0), []) ::
  (243, .iconst 0, 1, 0, 0, 0, .inl (nI 0), []) ::
  (244, .invokestatic 126, 3, 241, 6, 2, .inl 0, [1388]) ::
  (247, .lreturn, 1, 0, 0, 0, .inl 0, []) :: s_X9_wordOf_248) ls st μ := by rw [s_X9_wordOf_235]
theorem v_X9_wordOf_235 : vc X P m_X9_wordOf h K k_X9_wordOf S (n + 1) 235 ls st μ = if 235 ∈ S then mAt X m_X9_wordOf h K 235 ls st μ else bb X P m_X9_wordOf h K (vc X P m_X9_wordOf h K k_X9_wordOf S n) s_X9_wordOf_235 ls st μ := by rw [vc_s, t_X9_wordOf_235]
theorem w_X9_wordOf_248 : bb X P m_X9_wordOf h K J s_X9_wordOf_248 ls st μ = bb X P m_X9_wordOf h K J ((248, .bipush 110, 2, 0, 0, 0, .inl (nI 110), []) ::
  (250, .bipush 111, 2, 0, 0, 0, .inl (nI 111), []) ::
  (252, .bipush 116, 2, 0, 0, 0, .inl (nI 116), []) ::
  (254, .iconst 0, 1, 0, 0, 0, .inl (nI 0), []) ::
  (255, .iconst 0, 1, 0, 0, 0, .inl (nI 0), []) ::
  (256, .iconst 0, 1, 0, 0, 0, .inl (nI 0), []) ::
  (257, .invokestatic 126, 3, 241, 6, 2, .inl 0, [1388]) ::
  (260, .lreturn, 1, 0, 0, 0, .inl 0, []) :: s_X9_wordOf_261) ls st μ := by rw [s_X9_wordOf_248]
theorem v_X9_wordOf_248 : vc X P m_X9_wordOf h K k_X9_wordOf S (n + 1) 248 ls st μ = if 248 ∈ S then mAt X m_X9_wordOf h K 248 ls st μ else bb X P m_X9_wordOf h K (vc X P m_X9_wordOf h K k_X9_wordOf S n) s_X9_wordOf_248 ls st μ := by rw [vc_s, t_X9_wordOf_248]
theorem w_X9_wordOf_261 : bb X P m_X9_wordOf h K J s_X9_wordOf_261 ls st μ = bb X P m_X9_wordOf h K J ((261, .bipush 119, 2, 0, 0, 0, .inl (nI 119), []) ::
  (263, .bipush 97, 2, 0, 0, 0, .inl (nI 97), []) ::
  (265, .bipush 110, 2, 0, 0, 0, .inl (nI 110), []) ::
  (267, .bipush 116, 2, 0, 0, 0, .inl (nI 116), []) ::
  (269, .bipush 115, 2, 0, 0, 0, .inl (nI 115), []) ::
  (271, .iconst 0, 1, 0, 0, 0, .inl (nI 0), []) ::
  (272, .invokestatic 126, 3, 241, 6, 2, .inl 0, [1388]) ::
  (275, .lreturn, 1, 0, 0, 0, .inl 0, []) :: s_X9_wordOf_276) ls st μ := by rw [s_X9_wordOf_261]
theorem v_X9_wordOf_261 : vc X P m_X9_wordOf h K k_X9_wordOf S (n + 1) 261 ls st μ = if 261 ∈ S then mAt X m_X9_wordOf h K 261 ls st μ else bb X P m_X9_wordOf h K (vc X P m_X9_wordOf h K k_X9_wordOf S n) s_X9_wordOf_261 ls st μ := by rw [vc_s, t_X9_wordOf_261]
theorem w_X9_wordOf_276 : bb X P m_X9_wordOf h K J s_X9_wordOf_276 ls st μ = bb X P m_X9_wordOf h K J ((276, .bipush 108, 2, 0, 0, 0, .inl (nI 108), []) ::
  (278, .bipush 101, 2, 0, 0, 0, .inl (nI 101), []) ::
  (280, .bipush 116, 2, 0, 0, 0, .inl (nI 116), []) ::
  (282, .bipush 115, 2, 0, 0, 0, .inl (nI 115), []) ::
  (284, .iconst 0, 1, 0, 0, 0, .inl (nI 0), []) ::
  (285, .iconst 0, 1, 0, 0, 0, .inl (nI 0), []) ::
  (286, .invokestatic 126, 3, 241, 6, 2, .inl 0, [1388]) ::
  (289, .lreturn, 1, 0, 0, 0, .inl 0, []) :: s_X9_wordOf_290) ls st μ := by rw [s_X9_wordOf_276]
theorem v_X9_wordOf_276 : vc X P m_X9_wordOf h K k_X9_wordOf S (n + 1) 276 ls st μ = if 276 ∈ S then mAt X m_X9_wordOf h K 276 ls st μ else bb X P m_X9_wordOf h K (vc X P m_X9_wordOf h K k_X9_wordOf S n) s_X9_wordOf_276 ls st μ := by rw [vc_s, t_X9_wordOf_276]
theorem w_X9_wordOf_290 : bb X P m_X9_wordOf h K J s_X9_wordOf_290 ls st μ = bb X P m_X9_wordOf h K J ((290, .bipush 102, 2, 0, 0, 0, .inl (nI 102), []) ::
  (292, .bipush 105, 2, 0, 0, 0, .inl (nI 105), []) ::
  (294, .bipush 110, 2, 0, 0, 0, .inl (nI 110), []) ::
  (296, .bipush 100, 2, 0, 0, 0, .inl (nI 100), []) ::
  (298, .bipush 115, 2, 0, 0, 0, .inl (nI 115), []) ::
  (300, .iconst 0, 1, 0, 0, 0, .inl (nI 0), []) ::
  (301, .invokestatic 126, 3, 241, 6, 2, .inl 0, [1388]) ::
  (304, .lreturn, 1, 0, 0, 0, .inl 0, []) :: s_X9_wordOf_305) ls st μ := by rw [s_X9_wordOf_290]
theorem v_X9_wordOf_290 : vc X P m_X9_wordOf h K k_X9_wordOf S (n + 1) 290 ls st μ = if 290 ∈ S then mAt X m_X9_wordOf h K 290 ls st μ else bb X P m_X9_wordOf h K (vc X P m_X9_wordOf h K k_X9_wordOf S n) s_X9_wordOf_290 ls st μ := by rw [vc_s, t_X9_wordOf_290]
theorem w_X9_wordOf_305 : bb X P m_X9_wordOf h K J s_X9_wordOf_305 ls st μ = bb X P m_X9_wordOf h K J ((305, .bipush 119, 2, 0, 0, 0, .inl (nI 119), []) ::
  (307, .bipush 101, 2, 0, 0, 0, .inl (nI 101), []) ::
  (309, .bipush 110, 2, 0, 0, 0, .inl (nI 110), []) ::
  (311, .bipush 116, 2, 0, 0, 0, .inl (nI 116), []) ::
  (313, .iconst 0, 1, 0, 0, 0, .inl (nI 0), []) ::
  (314, .iconst 0, 1, 0, 0, 0, .inl (nI 0), []) ::
  (315, .invokestatic 126, 3, 241, 6, 2, .inl 0, [1388]) ::
  (318, .lreturn, 1, 0, 0, 0, .inl 0, []) :: s_X9_wordOf_319) ls st μ := by rw [s_X9_wordOf_305]
theorem v_X9_wordOf_305 : vc X P m_X9_wordOf h K k_X9_wordOf S (n + 1) 305 ls st μ = if 305 ∈ S then mAt X m_X9_wordOf h K 305 ls st μ else bb X P m_X9_wordOf h K (vc X P m_X9_wordOf h K k_X9_wordOf S n) s_X9_wordOf_305 ls st μ := by rw [vc_s, t_X9_wordOf_305]
theorem w_X9_wordOf_319 : bb X P m_X9_wordOf h K J s_X9_wordOf_319 ls st μ = bb X P m_X9_wordOf h K J ((319, .bipush 115, 2, 0, 0, 0, .inl (nI 115), []) ::
  (321, .bipush 116, 2, 0, 0, 0, .inl (nI 116), []) ::
  (323, .bipush 111, 2, 0, 0, 0, .inl (nI 111), []) ::
  (325, .bipush 111, 2, 0, 0, 0, .inl (nI 111), []) ::
  (327, .bipush 100, 2, 0, 0, 0, .inl (nI 100), []) ::
  (329, .iconst 0, 1, 0, 0, 0, .inl (nI 0), []) ::
  (330, .invokestatic 126, 3, 241, 6, 2, .inl 0, [1388]) ::
  (333, .lreturn, 1, 0, 0, 0, .inl 0, []) :: s_X9_wordOf_334) ls st μ := by rw [s_X9_wordOf_319]
theorem v_X9_wordOf_319 : vc X P m_X9_wordOf h K k_X9_wordOf S (n + 1) 319 ls st μ = if 319 ∈ S then mAt X m_X9_wordOf h K 319 ls st μ else bb X P m_X9_wordOf h K (vc X P m_X9_wordOf h K k_X9_wordOf S n) s_X9_wordOf_319 ls st μ := by rw [vc_s, t_X9_wordOf_319]
theorem w_X9_wordOf_334 : bb X P m_X9_wordOf h K J s_X9_wordOf_334 ls st μ = bb X P m_X9_wordOf h K J ((334, .bipush 109, 2, 0, 0, 0, .inl (nI 109), []) ::
  (336, .bipush 97, 2, 0, 0, 0, .inl (nI 97), []) ::
  (338, .bipush 100, 2, 0, 0, 0, .inl (nI 100), []) ::
  (340, .bipush 101, 2, 0, 0, 0, .inl (nI 101), []) ::
  (342, .iconst 0, 1, 0, 0, 0, .inl (nI 0), []) ::
  (343, .iconst 0, 1, 0, 0, 0, .inl (nI 0), []) ::
  (344, .invokestatic 126, 3, 241, 6, 2, .inl 0, [1388]) ::
  (347, .lreturn, 1, 0, 0, 0, .inl 0, []) :: s_X9_wordOf_348) ls st μ := by rw [s_X9_wordOf_334]
theorem v_X9_wordOf_334 : vc X P m_X9_wordOf h K k_X9_wordOf S (n + 1) 334 ls st μ = if 334 ∈ S then mAt X m_X9_wordOf h K 334 ls st μ else bb X P m_X9_wordOf h K (vc X P m_X9_wordOf h K k_X9_wordOf S n) s_X9_wordOf_334 ls st μ := by rw [vc_s, t_X9_wordOf_334]
theorem w_X9_wordOf_348 : bb X P m_X9_wordOf h K J s_X9_wordOf_348 ls st μ = bb X P m_X9_wordOf h K J ((348, .bipush 112, 2, 0, 0, 0, .inl (nI 112), []) ::
  (350, .bipush 108, 2, 0, 0, 0, .inl (nI 108), []) ::
  (352, .bipush 97, 2, 0, 0, 0, .inl (nI 97), []) ::
  (354, .bipush 99, 2, 0, 0, 0, .inl (nI 99), []) ::
  (356, .bipush 101, 2, 0, 0, 0, .inl (nI 101), []) ::
  (358, .iconst 0, 1, 0, 0, 0, .inl (nI 0), []) ::
  (359, .invokestatic 126, 3, 241, 6, 2, .inl 0, [1388]) ::
  (362, .lreturn, 1, 0, 0, 0, .inl 0, []) :: []) ls st μ := by rw [s_X9_wordOf_348]
theorem v_X9_wordOf_348 : vc X P m_X9_wordOf h K k_X9_wordOf S (n + 1) 348 ls st μ = if 348 ∈ S then mAt X m_X9_wordOf h K 348 ls st μ else bb X P m_X9_wordOf h K (vc X P m_X9_wordOf h K k_X9_wordOf S n) s_X9_wordOf_348 ls st μ := by rw [vc_s, t_X9_wordOf_348]
end
section
variable {X : mC} {P : mP} {h : Nat} {K : MV → Mem → Prop} {J : mJ} {ls : List (Nat × MV)} {st : List MV} {μ : Mem} {S : List Nat} {n : Nat}
theorem w_X9_work_0 : bb X P m_X9_work h K J s_X9_work_0 ls st μ = bb X P m_X9_work h K J ((0, .aload_n 0, 1, 0, 0, 0, .inl 0, []) ::
  (1, .iload_n 1, 1, 1, 0, 0, .inl 0, []) ::
  (2, .invokevirtual 225, 3, 190, 2, 1, .inl 0, [1468, 8]) ::
  (5, .ifCond .eq 12, 3, 17, 0, 0, .inl 0, []) ::
  (8, .iload_n 2, 1, 2, 0, 0, .inl 0, []) ::
  (9, .iconst 0, 1, 0, 0, 0, .inl (nI 0), []) ::
  (10, .iconst 5, 1, 0, 0, 0, .inl (nI 5), []) ::
  (11, .invokestatic 143, 3, 177, 3, 1, .inl 0, [1414]) ::
  (14, .ifCond .ne 8, 3, 22, 0, 0, .inl 0, []) :: s_X9_work_17) ls st μ := by rw [s_X9_work_0]
theorem v_X9_work_0 : vc X P m_X9_work h K k_X9_work S (n + 1) 0 ls st μ = if 0 ∈ S then mAt X m_X9_work h K 0 ls st μ else bb X P m_X9_work h K (vc X P m_X9_work h K k_X9_work S n) s_X9_work_0 ls st μ := by rw [vc_s, t_X9_work_0]
theorem w_X9_work_17 : bb X P m_X9_work h K J s_X9_work_17 ls st μ = bb X P m_X9_work h K J ((17, .aload_n 0, 1, 0, 0, 0, .inl 0, []) ::
  (18, .invokevirtual 228, 3, 235, 1, 1, .inl 0, [1476, 8]) ::
  (21, .ireturn, 1, 0, 0, 0, .inl 0, []) :: s_X9_work_22) ls st μ := by rw [s_X9_work_17]
theorem v_X9_work_17 : vc X P m_X9_work h K k_X9_work S (n + 1) 17 ls st μ = if 17 ∈ S then mAt X m_X9_work h K 17 ls st μ else bb X P m_X9_work h K (vc X P m_X9_work h K k_X9_work S n) s_X9_work_17 ls st μ := by rw [vc_s, t_X9_work_17]
theorem w_X9_work_22 : bb X P m_X9_work h K J s_X9_work_22 ls st μ = bb X P m_X9_work h K J ((22, .aload_n 0, 1, 0, 0, 0, .inl 0, []) ::
  (23, .iconst 0, 1, 0, 0, 0, .inl (nI 0), []) ::
  (24, .putfield 76, 3, 8, 0, 0, .inl 0, [1196]) ::
  (27, .iload_n 2, 1, 2, 0, 0, .inl 0, []) ::
  (28, .iconst 3, 1, 0, 0, 0, .inl (nI 3), []) ::
  (29, .if_icmp .ge 32, 3, 61, 0, 0, .inl 0, []) ::
  (32, .aload_n 0, 1, 0, 0, 0, .inl 0, []) ::
  (33, .getfield 13, 3, 8, 14, 3, .inr (.inr (16, 925, 2)), [1210]) ::
  (36, .iload_n 2, 1, 2, 0, 0, .inl 0, []) ::
  (37, .ifCond .ne 8, 3, 45, 0, 0, .inl 0, []) ::
  (40, .bipush 14, 2, 0, 0, 0, .inl (nI 14), []) ::
  (42, .goto 15, 3, 57, 0, 0, .inl 0, []) :: s_X9_work_45) ls st μ := by rw [s_X9_work_22]
theorem v_X9_work_22 : vc X P m_X9_work h K k_X9_work S (n + 1) 22 ls st μ = if 22 ∈ S then mAt X m_X9_work h K 22 ls st μ else bb X P m_X9_work h K (vc X P m_X9_work h K k_X9_work S n) s_X9_work_22 ls st μ := by rw [vc_s, t_X9_work_22]
theorem w_X9_work_45 : bb X P m_X9_work h K J s_X9_work_45 ls st μ = bb X P m_X9_work h K J ((45, .iload_n 2, 1, 2, 0, 0, .inl 0, []) ::
  (46, .iconst 1, 1, 0, 0, 0, .inl (nI 1), []) ::
  (47, .if_icmp .ne 8, 3, 55, 0, 0, .inl 0, []) ::
  (50, .bipush 22, 2, 0, 0, 0, .inl (nI 22), []) ::
  (52, .goto 5, 3, 57, 0, 0, .inl 0, []) :: s_X9_work_55) ls st μ := by rw [s_X9_work_45]
theorem v_X9_work_45 : vc X P m_X9_work h K k_X9_work S (n + 1) 45 ls st μ = if 45 ∈ S then mAt X m_X9_work h K 45 ls st μ else bb X P m_X9_work h K (vc X P m_X9_work h K k_X9_work S n) s_X9_work_45 ls st μ := by rw [vc_s, t_X9_work_45]
theorem w_X9_work_55 : bb X P m_X9_work h K J s_X9_work_55 ls st μ = bb X P m_X9_work h K J ((55, .bipush 30, 2, 0, 0, 0, .inl (nI 30), []) :: s_X9_work_57) ls st μ := by rw [s_X9_work_55]
theorem v_X9_work_55 : vc X P m_X9_work h K k_X9_work S (n + 1) 55 ls st μ = if 55 ∈ S then mAt X m_X9_work h K 55 ls st μ else bb X P m_X9_work h K (vc X P m_X9_work h K k_X9_work S n) s_X9_work_55 ls st μ := by rw [vc_s, t_X9_work_55]
theorem w_X9_work_57 : bb X P m_X9_work h K J s_X9_work_57 ls st μ = bb X P m_X9_work h K J ((57, .iload_n 1, 1, 1, 0, 0, .inl 0, []) ::
  (58, .iadd, 1, 0, 0, 0, .inl 0, []) ::
  (59, .iaload, 1, 0, 0, 0, .inl 0, []) ::
  (60, .ireturn, 1, 0, 0, 0, .inl 0, []) :: s_X9_work_61) ls st μ := by rw [s_X9_work_57]
theorem v_X9_work_57 : vc X P m_X9_work h K k_X9_work S (n + 1) 57 ls st μ = if 57 ∈ S then mAt X m_X9_work h K 57 ls st μ else bb X P m_X9_work h K (vc X P m_X9_work h K k_X9_work S n) s_X9_work_57 ls st μ := by rw [vc_s, t_X9_work_57]
theorem w_X9_work_61 : bb X P m_X9_work h K J s_X9_work_61 ls st μ = bb X P m_X9_work h K J ((61, .aload_n 0, 1, 0, 0, 0, .inl 0, []) ::
  (62, .iload_n 2, 1, 2, 0, 0, .inl 0, []) ::
  (63, .iconst 3, 1, 0, 0, 0, .inl (nI 3), []) ::
  (64, .if_icmp .ne 8, 3, 72, 0, 0, .inl 0, []) ::
  (67, .bipush 38, 2, 0, 0, 0, .inl (nI 38), []) ::
  (69, .goto 17, 3, 86, 0, 0, .inl 0, []) :: s_X9_work_72) ls st μ := by rw [s_X9_work_61]
theorem v_X9_work_61 : vc X P m_X9_work h K k_X9_work S (n + 1) 61 ls st μ = if 61 ∈ S then mAt X m_X9_work h K 61 ls st μ else bb X P m_X9_work h K (vc X P m_X9_work h K k_X9_work S n) s_X9_work_61 ls st μ := by rw [vc_s, t_X9_work_61]
theorem w_X9_work_72 : bb X P m_X9_work h K J s_X9_work_72 ls st μ = bb X P m_X9_work h K J ((72, .iload_n 2, 1, 2, 0, 0, .inl 0, []) ::
  (73, .iconst 4, 1, 0, 0, 0, .inl (nI 4), []) ::
  (74, .if_icmp .ne 9, 3, 83, 0, 0, .inl 0, []) ::
  (77, .sipush 182, 3, 0, 0, 0, .inl (nI 182), []) ::
  (80, .goto 6, 3, 86, 0, 0, .inl 0, []) :: s_X9_work_83) ls st μ := by rw [s_X9_work_72]
theorem v_X9_work_72 : vc X P m_X9_work h K k_X9_work S (n + 1) 72 ls st μ = if 72 ∈ S then mAt X m_X9_work h K 72 ls st μ else bb X P m_X9_work h K (vc X P m_X9_work h K k_X9_work S n) s_X9_work_72 ls st μ := by rw [vc_s, t_X9_work_72]
theorem w_X9_work_83 : bb X P m_X9_work h K J s_X9_work_83 ls st μ = bb X P m_X9_work h K J ((83, .sipush 230, 3, 0, 0, 0, .inl (nI 230), []) :: s_X9_work_86) ls st μ := by rw [s_X9_work_83]
theorem v_X9_work_83 : vc X P m_X9_work h K k_X9_work S (n + 1) 83 ls st μ = if 83 ∈ S then mAt X m_X9_work h K 83 ls st μ else bb X P m_X9_work h K (vc X P m_X9_work h K k_X9_work S n) s_X9_work_83 ls st μ := by rw [vc_s, t_X9_work_83]
theorem w_X9_work_86 : bb X P m_X9_work h K J s_X9_work_86 ls st μ = bb X P m_X9_work h K J ((86, .iload_n 1, 1, 1, 0, 0, .inl 0, []) ::
  (87, .invokevirtual 231, 3, 166, 3, 1, .inl 0, [1480, 8]) ::
  (90, .ireturn, 1, 0, 0, 0, .inl 0, []) :: []) ls st μ := by rw [s_X9_work_86]
theorem v_X9_work_86 : vc X P m_X9_work h K k_X9_work S (n + 1) 86 ls st μ = if 86 ∈ S then mAt X m_X9_work h K 86 ls st μ else bb X P m_X9_work h K (vc X P m_X9_work h K k_X9_work S n) s_X9_work_86 ls st μ := by rw [vc_s, t_X9_work_86]
end
section
variable {X : mC} {P : mP} {h : Nat} {K : MV → Mem → Prop} {J : mJ} {ls : List (Nat × MV)} {st : List MV} {μ : Mem} {S : List Nat} {n : Nat}
theorem w_X9_works_0 : bb X P m_X9_works h K J s_X9_works_0 ls st μ = bb X P m_X9_works h K J ((0, .aload_n 0, 1, 0, 0, 0, .inl 0, []) ::
  (1, .getfield 13, 3, 8, 14, 3, .inr (.inr (16, 925, 2)), [1210]) ::
  (4, .iconst 1, 1, 0, 0, 0, .inl (nI 1), []) ::
  (5, .iaload, 1, 0, 0, 0, .inl 0, []) ::
  (6, .ireturn, 1, 0, 0, 0, .inl 0, []) :: []) ls st μ := by rw [s_X9_works_0]
theorem v_X9_works_0 : vc X P m_X9_works h K k_X9_works S (n + 1) 0 ls st μ = if 0 ∈ S then mAt X m_X9_works h K 0 ls st μ else bb X P m_X9_works h K (vc X P m_X9_works h K k_X9_works S n) s_X9_works_0 ls st μ := by rw [vc_s, t_X9_works_0]
end
section
variable {X : mC} {P : mP} {h : Nat} {K : MV → Mem → Prop} {J : mJ} {ls : List (Nat × MV)} {st : List MV} {μ : Mem} {S : List Nat} {n : Nat}
theorem w_X9_worth_0 : bb X P m_X9_worth h K J s_X9_worth_0 ls st μ = bb X P m_X9_worth h K J ((0, .aload_n 0, 1, 0, 0, 0, .inl 0, []) ::
  (1, .iconst 0, 1, 0, 0, 0, .inl (nI 0), []) ::
  (2, .putfield 76, 3, 8, 0, 0, .inl 0, [1196]) ::
  (5, .iload_n 1, 1, 1, 0, 0, .inl 0, []) ::
  (6, .invokestatic 303, 3, 176, 1, 1, .inl 0, [1614]) ::
  (9, .ifCond .eq 10, 3, 19, 0, 0, .inl 0, []) ::
  (12, .aload_n 0, 1, 0, 0, 0, .inl 0, []) ::
  (13, .invokevirtual 219, 3, 253, 1, 1, .inl 0, [1472, 8]) ::
  (16, .ifCond .ne 5, 3, 21, 0, 0, .inl 0, []) :: s_X9_worth_19) ls st μ := by rw [s_X9_worth_0]
theorem v_X9_worth_0 : vc X P m_X9_worth h K k_X9_worth S (n + 1) 0 ls st μ = if 0 ∈ S then mAt X m_X9_worth h K 0 ls st μ else bb X P m_X9_worth h K (vc X P m_X9_worth h K k_X9_worth S n) s_X9_worth_0 ls st μ := by rw [vc_s, t_X9_worth_0]
theorem w_X9_worth_19 : bb X P m_X9_worth h K J s_X9_worth_19 ls st μ = bb X P m_X9_worth h K J ((19, .iconst (-1), 1, 0, 0, 0, .inl (-1), []) ::
  (20, .ireturn, 1, 0, 0, 0, .inl 0, []) :: s_X9_worth_21) ls st μ := by rw [s_X9_worth_19]
theorem v_X9_worth_19 : vc X P m_X9_worth h K k_X9_worth S (n + 1) 19 ls st μ = if 19 ∈ S then mAt X m_X9_worth h K 19 ls st μ else bb X P m_X9_worth h K (vc X P m_X9_worth h K k_X9_worth S n) s_X9_worth_19 ls st μ := by rw [vc_s, t_X9_worth_19]
theorem w_X9_worth_21 : bb X P m_X9_worth h K J s_X9_worth_21 ls st μ = bb X P m_X9_worth h K J ((21, .aload_n 0, 1, 0, 0, 0, .inl 0, []) ::
  (22, .iload_n 1, 1, 1, 0, 0, .inl 0, []) ::
  (23, .invokevirtual 312, 3, 197, 2, 0, .inl 0, [1637, 8]) ::
  (26, .aload_n 0, 1, 0, 0, 0, .inl 0, []) ::
  (27, .aload_n 0, 1, 0, 0, 0, .inl 0, []) ::
  (28, .invokevirtual 219, 3, 253, 1, 1, .inl 0, [1472, 8]) ::
  (31, .putfield 315, 3, 8, 33, 0, .inl 0, [1229]) ::
  (34, .aload_n 0, 1, 0, 0, 0, .inl 0, []) ::
  (35, .aload_n 0, 1, 0, 0, 0, .inl 0, []) ::
  (36, .getfield 315, 3, 8, 33, 0, .inl 0, [1229]) ::
  (39, .invokestatic 318, 3, 210, 1, 2, .inl 0, [1641]) ::
  (42, .putfield 321, 3, 8, 34, 1, .inl 0, [1230]) ::
  (45, .iconst 0, 1, 0, 0, 0, .inl (nI 0), []) ::
  (46, .istore_n 2, 1, 2, 0, 0, .inl 0, []) :: s_X9_worth_47) ls st μ := by rw [s_X9_worth_21]
theorem v_X9_worth_21 : vc X P m_X9_worth h K k_X9_worth S (n + 1) 21 ls st μ = if 21 ∈ S then mAt X m_X9_worth h K 21 ls st μ else bb X P m_X9_worth h K (vc X P m_X9_worth h K k_X9_worth S n) s_X9_worth_21 ls st μ := by rw [vc_s, t_X9_worth_21]
theorem w_X9_worth_47 : bb X P m_X9_worth h K J s_X9_worth_47 ls st μ = bb X P m_X9_worth h K J ((47, .iload_n 2, 1, 2, 0, 0, .inl 0, []) ::
  (48, .aload_n 0, 1, 0, 0, 0, .inl 0, []) ::
  (49, .getfield 315, 3, 8, 33, 0, .inl 0, [1229]) ::
  (52, .if_icmp .ge 95, 3, 147, 0, 0, .inl 0, []) ::
  (55, .aload_n 0, 1, 0, 0, 0, .inl 0, []) ::
  (56, .getfield 60, 3, 8, 32, 3, .inr (.inr (17, 8, 17)), [1228]) ::
  (59, .iload_n 2, 1, 2, 0, 0, .inl 0, []) ::
  (60, .lconst 0, 1, 0, 0, 0, .inr (.inl 0), []) ::
  (61, .lastore, 1, 0, 0, 0, .inl 0, []) ::
  (62, .iconst 0, 1, 0, 0, 0, .inl (nI 0), []) ::
  (63, .istore_n 3, 1, 3, 0, 0, .inl 0, []) :: s_X9_worth_64) ls st μ := by rw [s_X9_worth_47]
theorem v_X9_worth_47 : vc X P m_X9_worth h K k_X9_worth S (n + 1) 47 ls st μ = if 47 ∈ S then mAt X m_X9_worth h K 47 ls st μ else bb X P m_X9_worth h K (vc X P m_X9_worth h K k_X9_worth S n) s_X9_worth_47 ls st μ := by rw [vc_s, t_X9_worth_47]
theorem w_X9_worth_64 : bb X P m_X9_worth h K J s_X9_worth_64 ls st μ = bb X P m_X9_worth h K J ((64, .aload_n 0, 1, 0, 0, 0, .inl 0, []) ::
  (65, .iload_n 3, 1, 3, 0, 0, .inl 0, []) ::
  (66, .invokevirtual 300, 3, 181, 2, 1, .inl 0, [1610, 8]) ::
  (69, .ifCond .eq 72, 3, 141, 0, 0, .inl 0, []) ::
  (72, .iload_n 3, 1, 3, 0, 0, .inl 0, []) ::
  (73, .iload_n 2, 1, 2, 0, 0, .inl 0, []) ::
  (74, .invokestatic 250, 3, 169, 2, 1, .inl 0, [1543]) ::
  (77, .ifCond .eq 6, 3, 83, 0, 0, .inl 0, []) ::
  (80, .goto 55, 3, 135, 0, 0, .inl 0, []) :: s_X9_worth_83) ls st μ := by rw [s_X9_worth_64]
theorem v_X9_worth_64 : vc X P m_X9_worth h K k_X9_worth S (n + 1) 64 ls st μ = if 64 ∈ S then mAt X m_X9_worth h K 64 ls st μ else bb X P m_X9_worth h K (vc X P m_X9_worth h K k_X9_worth S n) s_X9_worth_64 ls st μ := by rw [vc_s, t_X9_worth_64]
theorem w_X9_worth_83 : bb X P m_X9_worth h K J s_X9_worth_83 ls st μ = bb X P m_X9_worth h K J ((83, .iload_n 3, 1, 3, 0, 0, .inl 0, []) ::
  (84, .invokestatic 324, 3, 143, 1, 1, .inl 0, [1644]) ::
  (87, .istore 4, 2, 4, 0, 0, .inl 0, []) ::
  (89, .aload_n 0, 1, 0, 0, 0, .inl 0, []) ::
  (90, .getfield 60, 3, 8, 32, 3, .inr (.inr (17, 8, 17)), [1228]) ::
  (93, .iload_n 2, 1, 2, 0, 0, .inl 0, []) ::
  (94, .dup2, 1, 0, 0, 0, .inl 0, []) ::
  (95, .laload, 1, 0, 0, 0, .inl 0, []) ::
  (96, .iload 4, 2, 4, 0, 0, .inl 0, []) ::
  (98, .invokestatic 318, 3, 210, 1, 2, .inl 0, [1641]) ::
  (101, .aload_n 0, 1, 0, 0, 0, .inl 0, []) ::
  (102, .getfield 315, 3, 8, 33, 0, .inl 0, [1229]) ::
  (105, .iconst 1, 1, 0, 0, 0, .inl (nI 1), []) ::
  (106, .isub, 1, 0, 0, 0, .inl 0, []) ::
  (107, .iload 4, 2, 4, 0, 0, .inl 0, []) ::
  (109, .isub, 1, 0, 0, 0, .inl 0, []) ::
  (110, .invokestatic 318, 3, 210, 1, 2, .inl 0, [1641]) ::
  (113, .lmul, 1, 0, 0, 0, .inl 0, []) ::
  (114, .aload_n 0, 1, 0, 0, 0, .inl 0, []) ::
  (115, .getfield 57, 3, 8, 31, 3, .inr (.inr (16, 256, 16)), [1227]) ::
  (118, .iload_n 3, 1, 3, 0, 0, .inl 0, []) ::
  (119, .iconst 1, 1, 0, 0, 0, .inl (nI 1), []) ::
  (120, .iload_n 2, 1, 2, 0, 0, .inl 0, []) ::
  (121, .ishl, 1, 0, 0, 0, .inl 0, []) ::
  (122, .ior, 1, 0, 0, 0, .inl 0, []) ::
  (123, .iaload, 1, 0, 0, 0, .inl 0, []) ::
  (124, .aload_n 0, 1, 0, 0, 0, .inl 0, []) ::
  (125, .getfield 57, 3, 8, 31, 3, .inr (.inr (16, 256, 16)), [1227]) ::
  (128, .iload_n 3, 1, 3, 0, 0, .inl 0, []) ::
  (129, .iaload, 1, 0, 0, 0, .inl 0, []) ::
  (130, .isub, 1, 0, 0, 0, .inl 0, []) ::
  (131, .i2l, 1, 0, 0, 0, .inl 0, []) ::
  (132, .lmul, 1, 0, 0, 0, .inl 0, []) ::
  (133, .ladd, 1, 0, 0, 0, .inl 0, []) ::
  (134, .lastore, 1, 0, 0, 0, .inl 0, []) :: s_X9_worth_135) ls st μ := by rw [s_X9_worth_83]
theorem v_X9_worth_83 : vc X P m_X9_worth h K k_X9_worth S (n + 1) 83 ls st μ = if 83 ∈ S then mAt X m_X9_worth h K 83 ls st μ else bb X P m_X9_worth h K (vc X P m_X9_worth h K k_X9_worth S n) s_X9_worth_83 ls st μ := by rw [vc_s, t_X9_worth_83]
theorem w_X9_worth_135 : bb X P m_X9_worth h K J s_X9_worth_135 ls st μ = bb X P m_X9_worth h K J ((135, .iinc 3 1, 3, 3, 0, 0, .inl (nI 1), []) ::
  (138, .goto (-74), 3, 64, 0, 0, .inl 0, []) :: s_X9_worth_141) ls st μ := by rw [s_X9_worth_135]
theorem v_X9_worth_135 : vc X P m_X9_worth h K k_X9_worth S (n + 1) 135 ls st μ = if 135 ∈ S then mAt X m_X9_worth h K 135 ls st μ else bb X P m_X9_worth h K (vc X P m_X9_worth h K k_X9_worth S n) s_X9_worth_135 ls st μ := by rw [vc_s, t_X9_worth_135]
theorem w_X9_worth_141 : bb X P m_X9_worth h K J s_X9_worth_141 ls st μ = bb X P m_X9_worth h K J ((141, .iinc 2 1, 3, 2, 0, 0, .inl (nI 1), []) ::
  (144, .goto (-97), 3, 47, 0, 0, .inl 0, []) :: s_X9_worth_147) ls st μ := by rw [s_X9_worth_141]
theorem v_X9_worth_141 : vc X P m_X9_worth h K k_X9_worth S (n + 1) 141 ls st μ = if 141 ∈ S then mAt X m_X9_worth h K 141 ls st μ else bb X P m_X9_worth h K (vc X P m_X9_worth h K k_X9_worth S n) s_X9_worth_141 ls st μ := by rw [vc_s, t_X9_worth_141]
theorem w_X9_worth_147 : bb X P m_X9_worth h K J s_X9_worth_147 ls st μ = bb X P m_X9_worth h K J ((147, .aload_n 0, 1, 0, 0, 0, .inl 0, []) ::
  (148, .getfield 57, 3, 8, 31, 3, .inr (.inr (16, 256, 16)), [1227]) ::
  (151, .aload_n 0, 1, 0, 0, 0, .inl 0, []) ::
  (152, .invokevirtual 309, 3, 137, 1, 1, .inl 0, [1629, 8]) ::
  (155, .iaload, 1, 0, 0, 0, .inl 0, []) ::
  (156, .ireturn, 1, 0, 0, 0, .inl 0, []) :: []) ls st μ := by rw [s_X9_worth_147]
theorem v_X9_worth_147 : vc X P m_X9_worth h K k_X9_worth S (n + 1) 147 ls st μ = if 147 ∈ S then mAt X m_X9_worth h K 147 ls st μ else bb X P m_X9_worth h K (vc X P m_X9_worth h K k_X9_worth S n) s_X9_worth_147 ls st μ := by rw [vc_s, t_X9_worth_147]
end
section
variable {X : mC} {P : mP} {h : Nat} {K : MV → Mem → Prop} {J : mJ} {ls : List (Nat × MV)} {st : List MV} {μ : Mem} {S : List Nat} {n : Nat}
theorem w_X9_worthOf_0 : bb X P m_X9_worthOf h K J s_X9_worthOf_0 ls st μ = bb X P m_X9_worthOf h K J ((0, .iload_n 1, 1, 1, 0, 0, .inl 0, []) ::
  (1, .ifCond .lt 20, 3, 21, 0, 0, .inl 0, []) ::
  (4, .iload_n 1, 1, 1, 0, 0, .inl 0, []) ::
  (5, .aload_n 0, 1, 0, 0, 0, .inl 0, []) ::
  (6, .getfield 315, 3, 8, 33, 0, .inl 0, [1229]) ::
  (9, .if_icmp .ge 12, 3, 21, 0, 0, .inl 0, []) ::
  (12, .iload_n 2, 1, 2, 0, 0, .inl 0, []) ::
  (13, .iconst 0, 1, 0, 0, 0, .inl (nI 0), []) ::
  (14, .iconst 1, 1, 0, 0, 0, .inl (nI 1), []) ::
  (15, .invokestatic 143, 3, 177, 3, 1, .inl 0, [1414]) ::
  (18, .ifCond .ne 10, 3, 28, 0, 0, .inl 0, []) :: s_X9_worthOf_21) ls st μ := by rw [s_X9_worthOf_0]
theorem v_X9_worthOf_0 : vc X P m_X9_worthOf h K k_X9_worthOf S (n + 1) 0 ls st μ = if 0 ∈ S then mAt X m_X9_worthOf h K 0 ls st μ else bb X P m_X9_worthOf h K (vc X P m_X9_worthOf h K k_X9_worthOf S n) s_X9_worthOf_0 ls st μ := by rw [vc_s, t_X9_worthOf_0]
theorem w_X9_worthOf_21 : bb X P m_X9_worthOf h K J s_X9_worthOf_21 ls st μ = bb X P m_X9_worthOf h K J ((21, .aload_n 0, 1, 0, 0, 0, .inl 0, []) ::
  (22, .invokevirtual 228, 3, 235, 1, 1, .inl 0, [1476, 8]) ::
  (25, .pop, 1, 0, 0, 0, .inl 0, []) ::
  (26, .lconst 0, 1, 0, 0, 0, .inr (.inl 0), []) ::
  (27, .lreturn, 1, 0, 0, 0, .inl 0, []) :: s_X9_worthOf_28) ls st μ := by rw [s_X9_worthOf_21]
theorem v_X9_worthOf_21 : vc X P m_X9_worthOf h K k_X9_worthOf S (n + 1) 21 ls st μ = if 21 ∈ S then mAt X m_X9_worthOf h K 21 ls st μ else bb X P m_X9_worthOf h K (vc X P m_X9_worthOf h K k_X9_worthOf S n) s_X9_worthOf_21 ls st μ := by rw [vc_s, t_X9_worthOf_21]
theorem w_X9_worthOf_28 : bb X P m_X9_worthOf h K J s_X9_worthOf_28 ls st μ = bb X P m_X9_worthOf h K J ((28, .aload_n 0, 1, 0, 0, 0, .inl 0, []) ::
  (29, .iconst 0, 1, 0, 0, 0, .inl (nI 0), []) ::
  (30, .putfield 76, 3, 8, 0, 0, .inl 0, [1196]) ::
  (33, .aload_n 0, 1, 0, 0, 0, .inl 0, []) ::
  (34, .getfield 60, 3, 8, 32, 3, .inr (.inr (17, 8, 17)), [1228]) ::
  (37, .iload_n 1, 1, 1, 0, 0, .inl 0, []) ::
  (38, .laload, 1, 0, 0, 0, .inl 0, []) ::
  (39, .lconst 0, 1, 0, 0, 0, .inr (.inl 0), []) ::
  (40, .lcmp, 1, 0, 0, 0, .inl 0, []) ::
  (41, .ifCond .ge 13, 3, 54, 0, 0, .inl 0, []) ::
  (44, .aload_n 0, 1, 0, 0, 0, .inl 0, []) ::
  (45, .getfield 60, 3, 8, 32, 3, .inr (.inr (17, 8, 17)), [1228]) ::
  (48, .iload_n 1, 1, 1, 0, 0, .inl 0, []) ::
  (49, .laload, 1, 0, 0, 0, .inl 0, []) ::
  (50, .lneg, 1, 0, 0, 0, .inl 0, []) ::
  (51, .goto 9, 3, 60, 0, 0, .inl 0, []) :: s_X9_worthOf_54) ls st μ := by rw [s_X9_worthOf_28]
theorem v_X9_worthOf_28 : vc X P m_X9_worthOf h K k_X9_worthOf S (n + 1) 28 ls st μ = if 28 ∈ S then mAt X m_X9_worthOf h K 28 ls st μ else bb X P m_X9_worthOf h K (vc X P m_X9_worthOf h K k_X9_worthOf S n) s_X9_worthOf_28 ls st μ := by rw [vc_s, t_X9_worthOf_28]
theorem w_X9_worthOf_54 : bb X P m_X9_worthOf h K J s_X9_worthOf_54 ls st μ = bb X P m_X9_worthOf h K J ((54, .aload_n 0, 1, 0, 0, 0, .inl 0, []) ::
  (55, .getfield 60, 3, 8, 32, 3, .inr (.inr (17, 8, 17)), [1228]) ::
  (58, .iload_n 1, 1, 1, 0, 0, .inl 0, []) ::
  (59, .laload, 1, 0, 0, 0, .inl 0, []) :: s_X9_worthOf_60) ls st μ := by rw [s_X9_worthOf_54]
theorem v_X9_worthOf_54 : vc X P m_X9_worthOf h K k_X9_worthOf S (n + 1) 54 ls st μ = if 54 ∈ S then mAt X m_X9_worthOf h K 54 ls st μ else bb X P m_X9_worthOf h K (vc X P m_X9_worthOf h K k_X9_worthOf S n) s_X9_worthOf_54 ls st μ := by rw [vc_s, t_X9_worthOf_54]
theorem w_X9_worthOf_60 : bb X P m_X9_worthOf h K J s_X9_worthOf_60 ls st μ = bb X P m_X9_worthOf h K J ((60, .lstore_n 3, 1, 3, 0, 0, .inl 0, []) ::
  (61, .aload_n 0, 1, 0, 0, 0, .inl 0, []) ::
  (62, .getfield 321, 3, 8, 34, 1, .inl 0, [1230]) ::
  (65, .lstore 5, 2, 5, 0, 0, .inl 0, []) :: s_X9_worthOf_67) ls st μ := by rw [s_X9_worthOf_60]
theorem v_X9_worthOf_60 : vc X P m_X9_worthOf h K k_X9_worthOf S (n + 1) 60 ls st μ = if 60 ∈ S then mAt X m_X9_worthOf h K 60 ls st μ else bb X P m_X9_worthOf h K (vc X P m_X9_worthOf h K k_X9_worthOf S n) s_X9_worthOf_60 ls st μ := by rw [vc_s, t_X9_worthOf_60]
theorem w_X9_worthOf_67 : bb X P m_X9_worthOf h K J s_X9_worthOf_67 ls st μ = bb X P m_X9_worthOf h K J ((67, .lload 5, 2, 5, 0, 0, .inl 0, []) ::
  (69, .lconst 0, 1, 0, 0, 0, .inr (.inl 0), []) ::
  (70, .lcmp, 1, 0, 0, 0, .inl 0, []) ::
  (71, .ifCond .le 19, 3, 90, 0, 0, .inl 0, []) ::
  (74, .lload_n 3, 1, 3, 0, 0, .inl 0, []) ::
  (75, .lload 5, 2, 5, 0, 0, .inl 0, []) ::
  (77, .lrem, 1, 0, 0, 0, .inl 0, []) ::
  (78, .lstore 7, 2, 7, 0, 0, .inl 0, []) ::
  (80, .lload 5, 2, 5, 0, 0, .inl 0, []) ::
  (82, .lstore_n 3, 1, 3, 0, 0, .inl 0, []) ::
  (83, .lload 7, 2, 7, 0, 0, .inl 0, []) ::
  (85, .lstore 5, 2, 5, 0, 0, .inl 0, []) ::
  (87, .goto (-20), 3, 67, 0, 0, .inl 0, []) :: s_X9_worthOf_90) ls st μ := by rw [s_X9_worthOf_67]
theorem v_X9_worthOf_67 : vc X P m_X9_worthOf h K k_X9_worthOf S (n + 1) 67 ls st μ = if 67 ∈ S then mAt X m_X9_worthOf h K 67 ls st μ else bb X P m_X9_worthOf h K (vc X P m_X9_worthOf h K k_X9_worthOf S n) s_X9_worthOf_67 ls st μ := by rw [vc_s, t_X9_worthOf_67]
theorem w_X9_worthOf_90 : bb X P m_X9_worthOf h K J s_X9_worthOf_90 ls st μ = bb X P m_X9_worthOf h K J ((90, .iload_n 2, 1, 2, 0, 0, .inl 0, []) ::
  (91, .ifCond .ne 12, 3, 103, 0, 0, .inl 0, []) ::
  (94, .aload_n 0, 1, 0, 0, 0, .inl 0, []) ::
  (95, .getfield 60, 3, 8, 32, 3, .inr (.inr (17, 8, 17)), [1228]) ::
  (98, .iload_n 1, 1, 1, 0, 0, .inl 0, []) ::
  (99, .laload, 1, 0, 0, 0, .inl 0, []) ::
  (100, .goto 7, 3, 107, 0, 0, .inl 0, []) :: s_X9_worthOf_103) ls st μ := by rw [s_X9_worthOf_90]
theorem v_X9_worthOf_90 : vc X P m_X9_worthOf h K k_X9_worthOf S (n + 1) 90 ls st μ = if 90 ∈ S then mAt X m_X9_worthOf h K 90 ls st μ else bb X P m_X9_worthOf h K (vc X P m_X9_worthOf h K k_X9_worthOf S n) s_X9_worthOf_90 ls st μ := by rw [vc_s, t_X9_worthOf_90]
theorem w_X9_worthOf_103 : bb X P m_X9_worthOf h K J s_X9_worthOf_103 ls st μ = bb X P m_X9_worthOf h K J ((103, .aload_n 0, 1, 0, 0, 0, .inl 0, []) ::
  (104, .getfield 321, 3, 8, 34, 1, .inl 0, [1230]) :: s_X9_worthOf_107) ls st μ := by rw [s_X9_worthOf_103]
theorem v_X9_worthOf_103 : vc X P m_X9_worthOf h K k_X9_worthOf S (n + 1) 103 ls st μ = if 103 ∈ S then mAt X m_X9_worthOf h K 103 ls st μ else bb X P m_X9_worthOf h K (vc X P m_X9_worthOf h K k_X9_worthOf S n) s_X9_worthOf_103 ls st μ := by rw [vc_s, t_X9_worthOf_103]
theorem w_X9_worthOf_107 : bb X P m_X9_worthOf h K J s_X9_worthOf_107 ls st μ = bb X P m_X9_worthOf h K J ((107, .lload_n 3, 1, 3, 0, 0, .inl 0, []) ::
  (108, .ldiv, 1, 0, 0, 0, .inl 0, []) ::
  (109, .lreturn, 1, 0, 0, 0, .inl 0, []) :: []) ls st μ := by rw [s_X9_worthOf_107]
theorem v_X9_worthOf_107 : vc X P m_X9_worthOf h K k_X9_worthOf S (n + 1) 107 ls st μ = if 107 ∈ S then mAt X m_X9_worthOf h K 107 ls st μ else bb X P m_X9_worthOf h K (vc X P m_X9_worthOf h K k_X9_worthOf S n) s_X9_worthOf_107 ls st μ := by rw [vc_s, t_X9_worthOf_107]
end
section
variable {X : mC} {P : mP} {h : Nat} {K : MV → Mem → Prop} {J : mJ} {ls : List (Nat × MV)} {st : List MV} {μ : Mem} {S : List Nat} {n : Nat}
theorem w_X9_write_0 : bb X P m_X9_write h K J s_X9_write_0 ls st μ = bb X P m_X9_write h K J ((0, .aload_n 0, 1, 0, 0, 0, .inl 0, []) ::
  (1, .iconst 0, 1, 0, 0, 0, .inl (nI 0), []) ::
  (2, .putfield 76, 3, 8, 0, 0, .inl 0, [1196]) ::
  (5, .aload_n 0, 1, 0, 0, 0, .inl 0, []) ::
  (6, .invokevirtual 288, 3, 180, 1, 1, .inl 0, [1516, 8]) ::
  (9, .ifCond .ne 5, 3, 14, 0, 0, .inl 0, []) ::
  (12, .iconst (-1), 1, 0, 0, 0, .inl (-1), []) ::
  (13, .ireturn, 1, 0, 0, 0, .inl 0, []) :: s_X9_write_14) ls st μ := by rw [s_X9_write_0]
theorem v_X9_write_0 : vc X P m_X9_write h K k_X9_write S (n + 1) 0 ls st μ = if 0 ∈ S then mAt X m_X9_write h K 0 ls st μ else bb X P m_X9_write h K (vc X P m_X9_write h K k_X9_write S n) s_X9_write_0 ls st μ := by rw [vc_s, t_X9_write_0]
theorem w_X9_write_14 : bb X P m_X9_write h K J s_X9_write_14 ls st μ = bb X P m_X9_write h K J ((14, .aload_n 0, 1, 0, 0, 0, .inl 0, []) ::
  (15, .iconst 0, 1, 0, 0, 0, .inl (nI 0), []) ::
  (16, .putfield 343, 3, 8, 38, 0, .inl 0, [1234]) ::
  (19, .iconst 0, 1, 0, 0, 0, .inl (nI 0), []) ::
  (20, .istore_n 1, 1, 1, 0, 0, .inl 0, []) :: s_X9_write_21) ls st μ := by rw [s_X9_write_14]
theorem v_X9_write_14 : vc X P m_X9_write h K k_X9_write S (n + 1) 14 ls st μ = if 14 ∈ S then mAt X m_X9_write h K 14 ls st μ else bb X P m_X9_write h K (vc X P m_X9_write h K k_X9_write S n) s_X9_write_14 ls st μ := by rw [vc_s, t_X9_write_14]
theorem w_X9_write_21 : bb X P m_X9_write h K J s_X9_write_21 ls st μ = bb X P m_X9_write h K J ((21, .iload_n 1, 1, 1, 0, 0, .inl 0, []) ::
  (22, .aload_n 0, 1, 0, 0, 0, .inl 0, []) ::
  (23, .invokevirtual 219, 3, 253, 1, 1, .inl 0, [1472, 8]) ::
  (26, .if_icmp .ge 68, 3, 94, 0, 0, .inl 0, []) ::
  (29, .aload_n 0, 1, 0, 0, 0, .inl 0, []) ::
  (30, .aload_n 0, 1, 0, 0, 0, .inl 0, []) ::
  (31, .getfield 25, 3, 8, 18, 3, .inr (.inr (17, 14, 6)), [1214]) ::
  (34, .bipush 6, 2, 0, 0, 0, .inl (nI 6), []) ::
  (36, .iload_n 1, 1, 1, 0, 0, .inl 0, []) ::
  (37, .iadd, 1, 0, 0, 0, .inl 0, []) ::
  (38, .laload, 1, 0, 0, 0, .inl 0, []) ::
  (39, .invokevirtual 349, 3, 214, 2, 0, .inl 0, [1727, 8]) ::
  (42, .aload_n 0, 1, 0, 0, 0, .inl 0, []) ::
  (43, .bipush 32, 2, 0, 0, 0, .inl (nI 32), []) ::
  (45, .invokevirtual 346, 3, 213, 2, 0, .inl 0, [1731, 8]) ::
  (48, .aload_n 0, 1, 0, 0, 0, .inl 0, []) ::
  (49, .aload_n 0, 1, 0, 0, 0, .inl 0, []) ::
  (50, .getfield 13, 3, 8, 14, 3, .inr (.inr (16, 925, 2)), [1210]) ::
  (53, .sipush 833, 3, 0, 0, 0, .inl (nI 833), []) ::
  (56, .iload_n 1, 1, 1, 0, 0, .inl 0, []) ::
  (57, .iadd, 1, 0, 0, 0, .inl 0, []) ::
  (58, .iaload, 1, 0, 0, 0, .inl 0, []) ::
  (59, .invokevirtual 353, 3, 215, 2, 0, .inl 0, [1735, 8]) ::
  (62, .aload_n 0, 1, 0, 0, 0, .inl 0, []) ::
  (63, .bipush 32, 2, 0, 0, 0, .inl (nI 32), []) ::
  (65, .invokevirtual 346, 3, 213, 2, 0, .inl 0, [1731, 8]) ::
  (68, .aload_n 0, 1, 0, 0, 0, .inl 0, []) ::
  (69, .aload_n 0, 1, 0, 0, 0, .inl 0, []) ::
  (70, .getfield 13, 3, 8, 14, 3, .inr (.inr (16, 925, 2)), [1210]) ::
  (73, .sipush 849, 3, 0, 0, 0, .inl (nI 849), []) ::
  (76, .iload_n 1, 1, 1, 0, 0, .inl 0, []) ::
  (77, .iadd, 1, 0, 0, 0, .inl 0, []) ::
  (78, .iaload, 1, 0, 0, 0, .inl 0, []) ::
  (79, .invokevirtual 353, 3, 215, 2, 0, .inl 0, [1735, 8]) ::
  (82, .aload_n 0, 1, 0, 0, 0, .inl 0, []) ::
  (83, .bipush 59, 2, 0, 0, 0, .inl (nI 59), []) ::
  (85, .invokevirtual 346, 3, 213, 2, 0, .inl 0, [1731, 8]) ::
  (88, .iinc 1 1, 3, 1, 0, 0, .inl (nI 1), []) ::
  (91, .goto (-70), 3, 21, 0, 0, .inl 0, []) :: s_X9_write_94) ls st μ := by rw [s_X9_write_21]
theorem v_X9_write_21 : vc X P m_X9_write h K k_X9_write S (n + 1) 21 ls st μ = if 21 ∈ S then mAt X m_X9_write h K 21 ls st μ else bb X P m_X9_write h K (vc X P m_X9_write h K k_X9_write S n) s_X9_write_21 ls st μ := by rw [vc_s, t_X9_write_21]
theorem w_X9_write_94 : bb X P m_X9_write h K J s_X9_write_94 ls st μ = bb X P m_X9_write h K J ((94, .aload_n 0, 1, 0, 0, 0, .inl 0, []) ::
  (95, .getfield 343, 3, 8, 38, 0, .inl 0, [1234]) ::
  (98, .ireturn, 1, 0, 0, 0, .inl 0, []) :: []) ls st μ := by rw [s_X9_write_94]
theorem v_X9_write_94 : vc X P m_X9_write h K k_X9_write S (n + 1) 94 ls st μ = if 94 ∈ S then mAt X m_X9_write h K 94 ls st μ else bb X P m_X9_write h K (vc X P m_X9_write h K k_X9_write S n) s_X9_write_94 ls st μ := by rw [vc_s, t_X9_write_94]
end
section
variable {X : mC} {P : mP} {h : Nat} {K : MV → Mem → Prop} {J : mJ} {ls : List (Nat × MV)} {st : List MV} {μ : Mem} {S : List Nat} {n : Nat}
theorem w_L_law_0 : bb X P m_L_law h K J s_L_law_0 ls st μ = bb X P m_L_law h K J ((0, .new 8, 3, 0, 0, 0, .inl 0, []) ::
  (3, .dup, 1, 0, 0, 0, .inl 0, []) ::
  (4, .invokespecial 19, 3, 0, 0, 0, .inl 0, []) ::
  (7, .astore_n 1, 1, 1, 0, 0, .inl 0, []) ::
  (8, .new 20, 3, 0, 0, 0, .inl 0, []) ::
  (11, .dup, 1, 0, 0, 0, .inl 0, []) ::
  (12, .invokespecial 22, 3, 0, 0, 0, .inl 0, []) ::
  (15, .astore_n 2, 1, 2, 0, 0, .inl 0, []) ::
  (16, .iconst 1, 1, 0, 0, 0, .inl (nI 1), []) ::
  (17, .newarray .long, 2, 0, 0, 0, .inl 0, []) ::
  (19, .astore_n 3, 1, 3, 0, 0, .inl 0, []) ::
  (20, .iconst 0, 1, 0, 0, 0, .inl (nI 0), []) ::
  (21, .istore 4, 2, 4, 0, 0, .inl 0, []) :: s_L_law_23) ls st μ := by rw [s_L_law_0]
theorem v_L_law_0 : vc X P m_L_law h K k_L_law S (n + 1) 0 ls st μ = if 0 ∈ S then mAt X m_L_law h K 0 ls st μ else bb X P m_L_law h K (vc X P m_L_law h K k_L_law S n) s_L_law_0 ls st μ := by rw [vc_s, t_L_law_0]
theorem w_L_law_23 : bb X P m_L_law h K J s_L_law_23 ls st μ = bb X P m_L_law h K J ((23, .iload 4, 2, 4, 0, 0, .inl 0, []) ::
  (25, .aload_n 0, 1, 0, 0, 0, .inl 0, []) ::
  (26, .arraylength, 1, 0, 0, 0, .inl 0, []) ::
  (27, .bipush 6, 2, 0, 0, 0, .inl (nI 6), []) ::
  (29, .isub, 1, 0, 0, 0, .inl 0, []) ::
  (30, .if_icmp .gt 1501, 3, 1531, 0, 0, .inl 0, []) ::
  (33, .aload_n 0, 1, 0, 0, 0, .inl 0, []) ::
  (34, .iload 4, 2, 4, 0, 0, .inl 0, []) ::
  (36, .iaload, 1, 0, 0, 0, .inl 0, []) ::
  (37, .bipush 63, 2, 0, 0, 0, .inl (nI 63), []) ::
  (39, .iand, 1, 0, 0, 0, .inl 0, []) ::
  (40, .tableswitch 1485 0 43 #[192, 265, 290, 303, 316, 384, 433, 458, 471, 496, 509, 546, 583, 620, 657, 694, 731, 756, 769, 782, 807, 844, 881, 906, 973, 998, 1023, 1048, 1073, 1098, 1123, 1160, 1173, 1210, 1247, 1272, 1321, 1334, 1347, 1372, 1385, 1410, 1435, 1460], 192, 1525, 0, 0, .inl 0, [232, 305, 330, 343, 356, 424, 473, 498, 511, 536, 549, 586, 623, 660, 697, 734, 771, 796, 809, 822, 847, 884, 921, 946, 1013, 1038, 1063, 1088, 1113, 1138, 1163, 1200, 1213, 1250, 1287, 1312, 1361, 1374, 1387, 1412, 1425, 1450, 1475, 1500]) :: s_L_law_232) ls st μ := by rw [s_L_law_23]
theorem v_L_law_23 : vc X P m_L_law h K k_L_law S (n + 1) 23 ls st μ = if 23 ∈ S then mAt X m_L_law h K 23 ls st μ else bb X P m_L_law h K (vc X P m_L_law h K k_L_law S n) s_L_law_23 ls st μ := by rw [vc_s, t_L_law_23]
theorem w_L_law_232 : bb X P m_L_law h K J s_L_law_232 ls st μ = bb X P m_L_law h K J ((232, .aload_n 1, 1, 1, 0, 0, .inl 0, []) ::
  (233, .aload_n 0, 1, 0, 0, 0, .inl 0, []) ::
  (234, .iload 4, 2, 4, 0, 0, .inl 0, []) ::
  (236, .iconst 1, 1, 0, 0, 0, .inl (nI 1), []) ::
  (237, .iadd, 1, 0, 0, 0, .inl 0, []) ::
  (238, .iaload, 1, 0, 0, 0, .inl 0, []) ::
  (239, .aload_n 0, 1, 0, 0, 0, .inl 0, []) ::
  (240, .iload 4, 2, 4, 0, 0, .inl 0, []) ::
  (242, .iconst 2, 1, 0, 0, 0, .inl (nI 2), []) ::
  (243, .iadd, 1, 0, 0, 0, .inl 0, []) ::
  (244, .iaload, 1, 0, 0, 0, .inl 0, []) ::
  (245, .aload_n 0, 1, 0, 0, 0, .inl 0, []) ::
  (246, .iload 4, 2, 4, 0, 0, .inl 0, []) ::
  (248, .iconst 3, 1, 0, 0, 0, .inl (nI 3), []) ::
  (249, .iadd, 1, 0, 0, 0, .inl 0, []) ::
  (250, .iaload, 1, 0, 0, 0, .inl 0, []) ::
  (251, .aload_n 0, 1, 0, 0, 0, .inl 0, []) ::
  (252, .iload 4, 2, 4, 0, 0, .inl 0, []) ::
  (254, .iconst 4, 1, 0, 0, 0, .inl (nI 4), []) ::
  (255, .iadd, 1, 0, 0, 0, .inl 0, []) ::
  (256, .iaload, 1, 0, 0, 0, .inl 0, []) ::
  (257, .aload_n 0, 1, 0, 0, 0, .inl 0, []) ::
  (258, .iload 4, 2, 4, 0, 0, .inl 0, []) ::
  (260, .iconst 5, 1, 0, 0, 0, .inl (nI 5), []) ::
  (261, .iadd, 1, 0, 0, 0, .inl 0, []) ::
  (262, .iaload, 1, 0, 0, 0, .inl 0, []) ::
  (263, .invokevirtual 23, 3, 93, 6, 1, .inl 0, [534, 7]) ::
  (266, .aload_n 2, 1, 2, 0, 0, .inl 0, []) ::
  (267, .aload_n 0, 1, 0, 0, 0, .inl 0, []) ::
  (268, .iload 4, 2, 4, 0, 0, .inl 0, []) ::
  (270, .iconst 1, 1, 0, 0, 0, .inl (nI 1), []) ::
  (271, .iadd, 1, 0, 0, 0, .inl 0, []) ::
  (272, .iaload, 1, 0, 0, 0, .inl 0, []) ::
  (273, .aload_n 0, 1, 0, 0, 0, .inl 0, []) ::
  (274, .iload 4, 2, 4, 0, 0, .inl 0, []) ::
  (276, .iconst 2, 1, 0, 0, 0, .inl (nI 2), []) ::
  (277, .iadd, 1, 0, 0, 0, .inl 0, []) ::
  (278, .iaload, 1, 0, 0, 0, .inl 0, []) ::
  (279, .aload_n 0, 1, 0, 0, 0, .inl 0, []) ::
  (280, .iload 4, 2, 4, 0, 0, .inl 0, []) ::
  (282, .iconst 3, 1, 0, 0, 0, .inl (nI 3), []) ::
  (283, .iadd, 1, 0, 0, 0, .inl 0, []) ::
  (284, .iaload, 1, 0, 0, 0, .inl 0, []) ::
  (285, .aload_n 0, 1, 0, 0, 0, .inl 0, []) ::
  (286, .iload 4, 2, 4, 0, 0, .inl 0, []) ::
  (288, .iconst 4, 1, 0, 0, 0, .inl (nI 4), []) ::
  (289, .iadd, 1, 0, 0, 0, .inl 0, []) ::
  (290, .iaload, 1, 0, 0, 0, .inl 0, []) ::
  (291, .aload_n 0, 1, 0, 0, 0, .inl 0, []) ::
  (292, .iload 4, 2, 4, 0, 0, .inl 0, []) ::
  (294, .iconst 5, 1, 0, 0, 0, .inl (nI 5), []) ::
  (295, .iadd, 1, 0, 0, 0, .inl 0, []) ::
  (296, .iaload, 1, 0, 0, 0, .inl 0, []) ::
  (297, .invokevirtual 27, 3, 159, 6, 1, .inl 0, [1337, 8]) ::
  (300, .if_icmp .eq 1225, 3, 1525, 0, 0, .inl 0, []) ::
  (303, .iconst 0, 1, 0, 0, 0, .inl (nI 0), []) ::
  (304, .ireturn, 1, 1, 0, 0, .inl 0, []) :: s_L_law_305) ls st μ := by rw [s_L_law_232]
theorem v_L_law_232 : vc X P m_L_law h K k_L_law S (n + 1) 232 ls st μ = if 232 ∈ S then mAt X m_L_law h K 232 ls st μ else bb X P m_L_law h K (vc X P m_L_law h K k_L_law S n) s_L_law_232 ls st μ := by rw [vc_s, t_L_law_232]
theorem w_L_law_305 : bb X P m_L_law h K J s_L_law_305 ls st μ = bb X P m_L_law h K J ((305, .aload_n 1, 1, 1, 0, 0, .inl 0, []) ::
  (306, .aload_n 0, 1, 0, 0, 0, .inl 0, []) ::
  (307, .iload 4, 2, 4, 0, 0, .inl 0, []) ::
  (309, .iconst 1, 1, 0, 0, 0, .inl (nI 1), []) ::
  (310, .iadd, 1, 0, 0, 0, .inl 0, []) ::
  (311, .iaload, 1, 0, 0, 0, .inl 0, []) ::
  (312, .invokevirtual 28, 3, 88, 2, 1, .inl 0, [546, 7]) ::
  (315, .aload_n 2, 1, 2, 0, 0, .inl 0, []) ::
  (316, .aload_n 0, 1, 0, 0, 0, .inl 0, []) ::
  (317, .iload 4, 2, 4, 0, 0, .inl 0, []) ::
  (319, .iconst 1, 1, 0, 0, 0, .inl (nI 1), []) ::
  (320, .iadd, 1, 0, 0, 0, .inl 0, []) ::
  (321, .iaload, 1, 0, 0, 0, .inl 0, []) ::
  (322, .invokevirtual 32, 3, 154, 2, 1, .inl 0, [1345, 8]) ::
  (325, .if_icmp .eq 1200, 3, 1525, 0, 0, .inl 0, []) ::
  (328, .iconst 0, 1, 0, 0, 0, .inl (nI 0), []) ::
  (329, .ireturn, 1, 1, 0, 0, .inl 0, []) :: s_L_law_330) ls st μ := by rw [s_L_law_305]
theorem v_L_law_305 : vc X P m_L_law h K k_L_law S (n + 1) 305 ls st μ = if 305 ∈ S then mAt X m_L_law h K 305 ls st μ else bb X P m_L_law h K (vc X P m_L_law h K k_L_law S n) s_L_law_305 ls st μ := by rw [vc_s, t_L_law_305]
theorem w_L_law_330 : bb X P m_L_law h K J s_L_law_330 ls st μ = bb X P m_L_law h K J ((330, .aload_n 1, 1, 1, 0, 0, .inl 0, []) ::
  (331, .invokevirtual 33, 3, 79, 1, 1, .inl 0, [550, 7]) ::
  (334, .aload_n 2, 1, 2, 0, 0, .inl 0, []) ::
  (335, .invokevirtual 37, 3, 145, 1, 1, .inl 0, [1349, 8]) ::
  (338, .if_icmp .eq 1187, 3, 1525, 0, 0, .inl 0, []) ::
  (341, .iconst 0, 1, 0, 0, 0, .inl (nI 0), []) ::
  (342, .ireturn, 1, 1, 0, 0, .inl 0, []) :: s_L_law_343) ls st μ := by rw [s_L_law_330]
theorem v_L_law_330 : vc X P m_L_law h K k_L_law S (n + 1) 330 ls st μ = if 330 ∈ S then mAt X m_L_law h K 330 ls st μ else bb X P m_L_law h K (vc X P m_L_law h K k_L_law S n) s_L_law_330 ls st μ := by rw [vc_s, t_L_law_330]
theorem w_L_law_343 : bb X P m_L_law h K J s_L_law_343 ls st μ = bb X P m_L_law h K J ((343, .aload_n 1, 1, 1, 0, 0, .inl 0, []) ::
  (344, .invokevirtual 38, 3, 91, 1, 1, .inl 0, [674, 7]) ::
  (347, .aload_n 2, 1, 2, 0, 0, .inl 0, []) ::
  (348, .invokevirtual 41, 3, 157, 1, 1, .inl 0, [1460, 8]) ::
  (351, .if_icmp .eq 1174, 3, 1525, 0, 0, .inl 0, []) ::
  (354, .iconst 0, 1, 0, 0, 0, .inl (nI 0), []) ::
  (355, .ireturn, 1, 1, 0, 0, .inl 0, []) :: s_L_law_356) ls st μ := by rw [s_L_law_343]
theorem v_L_law_343 : vc X P m_L_law h K k_L_law S (n + 1) 343 ls st μ = if 343 ∈ S then mAt X m_L_law h K 343 ls st μ else bb X P m_L_law h K (vc X P m_L_law h K k_L_law S n) s_L_law_343 ls st μ := by rw [vc_s, t_L_law_343]
theorem w_L_law_356 : bb X P m_L_law h K J s_L_law_356 ls st μ = bb X P m_L_law h K J ((356, .aload_n 1, 1, 1, 0, 0, .inl 0, []) ::
  (357, .aload_n 0, 1, 0, 0, 0, .inl 0, []) ::
  (358, .iload 4, 2, 4, 0, 0, .inl 0, []) ::
  (360, .iconst 1, 1, 0, 0, 0, .inl (nI 1), []) ::
  (361, .iadd, 1, 0, 0, 0, .inl 0, []) ::
  (362, .iaload, 1, 0, 0, 0, .inl 0, []) ::
  (363, .aload_n 0, 1, 0, 0, 0, .inl 0, []) ::
  (364, .iload 4, 2, 4, 0, 0, .inl 0, []) ::
  (366, .iconst 2, 1, 0, 0, 0, .inl (nI 2), []) ::
  (367, .iadd, 1, 0, 0, 0, .inl 0, []) ::
  (368, .iaload, 1, 0, 0, 0, .inl 0, []) ::
  (369, .aload_n 3, 1, 3, 0, 0, .inl 0, []) ::
  (370, .invokestatic 42, 3, 0, 0, 8, .inl 0, []) ::
  (373, .istore 5, 2, 5, 0, 0, .inl 0, []) ::
  (375, .aload_n 2, 1, 2, 0, 0, .inl 0, []) ::
  (376, .aload_n 0, 1, 0, 0, 0, .inl 0, []) ::
  (377, .iload 4, 2, 4, 0, 0, .inl 0, []) ::
  (379, .iconst 1, 1, 0, 0, 0, .inl (nI 1), []) ::
  (380, .iadd, 1, 0, 0, 0, .inl 0, []) ::
  (381, .iaload, 1, 0, 0, 0, .inl 0, []) ::
  (382, .aload_n 0, 1, 0, 0, 0, .inl 0, []) ::
  (383, .iload 4, 2, 4, 0, 0, .inl 0, []) ::
  (385, .iconst 2, 1, 0, 0, 0, .inl (nI 2), []) ::
  (386, .iadd, 1, 0, 0, 0, .inl 0, []) ::
  (387, .iaload, 1, 0, 0, 0, .inl 0, []) ::
  (388, .invokevirtual 47, 3, 252, 3, 1, .inl 0, [1464, 8]) ::
  (391, .istore 6, 2, 6, 0, 0, .inl 0, []) ::
  (393, .aload_n 2, 1, 2, 0, 0, .inl 0, []) ::
  (394, .invokevirtual 48, 3, 247, 1, 1, .inl 0, [1333, 8]) ::
  (397, .iload 5, 2, 5, 0, 0, .inl 0, []) ::
  (399, .if_icmp .eq 5, 3, 404, 0, 0, .inl 0, []) ::
  (402, .iconst 0, 1, 0, 0, 0, .inl (nI 0), []) ::
  (403, .ireturn, 1, 1, 0, 0, .inl 0, []) :: s_L_law_404) ls st μ := by rw [s_L_law_356]
theorem v_L_law_356 : vc X P m_L_law h K k_L_law S (n + 1) 356 ls st μ = if 356 ∈ S then mAt X m_L_law h K 356 ls st μ else bb X P m_L_law h K (vc X P m_L_law h K k_L_law S n) s_L_law_356 ls st μ := by rw [vc_s, t_L_law_356]
theorem w_L_law_404 : bb X P m_L_law h K J s_L_law_404 ls st μ = bb X P m_L_law h K J ((404, .iload 5, 2, 5, 0, 0, .inl 0, []) ::
  (406, .ifCond .ne 15, 3, 421, 0, 0, .inl 0, []) ::
  (409, .aload_n 3, 1, 3, 0, 0, .inl 0, []) ::
  (410, .iconst 0, 1, 0, 0, 0, .inl (nI 0), []) ::
  (411, .laload, 1, 0, 0, 0, .inl 0, []) ::
  (412, .iload 6, 2, 6, 0, 0, .inl 0, []) ::
  (414, .i2l, 1, 0, 0, 0, .inl 0, []) ::
  (415, .lcmp, 1, 0, 0, 0, .inl 0, []) ::
  (416, .ifCond .eq 5, 3, 421, 0, 0, .inl 0, []) ::
  (419, .iconst 0, 1, 0, 0, 0, .inl (nI 0), []) ::
  (420, .ireturn, 1, 1, 0, 0, .inl 0, []) :: s_L_law_421) ls st μ := by rw [s_L_law_404]
theorem v_L_law_404 : vc X P m_L_law h K k_L_law S (n + 1) 404 ls st μ = if 404 ∈ S then mAt X m_L_law h K 404 ls st μ else bb X P m_L_law h K (vc X P m_L_law h K k_L_law S n) s_L_law_404 ls st μ := by rw [vc_s, t_L_law_404]
theorem w_L_law_421 : bb X P m_L_law h K J s_L_law_421 ls st μ = bb X P m_L_law h K J ((421, .goto 1104, 3, 1525, 0, 0, .inl 0, []) :: s_L_law_424) ls st μ := by rw [s_L_law_421]
theorem v_L_law_421 : vc X P m_L_law h K k_L_law S (n + 1) 421 ls st μ = if 421 ∈ S then mAt X m_L_law h K 421 ls st μ else bb X P m_L_law h K (vc X P m_L_law h K k_L_law S n) s_L_law_421 ls st μ := by rw [vc_s, t_L_law_421]
theorem w_L_law_424 : bb X P m_L_law h K J s_L_law_424 ls st μ = bb X P m_L_law h K J ((424, .aload_n 1, 1, 1, 0, 0, .inl 0, []) ::
  (425, .aload_n 0, 1, 0, 0, 0, .inl 0, []) ::
  (426, .iload 4, 2, 4, 0, 0, .inl 0, []) ::
  (428, .iconst 1, 1, 0, 0, 0, .inl (nI 1), []) ::
  (429, .iadd, 1, 0, 0, 0, .inl 0, []) ::
  (430, .iaload, 1, 0, 0, 0, .inl 0, []) ::
  (431, .aload_n 0, 1, 0, 0, 0, .inl 0, []) ::
  (432, .iload 4, 2, 4, 0, 0, .inl 0, []) ::
  (434, .iconst 2, 1, 0, 0, 0, .inl (nI 2), []) ::
  (435, .iadd, 1, 0, 0, 0, .inl 0, []) ::
  (436, .iaload, 1, 0, 0, 0, .inl 0, []) ::
  (437, .aload_n 0, 1, 0, 0, 0, .inl 0, []) ::
  (438, .iload 4, 2, 4, 0, 0, .inl 0, []) ::
  (440, .iconst 3, 1, 0, 0, 0, .inl (nI 3), []) ::
  (441, .iadd, 1, 0, 0, 0, .inl 0, []) ::
  (442, .iaload, 1, 0, 0, 0, .inl 0, []) ::
  (443, .invokevirtual 51, 3, 77, 4, 1, .inl 0, [678, 7]) ::
  (446, .aload_n 2, 1, 2, 0, 0, .inl 0, []) ::
  (447, .aload_n 0, 1, 0, 0, 0, .inl 0, []) ::
  (448, .iload 4, 2, 4, 0, 0, .inl 0, []) ::
  (450, .iconst 1, 1, 0, 0, 0, .inl (nI 1), []) ::
  (451, .iadd, 1, 0, 0, 0, .inl 0, []) ::
  (452, .iaload, 1, 0, 0, 0, .inl 0, []) ::
  (453, .aload_n 0, 1, 0, 0, 0, .inl 0, []) ::
  (454, .iload 4, 2, 4, 0, 0, .inl 0, []) ::
  (456, .iconst 2, 1, 0, 0, 0, .inl (nI 2), []) ::
  (457, .iadd, 1, 0, 0, 0, .inl 0, []) ::
  (458, .iaload, 1, 0, 0, 0, .inl 0, []) ::
  (459, .aload_n 0, 1, 0, 0, 0, .inl 0, []) ::
  (460, .iload 4, 2, 4, 0, 0, .inl 0, []) ::
  (462, .iconst 3, 1, 0, 0, 0, .inl (nI 3), []) ::
  (463, .iadd, 1, 0, 0, 0, .inl 0, []) ::
  (464, .iaload, 1, 0, 0, 0, .inl 0, []) ::
  (465, .invokevirtual 55, 3, 139, 4, 1, .inl 0, [1488, 8]) ::
  (468, .if_icmp .eq 1057, 3, 1525, 0, 0, .inl 0, []) ::
  (471, .iconst 0, 1, 0, 0, 0, .inl (nI 0), []) ::
  (472, .ireturn, 1, 1, 0, 0, .inl 0, []) :: s_L_law_473) ls st μ := by rw [s_L_law_424]
theorem v_L_law_424 : vc X P m_L_law h K k_L_law S (n + 1) 424 ls st μ = if 424 ∈ S then mAt X m_L_law h K 424 ls st μ else bb X P m_L_law h K (vc X P m_L_law h K k_L_law S n) s_L_law_424 ls st μ := by rw [vc_s, t_L_law_424]
theorem w_L_law_473 : bb X P m_L_law h K J s_L_law_473 ls st μ = bb X P m_L_law h K J ((473, .aload_n 1, 1, 1, 0, 0, .inl 0, []) ::
  (474, .aload_n 0, 1, 0, 0, 0, .inl 0, []) ::
  (475, .iload 4, 2, 4, 0, 0, .inl 0, []) ::
  (477, .iconst 1, 1, 0, 0, 0, .inl (nI 1), []) ::
  (478, .iadd, 1, 0, 0, 0, .inl 0, []) ::
  (479, .iaload, 1, 0, 0, 0, .inl 0, []) ::
  (480, .invokevirtual 56, 3, 112, 2, 1, .inl 0, [690, 7]) ::
  (483, .aload_n 2, 1, 2, 0, 0, .inl 0, []) ::
  (484, .aload_n 0, 1, 0, 0, 0, .inl 0, []) ::
  (485, .iload 4, 2, 4, 0, 0, .inl 0, []) ::
  (487, .iconst 1, 1, 0, 0, 0, .inl (nI 1), []) ::
  (488, .iadd, 1, 0, 0, 0, .inl 0, []) ::
  (489, .iaload, 1, 0, 0, 0, .inl 0, []) ::
  (490, .invokevirtual 60, 3, 202, 2, 1, .inl 0, [1496, 8]) ::
  (493, .if_icmp .eq 1032, 3, 1525, 0, 0, .inl 0, []) ::
  (496, .iconst 0, 1, 0, 0, 0, .inl (nI 0), []) ::
  (497, .ireturn, 1, 1, 0, 0, .inl 0, []) :: s_L_law_498) ls st μ := by rw [s_L_law_473]
theorem v_L_law_473 : vc X P m_L_law h K k_L_law S (n + 1) 473 ls st μ = if 473 ∈ S then mAt X m_L_law h K 473 ls st μ else bb X P m_L_law h K (vc X P m_L_law h K k_L_law S n) s_L_law_473 ls st μ := by rw [vc_s, t_L_law_473]
theorem w_L_law_498 : bb X P m_L_law h K J s_L_law_498 ls st μ = bb X P m_L_law h K J ((498, .aload_n 1, 1, 1, 0, 0, .inl 0, []) ::
  (499, .invokevirtual 61, 3, 78, 1, 1, .inl 0, [694, 7]) ::
  (502, .aload_n 2, 1, 2, 0, 0, .inl 0, []) ::
  (503, .invokevirtual 65, 3, 142, 1, 1, .inl 0, [1500, 8]) ::
  (506, .if_icmp .eq 1019, 3, 1525, 0, 0, .inl 0, []) ::
  (509, .iconst 0, 1, 0, 0, 0, .inl (nI 0), []) ::
  (510, .ireturn, 1, 1, 0, 0, .inl 0, []) :: s_L_law_511) ls st μ := by rw [s_L_law_498]
theorem v_L_law_498 : vc X P m_L_law h K k_L_law S (n + 1) 498 ls st μ = if 498 ∈ S then mAt X m_L_law h K 498 ls st μ else bb X P m_L_law h K (vc X P m_L_law h K k_L_law S n) s_L_law_498 ls st μ := by rw [vc_s, t_L_law_498]
theorem w_L_law_511 : bb X P m_L_law h K J s_L_law_511 ls st μ = bb X P m_L_law h K J ((511, .aload_n 1, 1, 1, 0, 0, .inl 0, []) ::
  (512, .aload_n 0, 1, 0, 0, 0, .inl 0, []) ::
  (513, .iload 4, 2, 4, 0, 0, .inl 0, []) ::
  (515, .iconst 1, 1, 0, 0, 0, .inl (nI 1), []) ::
  (516, .iadd, 1, 0, 0, 0, .inl 0, []) ::
  (517, .iaload, 1, 0, 0, 0, .inl 0, []) ::
  (518, .invokevirtual 66, 3, 116, 2, 1, .inl 0, [708, 7]) ::
  (521, .aload_n 2, 1, 2, 0, 0, .inl 0, []) ::
  (522, .aload_n 0, 1, 0, 0, 0, .inl 0, []) ::
  (523, .iload 4, 2, 4, 0, 0, .inl 0, []) ::
  (525, .iconst 1, 1, 0, 0, 0, .inl (nI 1), []) ::
  (526, .iadd, 1, 0, 0, 0, .inl 0, []) ::
  (527, .iaload, 1, 0, 0, 0, .inl 0, []) ::
  (528, .invokevirtual 69, 3, 208, 2, 1, .inl 0, [1512, 8]) ::
  (531, .if_icmp .eq 994, 3, 1525, 0, 0, .inl 0, []) ::
  (534, .iconst 0, 1, 0, 0, 0, .inl (nI 0), []) ::
  (535, .ireturn, 1, 1, 0, 0, .inl 0, []) :: s_L_law_536) ls st μ := by rw [s_L_law_511]
theorem v_L_law_511 : vc X P m_L_law h K k_L_law S (n + 1) 511 ls st μ = if 511 ∈ S then mAt X m_L_law h K 511 ls st μ else bb X P m_L_law h K (vc X P m_L_law h K k_L_law S n) s_L_law_511 ls st μ := by rw [vc_s, t_L_law_511]
theorem w_L_law_536 : bb X P m_L_law h K J s_L_law_536 ls st μ = bb X P m_L_law h K J ((536, .aload_n 1, 1, 1, 0, 0, .inl 0, []) ::
  (537, .invokevirtual 70, 3, 100, 1, 1, .inl 0, [764, 7]) ::
  (540, .aload_n 2, 1, 2, 0, 0, .inl 0, []) ::
  (541, .invokevirtual 73, 3, 172, 1, 1, .inl 0, [1554, 8]) ::
  (544, .if_icmp .eq 981, 3, 1525, 0, 0, .inl 0, []) ::
  (547, .iconst 0, 1, 0, 0, 0, .inl (nI 0), []) ::
  (548, .ireturn, 1, 1, 0, 0, .inl 0, []) :: s_L_law_549) ls st μ := by rw [s_L_law_536]
theorem v_L_law_536 : vc X P m_L_law h K k_L_law S (n + 1) 536 ls st μ = if 536 ∈ S then mAt X m_L_law h K 536 ls st μ else bb X P m_L_law h K (vc X P m_L_law h K k_L_law S n) s_L_law_536 ls st μ := by rw [vc_s, t_L_law_536]
theorem w_L_law_549 : bb X P m_L_law h K J s_L_law_549 ls st μ = bb X P m_L_law h K J ((549, .aload_n 1, 1, 1, 0, 0, .inl 0, []) ::
  (550, .aload_n 0, 1, 0, 0, 0, .inl 0, []) ::
  (551, .iload 4, 2, 4, 0, 0, .inl 0, []) ::
  (553, .iconst 1, 1, 0, 0, 0, .inl (nI 1), []) ::
  (554, .iadd, 1, 0, 0, 0, .inl 0, []) ::
  (555, .iaload, 1, 0, 0, 0, .inl 0, []) ::
  (556, .aload_n 0, 1, 0, 0, 0, .inl 0, []) ::
  (557, .iload 4, 2, 4, 0, 0, .inl 0, []) ::
  (559, .iconst 2, 1, 0, 0, 0, .inl (nI 2), []) ::
  (560, .iadd, 1, 0, 0, 0, .inl 0, []) ::
  (561, .iaload, 1, 0, 0, 0, .inl 0, []) ::
  (562, .invokevirtual 74, 3, 129, 3, 1, .inl 0, [768, 7]) ::
  (565, .aload_n 2, 1, 2, 0, 0, .inl 0, []) ::
  (566, .aload_n 0, 1, 0, 0, 0, .inl 0, []) ::
  (567, .iload 4, 2, 4, 0, 0, .inl 0, []) ::
  (569, .iconst 1, 1, 0, 0, 0, .inl (nI 1), []) ::
  (570, .iadd, 1, 0, 0, 0, .inl 0, []) ::
  (571, .iaload, 1, 0, 0, 0, .inl 0, []) ::
  (572, .aload_n 0, 1, 0, 0, 0, .inl 0, []) ::
  (573, .iload 4, 2, 4, 0, 0, .inl 0, []) ::
  (575, .iconst 2, 1, 0, 0, 0, .inl (nI 2), []) ::
  (576, .iadd, 1, 0, 0, 0, .inl 0, []) ::
  (577, .iaload, 1, 0, 0, 0, .inl 0, []) ::
  (578, .invokevirtual 77, 3, 248, 3, 1, .inl 0, [1558, 8]) ::
  (581, .if_icmp .eq 944, 3, 1525, 0, 0, .inl 0, []) ::
  (584, .iconst 0, 1, 0, 0, 0, .inl (nI 0), []) ::
  (585, .ireturn, 1, 1, 0, 0, .inl 0, []) :: s_L_law_586) ls st μ := by rw [s_L_law_549]
theorem v_L_law_549 : vc X P m_L_law h K k_L_law S (n + 1) 549 ls st μ = if 549 ∈ S then mAt X m_L_law h K 549 ls st μ else bb X P m_L_law h K (vc X P m_L_law h K k_L_law S n) s_L_law_549 ls st μ := by rw [vc_s, t_L_law_549]
theorem w_L_law_586 : bb X P m_L_law h K J s_L_law_586 ls st μ = bb X P m_L_law h K J ((586, .aload_n 1, 1, 1, 0, 0, .inl 0, []) ::
  (587, .aload_n 0, 1, 0, 0, 0, .inl 0, []) ::
  (588, .iload 4, 2, 4, 0, 0, .inl 0, []) ::
  (590, .iconst 1, 1, 0, 0, 0, .inl (nI 1), []) ::
  (591, .iadd, 1, 0, 0, 0, .inl 0, []) ::
  (592, .iaload, 1, 0, 0, 0, .inl 0, []) ::
  (593, .aload_n 0, 1, 0, 0, 0, .inl 0, []) ::
  (594, .iload 4, 2, 4, 0, 0, .inl 0, []) ::
  (596, .iconst 2, 1, 0, 0, 0, .inl (nI 2), []) ::
  (597, .iadd, 1, 0, 0, 0, .inl 0, []) ::
  (598, .iaload, 1, 0, 0, 0, .inl 0, []) ::
  (599, .invokevirtual 78, 3, 130, 3, 1, .inl 0, [776, 7]) ::
  (602, .aload_n 2, 1, 2, 0, 0, .inl 0, []) ::
  (603, .aload_n 0, 1, 0, 0, 0, .inl 0, []) ::
  (604, .iload 4, 2, 4, 0, 0, .inl 0, []) ::
  (606, .iconst 1, 1, 0, 0, 0, .inl (nI 1), []) ::
  (607, .iadd, 1, 0, 0, 0, .inl 0, []) ::
  (608, .iaload, 1, 0, 0, 0, .inl 0, []) ::
  (609, .aload_n 0, 1, 0, 0, 0, .inl 0, []) ::
  (610, .iload 4, 2, 4, 0, 0, .inl 0, []) ::
  (612, .iconst 2, 1, 0, 0, 0, .inl (nI 2), []) ::
  (613, .iadd, 1, 0, 0, 0, .inl 0, []) ::
  (614, .iaload, 1, 0, 0, 0, .inl 0, []) ::
  (615, .invokevirtual 81, 3, 249, 3, 1, .inl 0, [1574, 8]) ::
  (618, .if_icmp .eq 907, 3, 1525, 0, 0, .inl 0, []) ::
  (621, .iconst 0, 1, 0, 0, 0, .inl (nI 0), []) ::
  (622, .ireturn, 1, 1, 0, 0, .inl 0, []) :: s_L_law_623) ls st μ := by rw [s_L_law_586]
theorem v_L_law_586 : vc X P m_L_law h K k_L_law S (n + 1) 586 ls st μ = if 586 ∈ S then mAt X m_L_law h K 586 ls st μ else bb X P m_L_law h K (vc X P m_L_law h K k_L_law S n) s_L_law_586 ls st μ := by rw [vc_s, t_L_law_586]
theorem w_L_law_623 : bb X P m_L_law h K J s_L_law_623 ls st μ = bb X P m_L_law h K J ((623, .aload_n 1, 1, 1, 0, 0, .inl 0, []) ::
  (624, .aload_n 0, 1, 0, 0, 0, .inl 0, []) ::
  (625, .iload 4, 2, 4, 0, 0, .inl 0, []) ::
  (627, .iconst 1, 1, 0, 0, 0, .inl (nI 1), []) ::
  (628, .iadd, 1, 0, 0, 0, .inl 0, []) ::
  (629, .iaload, 1, 0, 0, 0, .inl 0, []) ::
  (630, .aload_n 0, 1, 0, 0, 0, .inl 0, []) ::
  (631, .iload 4, 2, 4, 0, 0, .inl 0, []) ::
  (633, .iconst 2, 1, 0, 0, 0, .inl (nI 2), []) ::
  (634, .iadd, 1, 0, 0, 0, .inl 0, []) ::
  (635, .iaload, 1, 0, 0, 0, .inl 0, []) ::
  (636, .invokevirtual 82, 3, 118, 3, 1, .inl 0, [784, 7]) ::
  (639, .aload_n 2, 1, 2, 0, 0, .inl 0, []) ::
  (640, .aload_n 0, 1, 0, 0, 0, .inl 0, []) ::
  (641, .iload 4, 2, 4, 0, 0, .inl 0, []) ::
  (643, .iconst 1, 1, 0, 0, 0, .inl (nI 1), []) ::
  (644, .iadd, 1, 0, 0, 0, .inl 0, []) ::
  (645, .iaload, 1, 0, 0, 0, .inl 0, []) ::
  (646, .aload_n 0, 1, 0, 0, 0, .inl 0, []) ::
  (647, .iload 4, 2, 4, 0, 0, .inl 0, []) ::
  (649, .iconst 2, 1, 0, 0, 0, .inl (nI 2), []) ::
  (650, .iadd, 1, 0, 0, 0, .inl 0, []) ::
  (651, .iaload, 1, 0, 0, 0, .inl 0, []) ::
  (652, .invokevirtual 85, 3, 211, 3, 1, .inl 0, [1578, 8]) ::
  (655, .if_icmp .eq 870, 3, 1525, 0, 0, .inl 0, []) ::
  (658, .iconst 0, 1, 0, 0, 0, .inl (nI 0), []) ::
  (659, .ireturn, 1, 1, 0, 0, .inl 0, []) :: s_L_law_660) ls st μ := by rw [s_L_law_623]
theorem v_L_law_623 : vc X P m_L_law h K k_L_law S (n + 1) 623 ls st μ = if 623 ∈ S then mAt X m_L_law h K 623 ls st μ else bb X P m_L_law h K (vc X P m_L_law h K k_L_law S n) s_L_law_623 ls st μ := by rw [vc_s, t_L_law_623]
theorem w_L_law_660 : bb X P m_L_law h K J s_L_law_660 ls st μ = bb X P m_L_law h K J ((660, .aload_n 1, 1, 1, 0, 0, .inl 0, []) ::
  (661, .aload_n 0, 1, 0, 0, 0, .inl 0, []) ::
  (662, .iload 4, 2, 4, 0, 0, .inl 0, []) ::
  (664, .iconst 1, 1, 0, 0, 0, .inl (nI 1), []) ::
  (665, .iadd, 1, 0, 0, 0, .inl 0, []) ::
  (666, .iaload, 1, 0, 0, 0, .inl 0, []) ::
  (667, .aload_n 0, 1, 0, 0, 0, .inl 0, []) ::
  (668, .iload 4, 2, 4, 0, 0, .inl 0, []) ::
  (670, .iconst 2, 1, 0, 0, 0, .inl (nI 2), []) ::
  (671, .iadd, 1, 0, 0, 0, .inl 0, []) ::
  (672, .iaload, 1, 0, 0, 0, .inl 0, []) ::
  (673, .invokevirtual 86, 3, 83, 3, 1, .inl 0, [792, 7]) ::
  (676, .aload_n 2, 1, 2, 0, 0, .inl 0, []) ::
  (677, .aload_n 0, 1, 0, 0, 0, .inl 0, []) ::
  (678, .iload 4, 2, 4, 0, 0, .inl 0, []) ::
  (680, .iconst 1, 1, 0, 0, 0, .inl (nI 1), []) ::
  (681, .iadd, 1, 0, 0, 0, .inl 0, []) ::
  (682, .iaload, 1, 0, 0, 0, .inl 0, []) ::
  (683, .aload_n 0, 1, 0, 0, 0, .inl 0, []) ::
  (684, .iload 4, 2, 4, 0, 0, .inl 0, []) ::
  (686, .iconst 2, 1, 0, 0, 0, .inl (nI 2), []) ::
  (687, .iadd, 1, 0, 0, 0, .inl 0, []) ::
  (688, .iaload, 1, 0, 0, 0, .inl 0, []) ::
  (689, .invokevirtual 89, 3, 151, 3, 1, .inl 0, [1566, 8]) ::
  (692, .if_icmp .eq 833, 3, 1525, 0, 0, .inl 0, []) ::
  (695, .iconst 0, 1, 0, 0, 0, .inl (nI 0), []) ::
  (696, .ireturn, 1, 1, 0, 0, .inl 0, []) :: s_L_law_697) ls st μ := by rw [s_L_law_660]
theorem v_L_law_660 : vc X P m_L_law h K k_L_law S (n + 1) 660 ls st μ = if 660 ∈ S then mAt X m_L_law h K 660 ls st μ else bb X P m_L_law h K (vc X P m_L_law h K k_L_law S n) s_L_law_660 ls st μ := by rw [vc_s, t_L_law_660]
theorem w_L_law_697 : bb X P m_L_law h K J s_L_law_697 ls st μ = bb X P m_L_law h K J ((697, .aload_n 1, 1, 1, 0, 0, .inl 0, []) ::
  (698, .aload_n 0, 1, 0, 0, 0, .inl 0, []) ::
  (699, .iload 4, 2, 4, 0, 0, .inl 0, []) ::
  (701, .iconst 1, 1, 0, 0, 0, .inl (nI 1), []) ::
  (702, .iadd, 1, 0, 0, 0, .inl 0, []) ::
  (703, .iaload, 1, 0, 0, 0, .inl 0, []) ::
  (704, .aload_n 0, 1, 0, 0, 0, .inl 0, []) ::
  (705, .iload 4, 2, 4, 0, 0, .inl 0, []) ::
  (707, .iconst 2, 1, 0, 0, 0, .inl (nI 2), []) ::
  (708, .iadd, 1, 0, 0, 0, .inl 0, []) ::
  (709, .iaload, 1, 0, 0, 0, .inl 0, []) ::
  (710, .invokevirtual 90, 3, 110, 3, 1, .inl 0, [796, 7]) ::
  (713, .aload_n 2, 1, 2, 0, 0, .inl 0, []) ::
  (714, .aload_n 0, 1, 0, 0, 0, .inl 0, []) ::
  (715, .iload 4, 2, 4, 0, 0, .inl 0, []) ::
  (717, .iconst 1, 1, 0, 0, 0, .inl (nI 1), []) ::
  (718, .iadd, 1, 0, 0, 0, .inl 0, []) ::
  (719, .iaload, 1, 0, 0, 0, .inl 0, []) ::
  (720, .aload_n 0, 1, 0, 0, 0, .inl 0, []) ::
  (721, .iload 4, 2, 4, 0, 0, .inl 0, []) ::
  (723, .iconst 2, 1, 0, 0, 0, .inl (nI 2), []) ::
  (724, .iadd, 1, 0, 0, 0, .inl 0, []) ::
  (725, .iaload, 1, 0, 0, 0, .inl 0, []) ::
  (726, .invokevirtual 93, 3, 195, 3, 1, .inl 0, [1570, 8]) ::
  (729, .if_icmp .eq 796, 3, 1525, 0, 0, .inl 0, []) ::
  (732, .iconst 0, 1, 0, 0, 0, .inl (nI 0), []) ::
  (733, .ireturn, 1, 1, 0, 0, .inl 0, []) :: s_L_law_734) ls st μ := by rw [s_L_law_697]
theorem v_L_law_697 : vc X P m_L_law h K k_L_law S (n + 1) 697 ls st μ = if 697 ∈ S then mAt X m_L_law h K 697 ls st μ else bb X P m_L_law h K (vc X P m_L_law h K k_L_law S n) s_L_law_697 ls st μ := by rw [vc_s, t_L_law_697]
theorem w_L_law_734 : bb X P m_L_law h K J s_L_law_734 ls st μ = bb X P m_L_law h K J ((734, .aload_n 1, 1, 1, 0, 0, .inl 0, []) ::
  (735, .aload_n 0, 1, 0, 0, 0, .inl 0, []) ::
  (736, .iload 4, 2, 4, 0, 0, .inl 0, []) ::
  (738, .iconst 1, 1, 0, 0, 0, .inl (nI 1), []) ::
  (739, .iadd, 1, 0, 0, 0, .inl 0, []) ::
  (740, .iaload, 1, 0, 0, 0, .inl 0, []) ::
  (741, .aload_n 0, 1, 0, 0, 0, .inl 0, []) ::
  (742, .iload 4, 2, 4, 0, 0, .inl 0, []) ::
  (744, .iconst 2, 1, 0, 0, 0, .inl (nI 2), []) ::
  (745, .iadd, 1, 0, 0, 0, .inl 0, []) ::
  (746, .iaload, 1, 0, 0, 0, .inl 0, []) ::
  (747, .invokevirtual 94, 3, 96, 3, 1, .inl 0, [841, 7]) ::
  (750, .aload_n 2, 1, 2, 0, 0, .inl 0, []) ::
  (751, .aload_n 0, 1, 0, 0, 0, .inl 0, []) ::
  (752, .iload 4, 2, 4, 0, 0, .inl 0, []) ::
  (754, .iconst 1, 1, 0, 0, 0, .inl (nI 1), []) ::
  (755, .iadd, 1, 0, 0, 0, .inl 0, []) ::
  (756, .iaload, 1, 0, 0, 0, .inl 0, []) ::
  (757, .aload_n 0, 1, 0, 0, 0, .inl 0, []) ::
  (758, .iload 4, 2, 4, 0, 0, .inl 0, []) ::
  (760, .iconst 2, 1, 0, 0, 0, .inl (nI 2), []) ::
  (761, .iadd, 1, 0, 0, 0, .inl 0, []) ::
  (762, .iaload, 1, 0, 0, 0, .inl 0, []) ::
  (763, .invokevirtual 97, 3, 164, 3, 1, .inl 0, [1590, 8]) ::
  (766, .if_icmp .eq 759, 3, 1525, 0, 0, .inl 0, []) ::
  (769, .iconst 0, 1, 0, 0, 0, .inl (nI 0), []) ::
  (770, .ireturn, 1, 1, 0, 0, .inl 0, []) :: s_L_law_771) ls st μ := by rw [s_L_law_734]
theorem v_L_law_734 : vc X P m_L_law h K k_L_law S (n + 1) 734 ls st μ = if 734 ∈ S then mAt X m_L_law h K 734 ls st μ else bb X P m_L_law h K (vc X P m_L_law h K k_L_law S n) s_L_law_734 ls st μ := by rw [vc_s, t_L_law_734]
theorem w_L_law_771 : bb X P m_L_law h K J s_L_law_771 ls st μ = bb X P m_L_law h K J ((771, .aload_n 1, 1, 1, 0, 0, .inl 0, []) ::
  (772, .aload_n 0, 1, 0, 0, 0, .inl 0, []) ::
  (773, .iload 4, 2, 4, 0, 0, .inl 0, []) ::
  (775, .iconst 1, 1, 0, 0, 0, .inl (nI 1), []) ::
  (776, .iadd, 1, 0, 0, 0, .inl 0, []) ::
  (777, .iaload, 1, 0, 0, 0, .inl 0, []) ::
  (778, .invokevirtual 98, 3, 117, 2, 1, .inl 0, [850, 7]) ::
  (781, .aload_n 2, 1, 2, 0, 0, .inl 0, []) ::
  (782, .aload_n 0, 1, 0, 0, 0, .inl 0, []) ::
  (783, .iload 4, 2, 4, 0, 0, .inl 0, []) ::
  (785, .iconst 1, 1, 0, 0, 0, .inl (nI 1), []) ::
  (786, .iadd, 1, 0, 0, 0, .inl 0, []) ::
  (787, .iaload, 1, 0, 0, 0, .inl 0, []) ::
  (788, .invokevirtual 101, 3, 209, 2, 1, .inl 0, [1594, 8]) ::
  (791, .if_icmp .eq 734, 3, 1525, 0, 0, .inl 0, []) ::
  (794, .iconst 0, 1, 0, 0, 0, .inl (nI 0), []) ::
  (795, .ireturn, 1, 1, 0, 0, .inl 0, []) :: s_L_law_796) ls st μ := by rw [s_L_law_771]
theorem v_L_law_771 : vc X P m_L_law h K k_L_law S (n + 1) 771 ls st μ = if 771 ∈ S then mAt X m_L_law h K 771 ls st μ else bb X P m_L_law h K (vc X P m_L_law h K k_L_law S n) s_L_law_771 ls st μ := by rw [vc_s, t_L_law_771]
theorem w_L_law_796 : bb X P m_L_law h K J s_L_law_796 ls st μ = bb X P m_L_law h K J ((796, .aload_n 1, 1, 1, 0, 0, .inl 0, []) ::
  (797, .invokevirtual 102, 3, 113, 1, 1, .inl 0, [800, 7]) ::
  (800, .aload_n 2, 1, 2, 0, 0, .inl 0, []) ::
  (801, .invokevirtual 105, 3, 203, 1, 1, .inl 0, [1582, 8]) ::
  (804, .if_icmp .eq 721, 3, 1525, 0, 0, .inl 0, []) ::
  (807, .iconst 0, 1, 0, 0, 0, .inl (nI 0), []) ::
  (808, .ireturn, 1, 1, 0, 0, .inl 0, []) :: s_L_law_809) ls st μ := by rw [s_L_law_796]
theorem v_L_law_796 : vc X P m_L_law h K k_L_law S (n + 1) 796 ls st μ = if 796 ∈ S then mAt X m_L_law h K 796 ls st μ else bb X P m_L_law h K (vc X P m_L_law h K k_L_law S n) s_L_law_796 ls st μ := by rw [vc_s, t_L_law_796]
theorem w_L_law_809 : bb X P m_L_law h K J s_L_law_809 ls st μ = bb X P m_L_law h K J ((809, .aload_n 1, 1, 1, 0, 0, .inl 0, []) ::
  (810, .invokevirtual 106, 3, 120, 1, 1, .inl 0, [808, 7]) ::
  (813, .aload_n 2, 1, 2, 0, 0, .inl 0, []) ::
  (814, .invokevirtual 109, 3, 212, 1, 1, .inl 0, [1743, 8]) ::
  (817, .if_icmp .eq 708, 3, 1525, 0, 0, .inl 0, []) ::
  (820, .iconst 0, 1, 0, 0, 0, .inl (nI 0), []) ::
  (821, .ireturn, 1, 1, 0, 0, .inl 0, []) :: s_L_law_822) ls st μ := by rw [s_L_law_809]
theorem v_L_law_809 : vc X P m_L_law h K k_L_law S (n + 1) 809 ls st μ = if 809 ∈ S then mAt X m_L_law h K 809 ls st μ else bb X P m_L_law h K (vc X P m_L_law h K k_L_law S n) s_L_law_809 ls st μ := by rw [vc_s, t_L_law_809]
theorem w_L_law_822 : bb X P m_L_law h K J s_L_law_822 ls st μ = bb X P m_L_law h K J ((822, .aload_n 1, 1, 1, 0, 0, .inl 0, []) ::
  (823, .aload_n 0, 1, 0, 0, 0, .inl 0, []) ::
  (824, .iload 4, 2, 4, 0, 0, .inl 0, []) ::
  (826, .iconst 1, 1, 0, 0, 0, .inl (nI 1), []) ::
  (827, .iadd, 1, 0, 0, 0, .inl 0, []) ::
  (828, .iaload, 1, 0, 0, 0, .inl 0, []) ::
  (829, .invokevirtual 110, 3, 75, 2, 1, .inl 0, [854, 7]) ::
  (832, .aload_n 2, 1, 2, 0, 0, .inl 0, []) ::
  (833, .aload_n 0, 1, 0, 0, 0, .inl 0, []) ::
  (834, .iload 4, 2, 4, 0, 0, .inl 0, []) ::
  (836, .iconst 1, 1, 0, 0, 0, .inl (nI 1), []) ::
  (837, .iadd, 1, 0, 0, 0, .inl 0, []) ::
  (838, .iaload, 1, 0, 0, 0, .inl 0, []) ::
  (839, .invokevirtual 113, 3, 136, 2, 1, .inl 0, [1598, 8]) ::
  (842, .if_icmp .eq 683, 3, 1525, 0, 0, .inl 0, []) ::
  (845, .iconst 0, 1, 0, 0, 0, .inl (nI 0), []) ::
  (846, .ireturn, 1, 1, 0, 0, .inl 0, []) :: s_L_law_847) ls st μ := by rw [s_L_law_822]
theorem v_L_law_822 : vc X P m_L_law h K k_L_law S (n + 1) 822 ls st μ = if 822 ∈ S then mAt X m_L_law h K 822 ls st μ else bb X P m_L_law h K (vc X P m_L_law h K k_L_law S n) s_L_law_822 ls st μ := by rw [vc_s, t_L_law_822]
theorem w_L_law_847 : bb X P m_L_law h K J s_L_law_847 ls st μ = bb X P m_L_law h K J ((847, .aload_n 1, 1, 1, 0, 0, .inl 0, []) ::
  (848, .aload_n 0, 1, 0, 0, 0, .inl 0, []) ::
  (849, .iload 4, 2, 4, 0, 0, .inl 0, []) ::
  (851, .iconst 1, 1, 0, 0, 0, .inl (nI 1), []) ::
  (852, .iadd, 1, 0, 0, 0, .inl 0, []) ::
  (853, .iaload, 1, 0, 0, 0, .inl 0, []) ::
  (854, .aload_n 0, 1, 0, 0, 0, .inl 0, []) ::
  (855, .iload 4, 2, 4, 0, 0, .inl 0, []) ::
  (857, .iconst 2, 1, 0, 0, 0, .inl (nI 2), []) ::
  (858, .iadd, 1, 0, 0, 0, .inl 0, []) ::
  (859, .iaload, 1, 0, 0, 0, .inl 0, []) ::
  (860, .invokevirtual 114, 3, 80, 3, 1, .inl 0, [870, 7]) ::
  (863, .aload_n 2, 1, 2, 0, 0, .inl 0, []) ::
  (864, .aload_n 0, 1, 0, 0, 0, .inl 0, []) ::
  (865, .iload 4, 2, 4, 0, 0, .inl 0, []) ::
  (867, .iconst 1, 1, 0, 0, 0, .inl (nI 1), []) ::
  (868, .iadd, 1, 0, 0, 0, .inl 0, []) ::
  (869, .iaload, 1, 0, 0, 0, .inl 0, []) ::
  (870, .aload_n 0, 1, 0, 0, 0, .inl 0, []) ::
  (871, .iload 4, 2, 4, 0, 0, .inl 0, []) ::
  (873, .iconst 2, 1, 0, 0, 0, .inl (nI 2), []) ::
  (874, .iadd, 1, 0, 0, 0, .inl 0, []) ::
  (875, .iaload, 1, 0, 0, 0, .inl 0, []) ::
  (876, .invokevirtual 117, 3, 146, 3, 1, .inl 0, [1606, 8]) ::
  (879, .if_icmp .eq 646, 3, 1525, 0, 0, .inl 0, []) ::
  (882, .iconst 0, 1, 0, 0, 0, .inl (nI 0), []) ::
  (883, .ireturn, 1, 1, 0, 0, .inl 0, []) :: s_L_law_884) ls st μ := by rw [s_L_law_847]
theorem v_L_law_847 : vc X P m_L_law h K k_L_law S (n + 1) 847 ls st μ = if 847 ∈ S then mAt X m_L_law h K 847 ls st μ else bb X P m_L_law h K (vc X P m_L_law h K k_L_law S n) s_L_law_847 ls st μ := by rw [vc_s, t_L_law_847]
theorem w_L_law_884 : bb X P m_L_law h K J s_L_law_884 ls st μ = bb X P m_L_law h K J ((884, .aload_n 1, 1, 1, 0, 0, .inl 0, []) ::
  (885, .aload_n 0, 1, 0, 0, 0, .inl 0, []) ::
  (886, .iload 4, 2, 4, 0, 0, .inl 0, []) ::
  (888, .iconst 1, 1, 0, 0, 0, .inl (nI 1), []) ::
  (889, .iadd, 1, 0, 0, 0, .inl 0, []) ::
  (890, .iaload, 1, 0, 0, 0, .inl 0, []) ::
  (891, .aload_n 0, 1, 0, 0, 0, .inl 0, []) ::
  (892, .iload 4, 2, 4, 0, 0, .inl 0, []) ::
  (894, .iconst 2, 1, 0, 0, 0, .inl (nI 2), []) ::
  (895, .iadd, 1, 0, 0, 0, .inl 0, []) ::
  (896, .iaload, 1, 0, 0, 0, .inl 0, []) ::
  (897, .invokevirtual 118, 3, 115, 3, 1, .inl 0, [889, 7]) ::
  (900, .aload_n 2, 1, 2, 0, 0, .inl 0, []) ::
  (901, .aload_n 0, 1, 0, 0, 0, .inl 0, []) ::
  (902, .iload 4, 2, 4, 0, 0, .inl 0, []) ::
  (904, .iconst 1, 1, 0, 0, 0, .inl (nI 1), []) ::
  (905, .iadd, 1, 0, 0, 0, .inl 0, []) ::
  (906, .iaload, 1, 0, 0, 0, .inl 0, []) ::
  (907, .aload_n 0, 1, 0, 0, 0, .inl 0, []) ::
  (908, .iload 4, 2, 4, 0, 0, .inl 0, []) ::
  (910, .iconst 2, 1, 0, 0, 0, .inl (nI 2), []) ::
  (911, .iadd, 1, 0, 0, 0, .inl 0, []) ::
  (912, .iaload, 1, 0, 0, 0, .inl 0, []) ::
  (913, .invokevirtual 121, 3, 207, 3, 1, .inl 0, [1625, 8]) ::
  (916, .if_icmp .eq 609, 3, 1525, 0, 0, .inl 0, []) ::
  (919, .iconst 0, 1, 0, 0, 0, .inl (nI 0), []) ::
  (920, .ireturn, 1, 1, 0, 0, .inl 0, []) :: s_L_law_921) ls st μ := by rw [s_L_law_884]
theorem v_L_law_884 : vc X P m_L_law h K k_L_law S (n + 1) 884 ls st μ = if 884 ∈ S then mAt X m_L_law h K 884 ls st μ else bb X P m_L_law h K (vc X P m_L_law h K k_L_law S n) s_L_law_884 ls st μ := by rw [vc_s, t_L_law_884]
theorem w_L_law_921 : bb X P m_L_law h K J s_L_law_921 ls st μ = bb X P m_L_law h K J ((921, .aload_n 1, 1, 1, 0, 0, .inl 0, []) ::
  (922, .aload_n 0, 1, 0, 0, 0, .inl 0, []) ::
  (923, .iload 4, 2, 4, 0, 0, .inl 0, []) ::
  (925, .iconst 1, 1, 0, 0, 0, .inl (nI 1), []) ::
  (926, .iadd, 1, 0, 0, 0, .inl 0, []) ::
  (927, .iaload, 1, 0, 0, 0, .inl 0, []) ::
  (928, .invokevirtual 122, 3, 133, 2, 1, .inl 0, [893, 7]) ::
  (931, .aload_n 2, 1, 2, 0, 0, .inl 0, []) ::
  (932, .aload_n 0, 1, 0, 0, 0, .inl 0, []) ::
  (933, .iload 4, 2, 4, 0, 0, .inl 0, []) ::
  (935, .iconst 1, 1, 0, 0, 0, .inl (nI 1), []) ::
  (936, .iadd, 1, 0, 0, 0, .inl 0, []) ::
  (937, .iaload, 1, 0, 0, 0, .inl 0, []) ::
  (938, .invokevirtual 125, 3, 254, 2, 1, .inl 0, [1633, 8]) ::
  (941, .if_icmp .eq 584, 3, 1525, 0, 0, .inl 0, []) ::
  (944, .iconst 0, 1, 0, 0, 0, .inl (nI 0), []) ::
  (945, .ireturn, 1, 1, 0, 0, .inl 0, []) :: s_L_law_946) ls st μ := by rw [s_L_law_921]
theorem v_L_law_921 : vc X P m_L_law h K k_L_law S (n + 1) 921 ls st μ = if 921 ∈ S then mAt X m_L_law h K 921 ls st μ else bb X P m_L_law h K (vc X P m_L_law h K k_L_law S n) s_L_law_921 ls st μ := by rw [vc_s, t_L_law_921]
theorem w_L_law_946 : bb X P m_L_law h K J s_L_law_946 ls st μ = bb X P m_L_law h K J ((946, .aload_n 1, 1, 1, 0, 0, .inl 0, []) ::
  (947, .aload_n 0, 1, 0, 0, 0, .inl 0, []) ::
  (948, .iload 4, 2, 4, 0, 0, .inl 0, []) ::
  (950, .iconst 1, 1, 0, 0, 0, .inl (nI 1), []) ::
  (951, .iadd, 1, 0, 0, 0, .inl 0, []) ::
  (952, .iaload, 1, 0, 0, 0, .inl 0, []) ::
  (953, .aload_n 0, 1, 0, 0, 0, .inl 0, []) ::
  (954, .iload 4, 2, 4, 0, 0, .inl 0, []) ::
  (956, .iconst 2, 1, 0, 0, 0, .inl (nI 2), []) ::
  (957, .iadd, 1, 0, 0, 0, .inl 0, []) ::
  (958, .iaload, 1, 0, 0, 0, .inl 0, []) ::
  (959, .aload_n 3, 1, 3, 0, 0, .inl 0, []) ::
  (960, .invokestatic 126, 3, 0, 0, 8, .inl 0, []) ::
  (963, .istore 5, 2, 5, 0, 0, .inl 0, []) ::
  (965, .aload_n 2, 1, 2, 0, 0, .inl 0, []) ::
  (966, .aload_n 0, 1, 0, 0, 0, .inl 0, []) ::
  (967, .iload 4, 2, 4, 0, 0, .inl 0, []) ::
  (969, .iconst 1, 1, 0, 0, 0, .inl (nI 1), []) ::
  (970, .iadd, 1, 0, 0, 0, .inl 0, []) ::
  (971, .iaload, 1, 0, 0, 0, .inl 0, []) ::
  (972, .aload_n 0, 1, 0, 0, 0, .inl 0, []) ::
  (973, .iload 4, 2, 4, 0, 0, .inl 0, []) ::
  (975, .iconst 2, 1, 0, 0, 0, .inl (nI 2), []) ::
  (976, .iadd, 1, 0, 0, 0, .inl 0, []) ::
  (977, .iaload, 1, 0, 0, 0, .inl 0, []) ::
  (978, .invokevirtual 128, 3, 255, 3, 2, .inl 0, [1647, 8]) ::
  (981, .lstore 6, 2, 6, 0, 0, .inl 0, []) ::
  (983, .aload_n 2, 1, 2, 0, 0, .inl 0, []) ::
  (984, .invokevirtual 48, 3, 247, 1, 1, .inl 0, [1333, 8]) ::
  (987, .iload 5, 2, 5, 0, 0, .inl 0, []) ::
  (989, .if_icmp .eq 5, 3, 994, 0, 0, .inl 0, []) ::
  (992, .iconst 0, 1, 0, 0, 0, .inl (nI 0), []) ::
  (993, .ireturn, 1, 1, 0, 0, .inl 0, []) :: s_L_law_994) ls st μ := by rw [s_L_law_946]
theorem v_L_law_946 : vc X P m_L_law h K k_L_law S (n + 1) 946 ls st μ = if 946 ∈ S then mAt X m_L_law h K 946 ls st μ else bb X P m_L_law h K (vc X P m_L_law h K k_L_law S n) s_L_law_946 ls st μ := by rw [vc_s, t_L_law_946]
theorem w_L_law_994 : bb X P m_L_law h K J s_L_law_994 ls st μ = bb X P m_L_law h K J ((994, .iload 5, 2, 5, 0, 0, .inl 0, []) ::
  (996, .ifCond .ne 14, 3, 1010, 0, 0, .inl 0, []) ::
  (999, .aload_n 3, 1, 3, 0, 0, .inl 0, []) ::
  (1000, .iconst 0, 1, 0, 0, 0, .inl (nI 0), []) ::
  (1001, .laload, 1, 0, 0, 0, .inl 0, []) ::
  (1002, .lload 6, 2, 6, 0, 0, .inl 0, []) ::
  (1004, .lcmp, 1, 0, 0, 0, .inl 0, []) ::
  (1005, .ifCond .eq 5, 3, 1010, 0, 0, .inl 0, []) ::
  (1008, .iconst 0, 1, 0, 0, 0, .inl (nI 0), []) ::
  (1009, .ireturn, 1, 1, 0, 0, .inl 0, []) :: s_L_law_1010) ls st μ := by rw [s_L_law_994]
theorem v_L_law_994 : vc X P m_L_law h K k_L_law S (n + 1) 994 ls st μ = if 994 ∈ S then mAt X m_L_law h K 994 ls st μ else bb X P m_L_law h K (vc X P m_L_law h K k_L_law S n) s_L_law_994 ls st μ := by rw [vc_s, t_L_law_994]
theorem w_L_law_1010 : bb X P m_L_law h K J s_L_law_1010 ls st μ = bb X P m_L_law h K J ((1010, .goto 515, 3, 1525, 0, 0, .inl 0, []) :: s_L_law_1013) ls st μ := by rw [s_L_law_1010]
theorem v_L_law_1010 : vc X P m_L_law h K k_L_law S (n + 1) 1010 ls st μ = if 1010 ∈ S then mAt X m_L_law h K 1010 ls st μ else bb X P m_L_law h K (vc X P m_L_law h K k_L_law S n) s_L_law_1010 ls st μ := by rw [vc_s, t_L_law_1010]
theorem w_L_law_1013 : bb X P m_L_law h K J s_L_law_1013 ls st μ = bb X P m_L_law h K J ((1013, .aload_n 1, 1, 1, 0, 0, .inl 0, []) ::
  (1014, .aload_n 0, 1, 0, 0, 0, .inl 0, []) ::
  (1015, .iload 4, 2, 4, 0, 0, .inl 0, []) ::
  (1017, .iconst 1, 1, 0, 0, 0, .inl (nI 1), []) ::
  (1018, .iadd, 1, 0, 0, 0, .inl 0, []) ::
  (1019, .iaload, 1, 0, 0, 0, .inl 0, []) ::
  (1020, .invokevirtual 129, 3, 107, 2, 1, .inl 0, [918, 7]) ::
  (1023, .aload_n 2, 1, 2, 0, 0, .inl 0, []) ::
  (1024, .aload_n 0, 1, 0, 0, 0, .inl 0, []) ::
  (1025, .iload 4, 2, 4, 0, 0, .inl 0, []) ::
  (1027, .iconst 1, 1, 0, 0, 0, .inl (nI 1), []) ::
  (1028, .iadd, 1, 0, 0, 0, .inl 0, []) ::
  (1029, .iaload, 1, 0, 0, 0, .inl 0, []) ::
  (1030, .invokevirtual 132, 3, 191, 2, 1, .inl 0, [1651, 8]) ::
  (1033, .if_icmp .eq 492, 3, 1525, 0, 0, .inl 0, []) ::
  (1036, .iconst 0, 1, 0, 0, 0, .inl (nI 0), []) ::
  (1037, .ireturn, 1, 1, 0, 0, .inl 0, []) :: s_L_law_1038) ls st μ := by rw [s_L_law_1013]
theorem v_L_law_1013 : vc X P m_L_law h K k_L_law S (n + 1) 1013 ls st μ = if 1013 ∈ S then mAt X m_L_law h K 1013 ls st μ else bb X P m_L_law h K (vc X P m_L_law h K k_L_law S n) s_L_law_1013 ls st μ := by rw [vc_s, t_L_law_1013]
theorem w_L_law_1038 : bb X P m_L_law h K J s_L_law_1038 ls st μ = bb X P m_L_law h K J ((1038, .aload_n 1, 1, 1, 0, 0, .inl 0, []) ::
  (1039, .aload_n 0, 1, 0, 0, 0, .inl 0, []) ::
  (1040, .iload 4, 2, 4, 0, 0, .inl 0, []) ::
  (1042, .iconst 1, 1, 0, 0, 0, .inl (nI 1), []) ::
  (1043, .iadd, 1, 0, 0, 0, .inl 0, []) ::
  (1044, .iaload, 1, 0, 0, 0, .inl 0, []) ::
  (1045, .invokevirtual 133, 3, 128, 2, 1, .inl 0, [926, 7]) ::
  (1048, .aload_n 2, 1, 2, 0, 0, .inl 0, []) ::
  (1049, .aload_n 0, 1, 0, 0, 0, .inl 0, []) ::
  (1050, .iload 4, 2, 4, 0, 0, .inl 0, []) ::
  (1052, .iconst 1, 1, 0, 0, 0, .inl (nI 1), []) ::
  (1053, .iadd, 1, 0, 0, 0, .inl 0, []) ::
  (1054, .iaload, 1, 0, 0, 0, .inl 0, []) ::
  (1055, .invokevirtual 136, 3, 244, 2, 1, .inl 0, [1655, 8]) ::
  (1058, .if_icmp .eq 467, 3, 1525, 0, 0, .inl 0, []) ::
  (1061, .iconst 0, 1, 0, 0, 0, .inl (nI 0), []) ::
  (1062, .ireturn, 1, 1, 0, 0, .inl 0, []) :: s_L_law_1063) ls st μ := by rw [s_L_law_1038]
theorem v_L_law_1038 : vc X P m_L_law h K k_L_law S (n + 1) 1038 ls st μ = if 1038 ∈ S then mAt X m_L_law h K 1038 ls st μ else bb X P m_L_law h K (vc X P m_L_law h K k_L_law S n) s_L_law_1038 ls st μ := by rw [vc_s, t_L_law_1038]
theorem w_L_law_1063 : bb X P m_L_law h K J s_L_law_1063 ls st μ = bb X P m_L_law h K J ((1063, .aload_n 1, 1, 1, 0, 0, .inl 0, []) ::
  (1064, .aload_n 0, 1, 0, 0, 0, .inl 0, []) ::
  (1065, .iload 4, 2, 4, 0, 0, .inl 0, []) ::
  (1067, .iconst 1, 1, 0, 0, 0, .inl (nI 1), []) ::
  (1068, .iadd, 1, 0, 0, 0, .inl 0, []) ::
  (1069, .iaload, 1, 0, 0, 0, .inl 0, []) ::
  (1070, .invokevirtual 137, 3, 127, 2, 1, .inl 0, [937, 7]) ::
  (1073, .aload_n 2, 1, 2, 0, 0, .inl 0, []) ::
  (1074, .aload_n 0, 1, 0, 0, 0, .inl 0, []) ::
  (1075, .iload 4, 2, 4, 0, 0, .inl 0, []) ::
  (1077, .iconst 1, 1, 0, 0, 0, .inl (nI 1), []) ::
  (1078, .iadd, 1, 0, 0, 0, .inl 0, []) ::
  (1079, .iaload, 1, 0, 0, 0, .inl 0, []) ::
  (1080, .invokevirtual 140, 3, 243, 2, 1, .inl 0, [1667, 8]) ::
  (1083, .if_icmp .eq 442, 3, 1525, 0, 0, .inl 0, []) ::
  (1086, .iconst 0, 1, 0, 0, 0, .inl (nI 0), []) ::
  (1087, .ireturn, 1, 1, 0, 0, .inl 0, []) :: s_L_law_1088) ls st μ := by rw [s_L_law_1063]
theorem v_L_law_1063 : vc X P m_L_law h K k_L_law S (n + 1) 1063 ls st μ = if 1063 ∈ S then mAt X m_L_law h K 1063 ls st μ else bb X P m_L_law h K (vc X P m_L_law h K k_L_law S n) s_L_law_1063 ls st μ := by rw [vc_s, t_L_law_1063]
theorem w_L_law_1088 : bb X P m_L_law h K J s_L_law_1088 ls st μ = bb X P m_L_law h K J ((1088, .aload_n 1, 1, 1, 0, 0, .inl 0, []) ::
  (1089, .aload_n 0, 1, 0, 0, 0, .inl 0, []) ::
  (1090, .iload 4, 2, 4, 0, 0, .inl 0, []) ::
  (1092, .iconst 1, 1, 0, 0, 0, .inl (nI 1), []) ::
  (1093, .iadd, 1, 0, 0, 0, .inl 0, []) ::
  (1094, .iaload, 1, 0, 0, 0, .inl 0, []) ::
  (1095, .invokevirtual 141, 3, 98, 2, 1, .inl 0, [941, 7]) ::
  (1098, .aload_n 2, 1, 2, 0, 0, .inl 0, []) ::
  (1099, .aload_n 0, 1, 0, 0, 0, .inl 0, []) ::
  (1100, .iload 4, 2, 4, 0, 0, .inl 0, []) ::
  (1102, .iconst 1, 1, 0, 0, 0, .inl (nI 1), []) ::
  (1103, .iadd, 1, 0, 0, 0, .inl 0, []) ::
  (1104, .iaload, 1, 0, 0, 0, .inl 0, []) ::
  (1105, .invokevirtual 144, 3, 167, 2, 1, .inl 0, [1671, 8]) ::
  (1108, .if_icmp .eq 417, 3, 1525, 0, 0, .inl 0, []) ::
  (1111, .iconst 0, 1, 0, 0, 0, .inl (nI 0), []) ::
  (1112, .ireturn, 1, 1, 0, 0, .inl 0, []) :: s_L_law_1113) ls st μ := by rw [s_L_law_1088]
theorem v_L_law_1088 : vc X P m_L_law h K k_L_law S (n + 1) 1088 ls st μ = if 1088 ∈ S then mAt X m_L_law h K 1088 ls st μ else bb X P m_L_law h K (vc X P m_L_law h K k_L_law S n) s_L_law_1088 ls st μ := by rw [vc_s, t_L_law_1088]
theorem w_L_law_1113 : bb X P m_L_law h K J s_L_law_1113 ls st μ = bb X P m_L_law h K J ((1113, .aload_n 1, 1, 1, 0, 0, .inl 0, []) ::
  (1114, .aload_n 0, 1, 0, 0, 0, .inl 0, []) ::
  (1115, .iload 4, 2, 4, 0, 0, .inl 0, []) ::
  (1117, .iconst 1, 1, 0, 0, 0, .inl (nI 1), []) ::
  (1118, .iadd, 1, 0, 0, 0, .inl 0, []) ::
  (1119, .iaload, 1, 0, 0, 0, .inl 0, []) ::
  (1120, .invokevirtual 145, 3, 90, 2, 1, .inl 0, [949, 7]) ::
  (1123, .aload_n 2, 1, 2, 0, 0, .inl 0, []) ::
  (1124, .aload_n 0, 1, 0, 0, 0, .inl 0, []) ::
  (1125, .iload 4, 2, 4, 0, 0, .inl 0, []) ::
  (1127, .iconst 1, 1, 0, 0, 0, .inl (nI 1), []) ::
  (1128, .iadd, 1, 0, 0, 0, .inl 0, []) ::
  (1129, .iaload, 1, 0, 0, 0, .inl 0, []) ::
  (1130, .invokevirtual 148, 3, 156, 2, 1, .inl 0, [1679, 8]) ::
  (1133, .if_icmp .eq 392, 3, 1525, 0, 0, .inl 0, []) ::
  (1136, .iconst 0, 1, 0, 0, 0, .inl (nI 0), []) ::
  (1137, .ireturn, 1, 1, 0, 0, .inl 0, []) :: s_L_law_1138) ls st μ := by rw [s_L_law_1113]
theorem v_L_law_1113 : vc X P m_L_law h K k_L_law S (n + 1) 1113 ls st μ = if 1113 ∈ S then mAt X m_L_law h K 1113 ls st μ else bb X P m_L_law h K (vc X P m_L_law h K k_L_law S n) s_L_law_1113 ls st μ := by rw [vc_s, t_L_law_1113]
theorem w_L_law_1138 : bb X P m_L_law h K J s_L_law_1138 ls st μ = bb X P m_L_law h K J ((1138, .aload_n 1, 1, 1, 0, 0, .inl 0, []) ::
  (1139, .aload_n 0, 1, 0, 0, 0, .inl 0, []) ::
  (1140, .iload 4, 2, 4, 0, 0, .inl 0, []) ::
  (1142, .iconst 1, 1, 0, 0, 0, .inl (nI 1), []) ::
  (1143, .iadd, 1, 0, 0, 0, .inl 0, []) ::
  (1144, .iaload, 1, 0, 0, 0, .inl 0, []) ::
  (1145, .invokevirtual 149, 3, 92, 2, 1, .inl 0, [953, 7]) ::
  (1148, .aload_n 2, 1, 2, 0, 0, .inl 0, []) ::
  (1149, .aload_n 0, 1, 0, 0, 0, .inl 0, []) ::
  (1150, .iload 4, 2, 4, 0, 0, .inl 0, []) ::
  (1152, .iconst 1, 1, 0, 0, 0, .inl (nI 1), []) ::
  (1153, .iadd, 1, 0, 0, 0, .inl 0, []) ::
  (1154, .iaload, 1, 0, 0, 0, .inl 0, []) ::
  (1155, .invokevirtual 152, 3, 158, 2, 1, .inl 0, [1683, 8]) ::
  (1158, .if_icmp .eq 367, 3, 1525, 0, 0, .inl 0, []) ::
  (1161, .iconst 0, 1, 0, 0, 0, .inl (nI 0), []) ::
  (1162, .ireturn, 1, 1, 0, 0, .inl 0, []) :: s_L_law_1163) ls st μ := by rw [s_L_law_1138]
theorem v_L_law_1138 : vc X P m_L_law h K k_L_law S (n + 1) 1138 ls st μ = if 1138 ∈ S then mAt X m_L_law h K 1138 ls st μ else bb X P m_L_law h K (vc X P m_L_law h K k_L_law S n) s_L_law_1138 ls st μ := by rw [vc_s, t_L_law_1138]
theorem w_L_law_1163 : bb X P m_L_law h K J s_L_law_1163 ls st μ = bb X P m_L_law h K J ((1163, .aload_n 1, 1, 1, 0, 0, .inl 0, []) ::
  (1164, .aload_n 0, 1, 0, 0, 0, .inl 0, []) ::
  (1165, .iload 4, 2, 4, 0, 0, .inl 0, []) ::
  (1167, .iconst 1, 1, 0, 0, 0, .inl (nI 1), []) ::
  (1168, .iadd, 1, 0, 0, 0, .inl 0, []) ::
  (1169, .iaload, 1, 0, 0, 0, .inl 0, []) ::
  (1170, .aload_n 0, 1, 0, 0, 0, .inl 0, []) ::
  (1171, .iload 4, 2, 4, 0, 0, .inl 0, []) ::
  (1173, .iconst 2, 1, 0, 0, 0, .inl (nI 2), []) ::
  (1174, .iadd, 1, 0, 0, 0, .inl 0, []) ::
  (1175, .iaload, 1, 0, 0, 0, .inl 0, []) ::
  (1176, .invokevirtual 153, 3, 108, 3, 1, .inl 0, [960, 7]) ::
  (1179, .aload_n 2, 1, 2, 0, 0, .inl 0, []) ::
  (1180, .aload_n 0, 1, 0, 0, 0, .inl 0, []) ::
  (1181, .iload 4, 2, 4, 0, 0, .inl 0, []) ::
  (1183, .iconst 1, 1, 0, 0, 0, .inl (nI 1), []) ::
  (1184, .iadd, 1, 0, 0, 0, .inl 0, []) ::
  (1185, .iaload, 1, 0, 0, 0, .inl 0, []) ::
  (1186, .aload_n 0, 1, 0, 0, 0, .inl 0, []) ::
  (1187, .iload 4, 2, 4, 0, 0, .inl 0, []) ::
  (1189, .iconst 2, 1, 0, 0, 0, .inl (nI 2), []) ::
  (1190, .iadd, 1, 0, 0, 0, .inl 0, []) ::
  (1191, .iaload, 1, 0, 0, 0, .inl 0, []) ::
  (1192, .invokevirtual 156, 3, 192, 3, 1, .inl 0, [1687, 8]) ::
  (1195, .if_icmp .eq 330, 3, 1525, 0, 0, .inl 0, []) ::
  (1198, .iconst 0, 1, 0, 0, 0, .inl (nI 0), []) ::
  (1199, .ireturn, 1, 1, 0, 0, .inl 0, []) :: s_L_law_1200) ls st μ := by rw [s_L_law_1163]
theorem v_L_law_1163 : vc X P m_L_law h K k_L_law S (n + 1) 1163 ls st μ = if 1163 ∈ S then mAt X m_L_law h K 1163 ls st μ else bb X P m_L_law h K (vc X P m_L_law h K k_L_law S n) s_L_law_1163 ls st μ := by rw [vc_s, t_L_law_1163]
theorem w_L_law_1200 : bb X P m_L_law h K J s_L_law_1200 ls st μ = bb X P m_L_law h K J ((1200, .aload_n 1, 1, 1, 0, 0, .inl 0, []) ::
  (1201, .invokevirtual 157, 3, 109, 1, 1, .inl 0, [974, 7]) ::
  (1204, .aload_n 2, 1, 2, 0, 0, .inl 0, []) ::
  (1205, .invokevirtual 160, 3, 193, 1, 1, .inl 0, [1695, 8]) ::
  (1208, .if_icmp .eq 317, 3, 1525, 0, 0, .inl 0, []) ::
  (1211, .iconst 0, 1, 0, 0, 0, .inl (nI 0), []) ::
  (1212, .ireturn, 1, 1, 0, 0, .inl 0, []) :: s_L_law_1213) ls st μ := by rw [s_L_law_1200]
theorem v_L_law_1200 : vc X P m_L_law h K k_L_law S (n + 1) 1200 ls st μ = if 1200 ∈ S then mAt X m_L_law h K 1200 ls st μ else bb X P m_L_law h K (vc X P m_L_law h K k_L_law S n) s_L_law_1200 ls st μ := by rw [vc_s, t_L_law_1200]
theorem w_L_law_1213 : bb X P m_L_law h K J s_L_law_1213 ls st μ = bb X P m_L_law h K J ((1213, .aload_n 1, 1, 1, 0, 0, .inl 0, []) ::
  (1214, .aload_n 0, 1, 0, 0, 0, .inl 0, []) ::
  (1215, .iload 4, 2, 4, 0, 0, .inl 0, []) ::
  (1217, .iconst 1, 1, 0, 0, 0, .inl (nI 1), []) ::
  (1218, .iadd, 1, 0, 0, 0, .inl 0, []) ::
  (1219, .iaload, 1, 0, 0, 0, .inl 0, []) ::
  (1220, .aload_n 0, 1, 0, 0, 0, .inl 0, []) ::
  (1221, .iload 4, 2, 4, 0, 0, .inl 0, []) ::
  (1223, .iconst 2, 1, 0, 0, 0, .inl (nI 2), []) ::
  (1224, .iadd, 1, 0, 0, 0, .inl 0, []) ::
  (1225, .iaload, 1, 0, 0, 0, .inl 0, []) ::
  (1226, .invokevirtual 161, 3, 131, 3, 1, .inl 0, [978, 7]) ::
  (1229, .aload_n 2, 1, 2, 0, 0, .inl 0, []) ::
  (1230, .aload_n 0, 1, 0, 0, 0, .inl 0, []) ::
  (1231, .iload 4, 2, 4, 0, 0, .inl 0, []) ::
  (1233, .iconst 1, 1, 0, 0, 0, .inl (nI 1), []) ::
  (1234, .iadd, 1, 0, 0, 0, .inl 0, []) ::
  (1235, .iaload, 1, 0, 0, 0, .inl 0, []) ::
  (1236, .aload_n 0, 1, 0, 0, 0, .inl 0, []) ::
  (1237, .iload 4, 2, 4, 0, 0, .inl 0, []) ::
  (1239, .iconst 2, 1, 0, 0, 0, .inl (nI 2), []) ::
  (1240, .iadd, 1, 0, 0, 0, .inl 0, []) ::
  (1241, .iaload, 1, 0, 0, 0, .inl 0, []) ::
  (1242, .invokevirtual 164, 3, 250, 3, 1, .inl 0, [1699, 8]) ::
  (1245, .if_icmp .eq 280, 3, 1525, 0, 0, .inl 0, []) ::
  (1248, .iconst 0, 1, 0, 0, 0, .inl (nI 0), []) ::
  (1249, .ireturn, 1, 1, 0, 0, .inl 0, []) :: s_L_law_1250) ls st μ := by rw [s_L_law_1213]
theorem v_L_law_1213 : vc X P m_L_law h K k_L_law S (n + 1) 1213 ls st μ = if 1213 ∈ S then mAt X m_L_law h K 1213 ls st μ else bb X P m_L_law h K (vc X P m_L_law h K k_L_law S n) s_L_law_1213 ls st μ := by rw [vc_s, t_L_law_1213]
theorem w_L_law_1250 : bb X P m_L_law h K J s_L_law_1250 ls st μ = bb X P m_L_law h K J ((1250, .aload_n 1, 1, 1, 0, 0, .inl 0, []) ::
  (1251, .aload_n 0, 1, 0, 0, 0, .inl 0, []) ::
  (1252, .iload 4, 2, 4, 0, 0, .inl 0, []) ::
  (1254, .iconst 1, 1, 0, 0, 0, .inl (nI 1), []) ::
  (1255, .iadd, 1, 0, 0, 0, .inl 0, []) ::
  (1256, .iaload, 1, 0, 0, 0, .inl 0, []) ::
  (1257, .aload_n 0, 1, 0, 0, 0, .inl 0, []) ::
  (1258, .iload 4, 2, 4, 0, 0, .inl 0, []) ::
  (1260, .iconst 2, 1, 0, 0, 0, .inl (nI 2), []) ::
  (1261, .iadd, 1, 0, 0, 0, .inl 0, []) ::
  (1262, .iaload, 1, 0, 0, 0, .inl 0, []) ::
  (1263, .invokevirtual 165, 3, 111, 3, 1, .inl 0, [982, 7]) ::
  (1266, .aload_n 2, 1, 2, 0, 0, .inl 0, []) ::
  (1267, .aload_n 0, 1, 0, 0, 0, .inl 0, []) ::
  (1268, .iload 4, 2, 4, 0, 0, .inl 0, []) ::
  (1270, .iconst 1, 1, 0, 0, 0, .inl (nI 1), []) ::
  (1271, .iadd, 1, 0, 0, 0, .inl 0, []) ::
  (1272, .iaload, 1, 0, 0, 0, .inl 0, []) ::
  (1273, .aload_n 0, 1, 0, 0, 0, .inl 0, []) ::
  (1274, .iload 4, 2, 4, 0, 0, .inl 0, []) ::
  (1276, .iconst 2, 1, 0, 0, 0, .inl (nI 2), []) ::
  (1277, .iadd, 1, 0, 0, 0, .inl 0, []) ::
  (1278, .iaload, 1, 0, 0, 0, .inl 0, []) ::
  (1279, .invokevirtual 168, 3, 200, 3, 1, .inl 0, [1703, 8]) ::
  (1282, .if_icmp .eq 243, 3, 1525, 0, 0, .inl 0, []) ::
  (1285, .iconst 0, 1, 0, 0, 0, .inl (nI 0), []) ::
  (1286, .ireturn, 1, 1, 0, 0, .inl 0, []) :: s_L_law_1287) ls st μ := by rw [s_L_law_1250]
theorem v_L_law_1250 : vc X P m_L_law h K k_L_law S (n + 1) 1250 ls st μ = if 1250 ∈ S then mAt X m_L_law h K 1250 ls st μ else bb X P m_L_law h K (vc X P m_L_law h K k_L_law S n) s_L_law_1250 ls st μ := by rw [vc_s, t_L_law_1250]
theorem w_L_law_1287 : bb X P m_L_law h K J s_L_law_1287 ls st μ = bb X P m_L_law h K J ((1287, .aload_n 1, 1, 1, 0, 0, .inl 0, []) ::
  (1288, .aload_n 0, 1, 0, 0, 0, .inl 0, []) ::
  (1289, .iload 4, 2, 4, 0, 0, .inl 0, []) ::
  (1291, .iconst 1, 1, 0, 0, 0, .inl (nI 1), []) ::
  (1292, .iadd, 1, 0, 0, 0, .inl 0, []) ::
  (1293, .iaload, 1, 0, 0, 0, .inl 0, []) ::
  (1294, .invokevirtual 169, 3, 89, 2, 1, .inl 0, [986, 7]) ::
  (1297, .aload_n 2, 1, 2, 0, 0, .inl 0, []) ::
  (1298, .aload_n 0, 1, 0, 0, 0, .inl 0, []) ::
  (1299, .iload 4, 2, 4, 0, 0, .inl 0, []) ::
  (1301, .iconst 1, 1, 0, 0, 0, .inl (nI 1), []) ::
  (1302, .iadd, 1, 0, 0, 0, .inl 0, []) ::
  (1303, .iaload, 1, 0, 0, 0, .inl 0, []) ::
  (1304, .invokevirtual 172, 3, 155, 2, 1, .inl 0, [1707, 8]) ::
  (1307, .if_icmp .eq 218, 3, 1525, 0, 0, .inl 0, []) ::
  (1310, .iconst 0, 1, 0, 0, 0, .inl (nI 0), []) ::
  (1311, .ireturn, 1, 1, 0, 0, .inl 0, []) :: s_L_law_1312) ls st μ := by rw [s_L_law_1287]
theorem v_L_law_1287 : vc X P m_L_law h K k_L_law S (n + 1) 1287 ls st μ = if 1287 ∈ S then mAt X m_L_law h K 1287 ls st μ else bb X P m_L_law h K (vc X P m_L_law h K k_L_law S n) s_L_law_1287 ls st μ := by rw [vc_s, t_L_law_1287]
theorem w_L_law_1312 : bb X P m_L_law h K J s_L_law_1312 ls st μ = bb X P m_L_law h K J ((1312, .aload_n 1, 1, 1, 0, 0, .inl 0, []) ::
  (1313, .aload_n 0, 1, 0, 0, 0, .inl 0, []) ::
  (1314, .iload 4, 2, 4, 0, 0, .inl 0, []) ::
  (1316, .iconst 1, 1, 0, 0, 0, .inl (nI 1), []) ::
  (1317, .iadd, 1, 0, 0, 0, .inl 0, []) ::
  (1318, .iaload, 1, 0, 0, 0, .inl 0, []) ::
  (1319, .aload_n 0, 1, 0, 0, 0, .inl 0, []) ::
  (1320, .iload 4, 2, 4, 0, 0, .inl 0, []) ::
  (1322, .iconst 2, 1, 0, 0, 0, .inl (nI 2), []) ::
  (1323, .iadd, 1, 0, 0, 0, .inl 0, []) ::
  (1324, .iaload, 1, 0, 0, 0, .inl 0, []) ::
  (1325, .aload_n 0, 1, 0, 0, 0, .inl 0, []) ::
  (1326, .iload 4, 2, 4, 0, 0, .inl 0, []) ::
  (1328, .iconst 3, 1, 0, 0, 0, .inl (nI 3), []) ::
  (1329, .iadd, 1, 0, 0, 0, .inl 0, []) ::
  (1330, .iaload, 1, 0, 0, 0, .inl 0, []) ::
  (1331, .invokevirtual 173, 3, 87, 4, 1, .inl 0, [997, 7]) ::
  (1334, .aload_n 2, 1, 2, 0, 0, .inl 0, []) ::
  (1335, .aload_n 0, 1, 0, 0, 0, .inl 0, []) ::
  (1336, .iload 4, 2, 4, 0, 0, .inl 0, []) ::
  (1338, .iconst 1, 1, 0, 0, 0, .inl (nI 1), []) ::
  (1339, .iadd, 1, 0, 0, 0, .inl 0, []) ::
  (1340, .iaload, 1, 0, 0, 0, .inl 0, []) ::
  (1341, .aload_n 0, 1, 0, 0, 0, .inl 0, []) ::
  (1342, .iload 4, 2, 4, 0, 0, .inl 0, []) ::
  (1344, .iconst 2, 1, 0, 0, 0, .inl (nI 2), []) ::
  (1345, .iadd, 1, 0, 0, 0, .inl 0, []) ::
  (1346, .iaload, 1, 0, 0, 0, .inl 0, []) ::
  (1347, .aload_n 0, 1, 0, 0, 0, .inl 0, []) ::
  (1348, .iload 4, 2, 4, 0, 0, .inl 0, []) ::
  (1350, .iconst 3, 1, 0, 0, 0, .inl (nI 3), []) ::
  (1351, .iadd, 1, 0, 0, 0, .inl 0, []) ::
  (1352, .iaload, 1, 0, 0, 0, .inl 0, []) ::
  (1353, .invokevirtual 176, 3, 153, 4, 1, .inl 0, [1715, 8]) ::
  (1356, .if_icmp .eq 169, 3, 1525, 0, 0, .inl 0, []) ::
  (1359, .iconst 0, 1, 0, 0, 0, .inl (nI 0), []) ::
  (1360, .ireturn, 1, 1, 0, 0, .inl 0, []) :: s_L_law_1361) ls st μ := by rw [s_L_law_1312]
theorem v_L_law_1312 : vc X P m_L_law h K k_L_law S (n + 1) 1312 ls st μ = if 1312 ∈ S then mAt X m_L_law h K 1312 ls st μ else bb X P m_L_law h K (vc X P m_L_law h K k_L_law S n) s_L_law_1312 ls st μ := by rw [vc_s, t_L_law_1312]
theorem w_L_law_1361 : bb X P m_L_law h K J s_L_law_1361 ls st μ = bb X P m_L_law h K J ((1361, .aload_n 1, 1, 1, 0, 0, .inl 0, []) ::
  (1362, .invokevirtual 177, 3, 121, 1, 1, .inl 0, [1001, 7]) ::
  (1365, .aload_n 2, 1, 2, 0, 0, .inl 0, []) ::
  (1366, .invokevirtual 180, 3, 236, 1, 1, .inl 0, [1719, 8]) ::
  (1369, .if_icmp .eq 156, 3, 1525, 0, 0, .inl 0, []) ::
  (1372, .iconst 0, 1, 0, 0, 0, .inl (nI 0), []) ::
  (1373, .ireturn, 1, 1, 0, 0, .inl 0, []) :: s_L_law_1374) ls st μ := by rw [s_L_law_1361]
theorem v_L_law_1361 : vc X P m_L_law h K k_L_law S (n + 1) 1361 ls st μ = if 1361 ∈ S then mAt X m_L_law h K 1361 ls st μ else bb X P m_L_law h K (vc X P m_L_law h K k_L_law S n) s_L_law_1361 ls st μ := by rw [vc_s, t_L_law_1361]
theorem w_L_law_1374 : bb X P m_L_law h K J s_L_law_1374 ls st μ = bb X P m_L_law h K J ((1374, .aload_n 1, 1, 1, 0, 0, .inl 0, []) ::
  (1375, .invokevirtual 181, 3, 135, 1, 1, .inl 0, [1005, 7]) ::
  (1378, .aload_n 2, 1, 2, 0, 0, .inl 0, []) ::
  (1379, .invokevirtual 184, 3, 256, 1, 1, .inl 0, [1723, 8]) ::
  (1382, .if_icmp .eq 143, 3, 1525, 0, 0, .inl 0, []) ::
  (1385, .iconst 0, 1, 0, 0, 0, .inl (nI 0), []) ::
  (1386, .ireturn, 1, 1, 0, 0, .inl 0, []) :: s_L_law_1387) ls st μ := by rw [s_L_law_1374]
theorem v_L_law_1374 : vc X P m_L_law h K k_L_law S (n + 1) 1374 ls st μ = if 1374 ∈ S then mAt X m_L_law h K 1374 ls st μ else bb X P m_L_law h K (vc X P m_L_law h K k_L_law S n) s_L_law_1374 ls st μ := by rw [vc_s, t_L_law_1374]
theorem w_L_law_1387 : bb X P m_L_law h K J s_L_law_1387 ls st μ = bb X P m_L_law h K J ((1387, .aload_n 1, 1, 1, 0, 0, .inl 0, []) ::
  (1388, .aload_n 0, 1, 0, 0, 0, .inl 0, []) ::
  (1389, .iload 4, 2, 4, 0, 0, .inl 0, []) ::
  (1391, .iconst 1, 1, 0, 0, 0, .inl (nI 1), []) ::
  (1392, .iadd, 1, 0, 0, 0, .inl 0, []) ::
  (1393, .iaload, 1, 0, 0, 0, .inl 0, []) ::
  (1394, .invokevirtual 185, 3, 81, 2, 1, .inl 0, [1022, 7]) ::
  (1397, .aload_n 2, 1, 2, 0, 0, .inl 0, []) ::
  (1398, .aload_n 0, 1, 0, 0, 0, .inl 0, []) ::
  (1399, .iload 4, 2, 4, 0, 0, .inl 0, []) ::
  (1401, .iconst 1, 1, 0, 0, 0, .inl (nI 1), []) ::
  (1402, .iadd, 1, 0, 0, 0, .inl 0, []) ::
  (1403, .iaload, 1, 0, 0, 0, .inl 0, []) ::
  (1404, .invokevirtual 188, 3, 147, 2, 1, .inl 0, [1739, 8]) ::
  (1407, .if_icmp .eq 118, 3, 1525, 0, 0, .inl 0, []) ::
  (1410, .iconst 0, 1, 0, 0, 0, .inl (nI 0), []) ::
  (1411, .ireturn, 1, 1, 0, 0, .inl 0, []) :: s_L_law_1412) ls st μ := by rw [s_L_law_1387]
theorem v_L_law_1387 : vc X P m_L_law h K k_L_law S (n + 1) 1387 ls st μ = if 1387 ∈ S then mAt X m_L_law h K 1387 ls st μ else bb X P m_L_law h K (vc X P m_L_law h K k_L_law S n) s_L_law_1387 ls st μ := by rw [vc_s, t_L_law_1387]
theorem w_L_law_1412 : bb X P m_L_law h K J s_L_law_1412 ls st μ = bb X P m_L_law h K J ((1412, .aload_n 1, 1, 1, 0, 0, .inl 0, []) ::
  (1413, .invokevirtual 189, 3, 124, 1, 1, .inl 0, [1026, 7]) ::
  (1416, .aload_n 2, 1, 2, 0, 0, .inl 0, []) ::
  (1417, .invokevirtual 192, 3, 240, 1, 1, .inl 0, [1751, 8]) ::
  (1420, .if_icmp .eq 105, 3, 1525, 0, 0, .inl 0, []) ::
  (1423, .iconst 0, 1, 0, 0, 0, .inl (nI 0), []) ::
  (1424, .ireturn, 1, 1, 0, 0, .inl 0, []) :: s_L_law_1425) ls st μ := by rw [s_L_law_1412]
theorem v_L_law_1412 : vc X P m_L_law h K k_L_law S (n + 1) 1412 ls st μ = if 1412 ∈ S then mAt X m_L_law h K 1412 ls st μ else bb X P m_L_law h K (vc X P m_L_law h K k_L_law S n) s_L_law_1412 ls st μ := by rw [vc_s, t_L_law_1412]
theorem w_L_law_1425 : bb X P m_L_law h K J s_L_law_1425 ls st μ = bb X P m_L_law h K J ((1425, .aload_n 1, 1, 1, 0, 0, .inl 0, []) ::
  (1426, .aload_n 0, 1, 0, 0, 0, .inl 0, []) ::
  (1427, .iload 4, 2, 4, 0, 0, .inl 0, []) ::
  (1429, .iconst 1, 1, 0, 0, 0, .inl (nI 1), []) ::
  (1430, .iadd, 1, 0, 0, 0, .inl 0, []) ::
  (1431, .iaload, 1, 0, 0, 0, .inl 0, []) ::
  (1432, .invokevirtual 193, 3, 123, 2, 1, .inl 0, [1075, 7]) ::
  (1435, .aload_n 2, 1, 2, 0, 0, .inl 0, []) ::
  (1436, .aload_n 0, 1, 0, 0, 0, .inl 0, []) ::
  (1437, .iload 4, 2, 4, 0, 0, .inl 0, []) ::
  (1439, .iconst 1, 1, 0, 0, 0, .inl (nI 1), []) ::
  (1440, .iadd, 1, 0, 0, 0, .inl 0, []) ::
  (1441, .iaload, 1, 0, 0, 0, .inl 0, []) ::
  (1442, .invokevirtual 196, 3, 239, 2, 1, .inl 0, [1787, 8]) ::
  (1445, .if_icmp .eq 80, 3, 1525, 0, 0, .inl 0, []) ::
  (1448, .iconst 0, 1, 0, 0, 0, .inl (nI 0), []) ::
  (1449, .ireturn, 1, 1, 0, 0, .inl 0, []) :: s_L_law_1450) ls st μ := by rw [s_L_law_1425]
theorem v_L_law_1425 : vc X P m_L_law h K k_L_law S (n + 1) 1425 ls st μ = if 1425 ∈ S then mAt X m_L_law h K 1425 ls st μ else bb X P m_L_law h K (vc X P m_L_law h K k_L_law S n) s_L_law_1425 ls st μ := by rw [vc_s, t_L_law_1425]
theorem w_L_law_1450 : bb X P m_L_law h K J s_L_law_1450 ls st μ = bb X P m_L_law h K J ((1450, .aload_n 1, 1, 1, 0, 0, .inl 0, []) ::
  (1451, .aload_n 0, 1, 0, 0, 0, .inl 0, []) ::
  (1452, .iload 4, 2, 4, 0, 0, .inl 0, []) ::
  (1454, .iconst 1, 1, 0, 0, 0, .inl (nI 1), []) ::
  (1455, .iadd, 1, 0, 0, 0, .inl 0, []) ::
  (1456, .iaload, 1, 0, 0, 0, .inl 0, []) ::
  (1457, .invokevirtual 197, 3, 101, 2, 1, .inl 0, [1091, 7]) ::
  (1460, .aload_n 2, 1, 2, 0, 0, .inl 0, []) ::
  (1461, .aload_n 0, 1, 0, 0, 0, .inl 0, []) ::
  (1462, .iload 4, 2, 4, 0, 0, .inl 0, []) ::
  (1464, .iconst 1, 1, 0, 0, 0, .inl (nI 1), []) ::
  (1465, .iadd, 1, 0, 0, 0, .inl 0, []) ::
  (1466, .iaload, 1, 0, 0, 0, .inl 0, []) ::
  (1467, .invokevirtual 200, 3, 173, 2, 1, .inl 0, [1795, 8]) ::
  (1470, .if_icmp .eq 55, 3, 1525, 0, 0, .inl 0, []) ::
  (1473, .iconst 0, 1, 0, 0, 0, .inl (nI 0), []) ::
  (1474, .ireturn, 1, 1, 0, 0, .inl 0, []) :: s_L_law_1475) ls st μ := by rw [s_L_law_1450]
theorem v_L_law_1450 : vc X P m_L_law h K k_L_law S (n + 1) 1450 ls st μ = if 1450 ∈ S then mAt X m_L_law h K 1450 ls st μ else bb X P m_L_law h K (vc X P m_L_law h K k_L_law S n) s_L_law_1450 ls st μ := by rw [vc_s, t_L_law_1450]
theorem w_L_law_1475 : bb X P m_L_law h K J s_L_law_1475 ls st μ = bb X P m_L_law h K J ((1475, .aload_n 1, 1, 1, 0, 0, .inl 0, []) ::
  (1476, .aload_n 0, 1, 0, 0, 0, .inl 0, []) ::
  (1477, .iload 4, 2, 4, 0, 0, .inl 0, []) ::
  (1479, .iconst 1, 1, 0, 0, 0, .inl (nI 1), []) ::
  (1480, .iadd, 1, 0, 0, 0, .inl 0, []) ::
  (1481, .iaload, 1, 0, 0, 0, .inl 0, []) ::
  (1482, .invokevirtual 201, 3, 122, 2, 1, .inl 0, [1095, 7]) ::
  (1485, .aload_n 2, 1, 2, 0, 0, .inl 0, []) ::
  (1486, .aload_n 0, 1, 0, 0, 0, .inl 0, []) ::
  (1487, .iload 4, 2, 4, 0, 0, .inl 0, []) ::
  (1489, .iconst 1, 1, 0, 0, 0, .inl (nI 1), []) ::
  (1490, .iadd, 1, 0, 0, 0, .inl 0, []) ::
  (1491, .iaload, 1, 0, 0, 0, .inl 0, []) ::
  (1492, .invokevirtual 204, 3, 237, 2, 1, .inl 0, [1799, 8]) ::
  (1495, .if_icmp .eq 30, 3, 1525, 0, 0, .inl 0, []) ::
  (1498, .iconst 0, 1, 0, 0, 0, .inl (nI 0), []) ::
  (1499, .ireturn, 1, 1, 0, 0, .inl 0, []) :: s_L_law_1500) ls st μ := by rw [s_L_law_1475]
theorem v_L_law_1475 : vc X P m_L_law h K k_L_law S (n + 1) 1475 ls st μ = if 1475 ∈ S then mAt X m_L_law h K 1475 ls st μ else bb X P m_L_law h K (vc X P m_L_law h K k_L_law S n) s_L_law_1475 ls st μ := by rw [vc_s, t_L_law_1475]
theorem w_L_law_1500 : bb X P m_L_law h K J s_L_law_1500 ls st μ = bb X P m_L_law h K J ((1500, .aload_n 1, 1, 1, 0, 0, .inl 0, []) ::
  (1501, .aload_n 0, 1, 0, 0, 0, .inl 0, []) ::
  (1502, .iload 4, 2, 4, 0, 0, .inl 0, []) ::
  (1504, .iconst 1, 1, 0, 0, 0, .inl (nI 1), []) ::
  (1505, .iadd, 1, 0, 0, 0, .inl 0, []) ::
  (1506, .iaload, 1, 0, 0, 0, .inl 0, []) ::
  (1507, .invokevirtual 205, 3, 85, 2, 1, .inl 0, [1099, 7]) ::
  (1510, .aload_n 2, 1, 2, 0, 0, .inl 0, []) ::
  (1511, .aload_n 0, 1, 0, 0, 0, .inl 0, []) ::
  (1512, .iload 4, 2, 4, 0, 0, .inl 0, []) ::
  (1514, .iconst 1, 1, 0, 0, 0, .inl (nI 1), []) ::
  (1515, .iadd, 1, 0, 0, 0, .inl 0, []) ::
  (1516, .iaload, 1, 0, 0, 0, .inl 0, []) ::
  (1517, .invokevirtual 208, 3, 152, 2, 1, .inl 0, [1803, 8]) ::
  (1520, .if_icmp .eq 5, 3, 1525, 0, 0, .inl 0, []) ::
  (1523, .iconst 0, 1, 0, 0, 0, .inl (nI 0), []) ::
  (1524, .ireturn, 1, 1, 0, 0, .inl 0, []) :: s_L_law_1525) ls st μ := by rw [s_L_law_1500]
theorem v_L_law_1500 : vc X P m_L_law h K k_L_law S (n + 1) 1500 ls st μ = if 1500 ∈ S then mAt X m_L_law h K 1500 ls st μ else bb X P m_L_law h K (vc X P m_L_law h K k_L_law S n) s_L_law_1500 ls st μ := by rw [vc_s, t_L_law_1500]
theorem w_L_law_1525 : bb X P m_L_law h K J s_L_law_1525 ls st μ = bb X P m_L_law h K J ((1525, .iinc 4 6, 3, 4, 0, 0, .inl (nI 6), []) ::
  (1528, .goto (-1505), 3, 23, 0, 0, .inl 0, []) :: s_L_law_1531) ls st μ := by rw [s_L_law_1525]
theorem v_L_law_1525 : vc X P m_L_law h K k_L_law S (n + 1) 1525 ls st μ = if 1525 ∈ S then mAt X m_L_law h K 1525 ls st μ else bb X P m_L_law h K (vc X P m_L_law h K k_L_law S n) s_L_law_1525 ls st μ := by rw [vc_s, t_L_law_1525]
theorem w_L_law_1531 : bb X P m_L_law h K J s_L_law_1531 ls st μ = bb X P m_L_law h K J ((1531, .iconst 1, 1, 0, 0, 0, .inl (nI 1), []) ::
  (1532, .ireturn, 1, 1, 0, 0, .inl 0, []) :: []) ls st μ := by rw [s_L_law_1531]
theorem v_L_law_1531 : vc X P m_L_law h K k_L_law S (n + 1) 1531 ls st μ = if 1531 ∈ S then mAt X m_L_law h K 1531 ls st μ else bb X P m_L_law h K (vc X P m_L_law h K k_L_law S n) s_L_law_1531 ls st μ := by rw [vc_s, t_L_law_1531]
end
