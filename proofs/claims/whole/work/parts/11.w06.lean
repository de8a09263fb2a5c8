section
variable {X : mC} {P : mP} {h : Nat} {K : MV → Mem → Prop} {J : mJ} {ls : List (Nat × MV)} {st : List MV} {μ : Mem} {S : List Nat} {n : Nat}
theorem w_X9_readPlain_0 : bb X P m_X9_readPlain h K J s_X9_readPlain_0 ls st μ = bb X P m_X9_readPlain h K J ((0, .aload_n 0, 1, 0, 0, 0, .inl 0, []) ::
  (1, .iload_n 1, 1, 1, 0, 0, .inl 0, []) ::
  (2, .invokevirtual 186, 3, 219, 2, 1, .inl 0, [1425, 8]) ::
  (5, .istore_n 3, 1, 3, 0, 0, .inl 0, []) ::
  (6, .iload_n 3, 1, 3, 0, 0, .inl 0, []) ::
  (7, .iconst (-1), 1, 0, 0, 0, .inl (-1), []) ::
  (8, .if_icmp .eq 13, 3, 21, 0, 0, .inl 0, []) ::
  (11, .aload_n 0, 1, 0, 0, 0, .inl 0, []) ::
  (12, .iconst 1, 1, 0, 0, 0, .inl (nI 1), []) ::
  (13, .bipush 9, 2, 0, 0, 0, .inl (nI 9), []) ::
  (15, .invokevirtual 171, 3, 229, 3, 1, .inl 0, [1410, 8]) ::
  (18, .ifCond .ne 5, 3, 23, 0, 0, .inl 0, []) :: s_X9_readPlain_21) ls st μ := by rw [s_X9_readPlain_0]
theorem v_X9_readPlain_0 : vc X P m_X9_readPlain h K k_X9_readPlain S (n + 1) 0 ls st μ = if 0 ∈ S then mAt X m_X9_readPlain h K 0 ls st μ else bb X P m_X9_readPlain h K (vc X P m_X9_readPlain h K k_X9_readPlain S n) s_X9_readPlain_0 ls st μ := by rw [vc_s, t_X9_readPlain_0]
theorem w_X9_readPlain_21 : bb X P m_X9_readPlain h K J s_X9_readPlain_21 ls st μ = bb X P m_X9_readPlain h K J ((21, .iconst 0, 1, 0, 0, 0, .inl (nI 0), []) ::
  (22, .ireturn, 1, 1, 0, 0, .inl 0, []) :: s_X9_readPlain_23) ls st μ := by rw [s_X9_readPlain_21]
theorem v_X9_readPlain_21 : vc X P m_X9_readPlain h K k_X9_readPlain S (n + 1) 21 ls st μ = if 21 ∈ S then mAt X m_X9_readPlain h K 21 ls st μ else bb X P m_X9_readPlain h K (vc X P m_X9_readPlain h K k_X9_readPlain S n) s_X9_readPlain_21 ls st μ := by rw [vc_s, t_X9_readPlain_21]
theorem w_X9_readPlain_23 : bb X P m_X9_readPlain h K J s_X9_readPlain_23 ls st μ = bb X P m_X9_readPlain h K J ((23, .aload_n 0, 1, 0, 0, 0, .inl 0, []) ::
  (24, .getfield 16, 3, 8, 15, 3, .inr (.inr (16, 278, 3)), [1211]) ::
  (27, .iload_n 1, 1, 1, 0, 0, .inl 0, []) ::
  (28, .iload_n 3, 1, 3, 0, 0, .inl 0, []) ::
  (29, .iadd, 1, 0, 0, 0, .inl 0, []) ::
  (30, .aload_n 0, 1, 0, 0, 0, .inl 0, []) ::
  (31, .getfield 147, 3, 8, 13, 0, .inl 0, [1209]) ::
  (34, .iastore, 1, 0, 0, 0, .inl 0, []) ::
  (35, .aload_n 0, 1, 0, 0, 0, .inl 0, []) ::
  (36, .getfield 16, 3, 8, 15, 3, .inr (.inr (16, 278, 3)), [1211]) ::
  (39, .iload_n 2, 1, 2, 0, 0, .inl 0, []) ::
  (40, .dup2, 1, 0, 0, 0, .inl 0, []) ::
  (41, .iaload, 1, 0, 0, 0, .inl 0, []) ::
  (42, .iconst 1, 1, 0, 0, 0, .inl (nI 1), []) ::
  (43, .iadd, 1, 0, 0, 0, .inl 0, []) ::
  (44, .iastore, 1, 0, 0, 0, .inl 0, []) ::
  (45, .iconst 1, 1, 0, 0, 0, .inl (nI 1), []) ::
  (46, .ireturn, 1, 1, 0, 0, .inl 0, []) :: []) ls st μ := by rw [s_X9_readPlain_23]
theorem v_X9_readPlain_23 : vc X P m_X9_readPlain h K k_X9_readPlain S (n + 1) 23 ls st μ = if 23 ∈ S then mAt X m_X9_readPlain h K 23 ls st μ else bb X P m_X9_readPlain h K (vc X P m_X9_readPlain h K k_X9_readPlain S n) s_X9_readPlain_23 ls st μ := by rw [vc_s, t_X9_readPlain_23]
end
section
variable {X : mC} {P : mP} {h : Nat} {K : MV → Mem → Prop} {J : mJ} {ls : List (Nat × MV)} {st : List MV} {μ : Mem} {S : List Nat} {n : Nat}
theorem w_X9_readTakes_0 : bb X P m_X9_readTakes h K J s_X9_readTakes_0 ls st μ = bb X P m_X9_readTakes h K J ((0, .aload_n 0, 1, 0, 0, 0, .inl 0, []) ::
  (1, .bipush 38, 2, 0, 0, 0, .inl (nI 38), []) ::
  (3, .invokevirtual 186, 3, 219, 2, 1, .inl 0, [1425, 8]) ::
  (6, .istore_n 1, 1, 1, 0, 0, .inl 0, []) ::
  (7, .iload_n 1, 1, 1, 0, 0, .inl 0, []) ::
  (8, .iconst (-1), 1, 0, 0, 0, .inl (-1), []) ::
  (9, .if_icmp .eq 13, 3, 22, 0, 0, .inl 0, []) ::
  (12, .aload_n 0, 1, 0, 0, 0, .inl 0, []) ::
  (13, .iconst 1, 1, 0, 0, 0, .inl (nI 1), []) ::
  (14, .bipush 9, 2, 0, 0, 0, .inl (nI 9), []) ::
  (16, .invokevirtual 171, 3, 229, 3, 1, .inl 0, [1410, 8]) ::
  (19, .ifCond .ne 5, 3, 24, 0, 0, .inl 0, []) :: s_X9_readTakes_22) ls st μ := by rw [s_X9_readTakes_0]
theorem v_X9_readTakes_0 : vc X P m_X9_readTakes h K k_X9_readTakes S (n + 1) 0 ls st μ = if 0 ∈ S then mAt X m_X9_readTakes h K 0 ls st μ else bb X P m_X9_readTakes h K (vc X P m_X9_readTakes h K k_X9_readTakes S n) s_X9_readTakes_0 ls st μ := by rw [vc_s, t_X9_readTakes_0]
theorem w_X9_readTakes_22 : bb X P m_X9_readTakes h K J s_X9_readTakes_22 ls st μ = bb X P m_X9_readTakes h K J ((22, .iconst 0, 1, 0, 0, 0, .inl (nI 0), []) ::
  (23, .ireturn, 1, 1, 0, 0, .inl 0, []) :: s_X9_readTakes_24) ls st μ := by rw [s_X9_readTakes_22]
theorem v_X9_readTakes_22 : vc X P m_X9_readTakes h K k_X9_readTakes S (n + 1) 22 ls st μ = if 22 ∈ S then mAt X m_X9_readTakes h K 22 ls st μ else bb X P m_X9_readTakes h K (vc X P m_X9_readTakes h K k_X9_readTakes S n) s_X9_readTakes_22 ls st μ := by rw [vc_s, t_X9_readTakes_22]
theorem w_X9_readTakes_24 : bb X P m_X9_readTakes h K J s_X9_readTakes_24 ls st μ = bb X P m_X9_readTakes h K J ((24, .aload_n 0, 1, 0, 0, 0, .inl 0, []) ::
  (25, .getfield 16, 3, 8, 15, 3, .inr (.inr (16, 278, 3)), [1211]) ::
  (28, .bipush 38, 2, 0, 0, 0, .inl (nI 38), []) ::
  (30, .iload_n 1, 1, 1, 0, 0, .inl 0, []) ::
  (31, .iadd, 1, 0, 0, 0, .inl 0, []) ::
  (32, .aload_n 0, 1, 0, 0, 0, .inl 0, []) ::
  (33, .getfield 147, 3, 8, 13, 0, .inl 0, [1209]) ::
  (36, .iastore, 1, 0, 0, 0, .inl 0, []) ::
  (37, .aload_n 0, 1, 0, 0, 0, .inl 0, []) ::
  (38, .aload_n 0, 1, 0, 0, 0, .inl 0, []) ::
  (39, .getfield 147, 3, 8, 13, 0, .inl 0, [1209]) ::
  (42, .bipush 99, 2, 0, 0, 0, .inl (nI 99), []) ::
  (44, .invokevirtual 171, 3, 229, 3, 1, .inl 0, [1410, 8]) ::
  (47, .ifCond .ne 5, 3, 52, 0, 0, .inl 0, []) ::
  (50, .iconst 0, 1, 0, 0, 0, .inl (nI 0), []) ::
  (51, .ireturn, 1, 1, 0, 0, .inl 0, []) :: s_X9_readTakes_52) ls st μ := by rw [s_X9_readTakes_24]
theorem v_X9_readTakes_24 : vc X P m_X9_readTakes h K k_X9_readTakes S (n + 1) 24 ls st μ = if 24 ∈ S then mAt X m_X9_readTakes h K 24 ls st μ else bb X P m_X9_readTakes h K (vc X P m_X9_readTakes h K k_X9_readTakes S n) s_X9_readTakes_24 ls st μ := by rw [vc_s, t_X9_readTakes_24]
theorem w_X9_readTakes_52 : bb X P m_X9_readTakes h K J s_X9_readTakes_52 ls st μ = bb X P m_X9_readTakes h K J ((52, .aload_n 0, 1, 0, 0, 0, .inl 0, []) ::
  (53, .getfield 16, 3, 8, 15, 3, .inr (.inr (16, 278, 3)), [1211]) ::
  (56, .bipush 86, 2, 0, 0, 0, .inl (nI 86), []) ::
  (58, .iload_n 1, 1, 1, 0, 0, .inl 0, []) ::
  (59, .iadd, 1, 0, 0, 0, .inl 0, []) ::
  (60, .aload_n 0, 1, 0, 0, 0, .inl 0, []) ::
  (61, .getfield 147, 3, 8, 13, 0, .inl 0, [1209]) ::
  (64, .iastore, 1, 0, 0, 0, .inl 0, []) ::
  (65, .aload_n 0, 1, 0, 0, 0, .inl 0, []) ::
  (66, .iconst 0, 1, 0, 0, 0, .inl (nI 0), []) ::
  (67, .aload_n 0, 1, 0, 0, 0, .inl 0, []) ::
  (68, .getfield 147, 3, 8, 13, 0, .inl 0, [1209]) ::
  (71, .invokevirtual 171, 3, 229, 3, 1, .inl 0, [1410, 8]) ::
  (74, .ifCond .ne 5, 3, 79, 0, 0, .inl 0, []) ::
  (77, .iconst 0, 1, 0, 0, 0, .inl (nI 0), []) ::
  (78, .ireturn, 1, 1, 0, 0, .inl 0, []) :: s_X9_readTakes_79) ls st μ := by rw [s_X9_readTakes_52]
theorem v_X9_readTakes_52 : vc X P m_X9_readTakes h K k_X9_readTakes S (n + 1) 52 ls st μ = if 52 ∈ S then mAt X m_X9_readTakes h K 52 ls st μ else bb X P m_X9_readTakes h K (vc X P m_X9_readTakes h K k_X9_readTakes S n) s_X9_readTakes_52 ls st μ := by rw [vc_s, t_X9_readTakes_52]
theorem w_X9_readTakes_79 : bb X P m_X9_readTakes h K J s_X9_readTakes_79 ls st μ = bb X P m_X9_readTakes h K J ((79, .aload_n 0, 1, 0, 0, 0, .inl 0, []) ::
  (80, .getfield 16, 3, 8, 15, 3, .inr (.inr (16, 278, 3)), [1211]) ::
  (83, .sipush 134, 3, 0, 0, 0, .inl (nI 134), []) ::
  (86, .iload_n 1, 1, 1, 0, 0, .inl 0, []) ::
  (87, .iadd, 1, 0, 0, 0, .inl 0, []) ::
  (88, .aload_n 0, 1, 0, 0, 0, .inl 0, []) ::
  (89, .getfield 147, 3, 8, 13, 0, .inl 0, [1209]) ::
  (92, .iastore, 1, 0, 0, 0, .inl 0, []) ::
  (93, .aload_n 0, 1, 0, 0, 0, .inl 0, []) ::
  (94, .getfield 16, 3, 8, 15, 3, .inr (.inr (16, 278, 3)), [1211]) ::
  (97, .iconst 3, 1, 0, 0, 0, .inl (nI 3), []) ::
  (98, .dup2, 1, 0, 0, 0, .inl 0, []) ::
  (99, .iaload, 1, 0, 0, 0, .inl 0, []) ::
  (100, .iconst 1, 1, 0, 0, 0, .inl (nI 1), []) ::
  (101, .iadd, 1, 0, 0, 0, .inl 0, []) ::
  (102, .iastore, 1, 0, 0, 0, .inl 0, []) ::
  (103, .iconst 1, 1, 0, 0, 0, .inl (nI 1), []) ::
  (104, .ireturn, 1, 1, 0, 0, .inl 0, []) :: []) ls st μ := by rw [s_X9_readTakes_79]
theorem v_X9_readTakes_79 : vc X P m_X9_readTakes h K k_X9_readTakes S (n + 1) 79 ls st μ = if 79 ∈ S then mAt X m_X9_readTakes h K 79 ls st μ else bb X P m_X9_readTakes h K (vc X P m_X9_readTakes h K k_X9_readTakes S n) s_X9_readTakes_79 ls st μ := by rw [vc_s, t_X9_readTakes_79]
end
section
variable {X : mC} {P : mP} {h : Nat} {K : MV → Mem → Prop} {J : mJ} {ls : List (Nat × MV)} {st : List MV} {μ : Mem} {S : List Nat} {n : Nat}
theorem w_X9_readWork_0 : bb X P m_X9_readWork h K J s_X9_readWork_0 ls st μ = bb X P m_X9_readWork h K J ((0, .aload_n 0, 1, 0, 0, 0, .inl 0, []) ::
  (1, .getfield 16, 3, 8, 15, 3, .inr (.inr (16, 278, 3)), [1211]) ::
  (4, .iconst 1, 1, 0, 0, 0, .inl (nI 1), []) ::
  (5, .iaload, 1, 0, 0, 0, .inl 0, []) ::
  (6, .istore_n 1, 1, 1, 0, 0, .inl 0, []) ::
  (7, .iload_n 1, 1, 1, 0, 0, .inl 0, []) ::
  (8, .bipush 8, 2, 0, 0, 0, .inl (nI 8), []) ::
  (10, .if_icmp .ne 9, 3, 19, 0, 0, .inl 0, []) ::
  (13, .aload_n 0, 1, 0, 0, 0, .inl 0, []) ::
  (14, .iconst 4, 1, 0, 0, 0, .inl (nI 4), []) ::
  (15, .invokevirtual 140, 3, 140, 2, 1, .inl 0, [1395, 8]) ::
  (18, .ireturn, 1, 1, 0, 0, .inl 0, []) :: s_X9_readWork_19) ls st μ := by rw [s_X9_readWork_0]
theorem v_X9_readWork_0 : vc X P m_X9_readWork h K k_X9_readWork S (n + 1) 0 ls st μ = if 0 ∈ S then mAt X m_X9_readWork h K 0 ls st μ else bb X P m_X9_readWork h K (vc X P m_X9_readWork h K k_X9_readWork S n) s_X9_readWork_0 ls st μ := by rw [vc_s, t_X9_readWork_0]
theorem w_X9_readWork_19 : bb X P m_X9_readWork h K J s_X9_readWork_19 ls st μ = bb X P m_X9_readWork h K J ((19, .aload_n 0, 1, 0, 0, 0, .inl 0, []) ::
  (20, .invokevirtual 150, 3, 162, 1, 0, .inl 0, [1361, 8]) ::
  (23, .aload_n 0, 1, 0, 0, 0, .inl 0, []) ::
  (24, .bipush 6, 2, 0, 0, 0, .inl (nI 6), []) ::
  (26, .iload_n 1, 1, 1, 0, 0, .inl 0, []) ::
  (27, .iadd, 1, 0, 0, 0, .inl 0, []) ::
  (28, .invokevirtual 168, 3, 227, 2, 1, .inl 0, [1399, 8]) ::
  (31, .ifCond .ne 5, 3, 36, 0, 0, .inl 0, []) ::
  (34, .iconst 0, 1, 0, 0, 0, .inl (nI 0), []) ::
  (35, .ireturn, 1, 1, 0, 0, .inl 0, []) :: s_X9_readWork_36) ls st μ := by rw [s_X9_readWork_19]
theorem v_X9_readWork_19 : vc X P m_X9_readWork h K k_X9_readWork S (n + 1) 19 ls st μ = if 19 ∈ S then mAt X m_X9_readWork h K 19 ls st μ else bb X P m_X9_readWork h K (vc X P m_X9_readWork h K k_X9_readWork S n) s_X9_readWork_19 ls st μ := by rw [vc_s, t_X9_readWork_19]
theorem w_X9_readWork_36 : bb X P m_X9_readWork h K J s_X9_readWork_36 ls st μ = bb X P m_X9_readWork h K J ((36, .aload_n 0, 1, 0, 0, 0, .inl 0, []) ::
  (37, .getfield 16, 3, 8, 15, 3, .inr (.inr (16, 278, 3)), [1211]) ::
  (40, .bipush 14, 2, 0, 0, 0, .inl (nI 14), []) ::
  (42, .iload_n 1, 1, 1, 0, 0, .inl 0, []) ::
  (43, .iadd, 1, 0, 0, 0, .inl 0, []) ::
  (44, .iconst 0, 1, 0, 0, 0, .inl (nI 0), []) ::
  (45, .iastore, 1, 0, 0, 0, .inl 0, []) ::
  (46, .aload_n 0, 1, 0, 0, 0, .inl 0, []) ::
  (47, .getfield 16, 3, 8, 15, 3, .inr (.inr (16, 278, 3)), [1211]) ::
  (50, .bipush 22, 2, 0, 0, 0, .inl (nI 22), []) ::
  (52, .iload_n 1, 1, 1, 0, 0, .inl 0, []) ::
  (53, .iadd, 1, 0, 0, 0, .inl 0, []) ::
  (54, .bipush 11, 2, 0, 0, 0, .inl (nI 11), []) ::
  (56, .iastore, 1, 0, 0, 0, .inl 0, []) ::
  (57, .aload_n 0, 1, 0, 0, 0, .inl 0, []) ::
  (58, .getfield 98, 3, 8, 7, 0, .inl 0, [1203]) ::
  (61, .iconst 3, 1, 0, 0, 0, .inl (nI 3), []) ::
  (62, .if_icmp .ne 56, 3, 118, 0, 0, .inl 0, []) ::
  (65, .aload_n 0, 1, 0, 0, 0, .inl 0, []) ::
  (66, .iconst 0, 1, 0, 0, 0, .inl (nI 0), []) ::
  (67, .bipush 11, 2, 0, 0, 0, .inl (nI 11), []) ::
  (69, .invokevirtual 171, 3, 229, 3, 1, .inl 0, [1410, 8]) ::
  (72, .ifCond .ne 5, 3, 77, 0, 0, .inl 0, []) ::
  (75, .iconst 0, 1, 0, 0, 0, .inl (nI 0), []) ::
  (76, .ireturn, 1, 1, 0, 0, .inl 0, []) :: s_X9_readWork_77) ls st μ := by rw [s_X9_readWork_36]
theorem v_X9_readWork_36 : vc X P m_X9_readWork h K k_X9_readWork S (n + 1) 36 ls st μ = if 36 ∈ S then mAt X m_X9_readWork h K 36 ls st μ else bb X P m_X9_readWork h K (vc X P m_X9_readWork h K k_X9_readWork S n) s_X9_readWork_36 ls st μ := by rw [vc_s, t_X9_readWork_36]
theorem w_X9_readWork_77 : bb X P m_X9_readWork h K J s_X9_readWork_77 ls st μ = bb X P m_X9_readWork h K J ((77, .aload_n 0, 1, 0, 0, 0, .inl 0, []) ::
  (78, .getfield 16, 3, 8, 15, 3, .inr (.inr (16, 278, 3)), [1211]) ::
  (81, .bipush 14, 2, 0, 0, 0, .inl (nI 14), []) ::
  (83, .iload_n 1, 1, 1, 0, 0, .inl 0, []) ::
  (84, .iadd, 1, 0, 0, 0, .inl 0, []) ::
  (85, .aload_n 0, 1, 0, 0, 0, .inl 0, []) ::
  (86, .getfield 147, 3, 8, 13, 0, .inl 0, [1209]) ::
  (89, .iastore, 1, 0, 0, 0, .inl 0, []) ::
  (90, .aload_n 0, 1, 0, 0, 0, .inl 0, []) ::
  (91, .aload_n 0, 1, 0, 0, 0, .inl 0, []) ::
  (92, .getfield 147, 3, 8, 13, 0, .inl 0, [1209]) ::
  (95, .bipush 11, 2, 0, 0, 0, .inl (nI 11), []) ::
  (97, .invokevirtual 171, 3, 229, 3, 1, .inl 0, [1410, 8]) ::
  (100, .ifCond .ne 5, 3, 105, 0, 0, .inl 0, []) ::
  (103, .iconst 0, 1, 0, 0, 0, .inl (nI 0), []) ::
  (104, .ireturn, 1, 1, 0, 0, .inl 0, []) :: s_X9_readWork_105) ls st μ := by rw [s_X9_readWork_77]
theorem v_X9_readWork_77 : vc X P m_X9_readWork h K k_X9_readWork S (n + 1) 77 ls st μ = if 77 ∈ S then mAt X m_X9_readWork h K 77 ls st μ else bb X P m_X9_readWork h K (vc X P m_X9_readWork h K k_X9_readWork S n) s_X9_readWork_77 ls st μ := by rw [vc_s, t_X9_readWork_77]
theorem w_X9_readWork_105 : bb X P m_X9_readWork h K J s_X9_readWork_105 ls st μ = bb X P m_X9_readWork h K J ((105, .aload_n 0, 1, 0, 0, 0, .inl 0, []) ::
  (106, .getfield 16, 3, 8, 15, 3, .inr (.inr (16, 278, 3)), [1211]) ::
  (109, .bipush 22, 2, 0, 0, 0, .inl (nI 22), []) ::
  (111, .iload_n 1, 1, 1, 0, 0, .inl 0, []) ::
  (112, .iadd, 1, 0, 0, 0, .inl 0, []) ::
  (113, .aload_n 0, 1, 0, 0, 0, .inl 0, []) ::
  (114, .getfield 147, 3, 8, 13, 0, .inl 0, [1209]) ::
  (117, .iastore, 1, 0, 0, 0, .inl 0, []) :: s_X9_readWork_118) ls st μ := by rw [s_X9_readWork_105]
theorem v_X9_readWork_105 : vc X P m_X9_readWork h K k_X9_readWork S (n + 1) 105 ls st μ = if 105 ∈ S then mAt X m_X9_readWork h K 105 ls st μ else bb X P m_X9_readWork h K (vc X P m_X9_readWork h K k_X9_readWork S n) s_X9_readWork_105 ls st μ := by rw [vc_s, t_X9_readWork_105]
theorem w_X9_readWork_118 : bb X P m_X9_readWork h K J s_X9_readWork_118 ls st μ = bb X P m_X9_readWork h K J ((118, .aload_n 0, 1, 0, 0, 0, .inl 0, []) ::
  (119, .getfield 16, 3, 8, 15, 3, .inr (.inr (16, 278, 3)), [1211]) ::
  (122, .iconst 1, 1, 0, 0, 0, .inl (nI 1), []) ::
  (123, .dup2, 1, 0, 0, 0, .inl 0, []) ::
  (124, .iaload, 1, 0, 0, 0, .inl 0, []) ::
  (125, .iconst 1, 1, 0, 0, 0, .inl (nI 1), []) ::
  (126, .iadd, 1, 0, 0, 0, .inl 0, []) ::
  (127, .iastore, 1, 0, 0, 0, .inl 0, []) ::
  (128, .iconst 1, 1, 0, 0, 0, .inl (nI 1), []) ::
  (129, .ireturn, 1, 1, 0, 0, .inl 0, []) :: []) ls st μ := by rw [s_X9_readWork_118]
theorem v_X9_readWork_118 : vc X P m_X9_readWork h K k_X9_readWork S (n + 1) 118 ls st μ = if 118 ∈ S then mAt X m_X9_readWork h K 118 ls st μ else bb X P m_X9_readWork h K (vc X P m_X9_readWork h K k_X9_readWork S n) s_X9_readWork_118 ls st μ := by rw [vc_s, t_X9_readWork_118]
end
section
variable {X : mC} {P : mP} {h : Nat} {K : MV → Mem → Prop} {J : mJ} {ls : List (Nat × MV)} {st : List MV} {μ : Mem} {S : List Nat} {n : Nat}
theorem w_X9_refuse_0 : bb X P m_X9_refuse h K J s_X9_refuse_0 ls st μ = bb X P m_X9_refuse h K J ((0, .aload_n 0, 1, 0, 0, 0, .inl 0, []) ::
  (1, .iconst 1, 1, 0, 0, 0, .inl (nI 1), []) ::
  (2, .putfield 76, 3, 8, 0, 0, .inl 0, [1196]) ::
  (5, .iconst 0, 1, 0, 0, 0, .inl (nI 0), []) ::
  (6, .ireturn, 1, 0, 0, 0, .inl 0, []) :: []) ls st μ := by rw [s_X9_refuse_0]
theorem v_X9_refuse_0 : vc X P m_X9_refuse h K k_X9_refuse S (n + 1) 0 ls st μ = if 0 ∈ S then mAt X m_X9_refuse h K 0 ls st μ else bb X P m_X9_refuse h K (vc X P m_X9_refuse h K k_X9_refuse S n) s_X9_refuse_0 ls st μ := by rw [vc_s, t_X9_refuse_0]
end
section
variable {X : mC} {P : mP} {h : Nat} {K : MV → Mem → Prop} {J : mJ} {ls : List (Nat × MV)} {st : List MV} {μ : Mem} {S : List Nat} {n : Nat}
theorem w_X9_rest_0 : bb X P m_X9_rest h K J s_X9_rest_0 ls st μ = bb X P m_X9_rest h K J ((0, .aload_n 0, 1, 0, 0, 0, .inl 0, []) ::
  (1, .iconst 0, 1, 0, 0, 0, .inl (nI 0), []) ::
  (2, .putfield 76, 3, 8, 0, 0, .inl 0, [1196]) ::
  (5, .aload_n 0, 1, 0, 0, 0, .inl 0, []) ::
  (6, .invokevirtual 219, 3, 253, 1, 1, .inl 0, [1472, 8]) ::
  (9, .ifCond .ne 5, 3, 14, 0, 0, .inl 0, []) ::
  (12, .iconst (-1), 1, 0, 0, 0, .inl (-1), []) ::
  (13, .ireturn, 1, 0, 0, 0, .inl 0, []) :: s_X9_rest_14) ls st μ := by rw [s_X9_rest_0]
theorem v_X9_rest_0 : vc X P m_X9_rest h K k_X9_rest S (n + 1) 0 ls st μ = if 0 ∈ S then mAt X m_X9_rest h K 0 ls st μ else bb X P m_X9_rest h K (vc X P m_X9_rest h K k_X9_rest S n) s_X9_rest_0 ls st μ := by rw [vc_s, t_X9_rest_0]
theorem w_X9_rest_14 : bb X P m_X9_rest h K J s_X9_rest_14 ls st μ = bb X P m_X9_rest h K J ((14, .iconst 0, 1, 0, 0, 0, .inl (nI 0), []) ::
  (15, .istore_n 1, 1, 1, 0, 0, .inl 0, []) ::
  (16, .iconst (-1), 1, 0, 0, 0, .inl (-1), []) ::
  (17, .istore_n 2, 1, 2, 0, 0, .inl 0, []) ::
  (18, .iconst 0, 1, 0, 0, 0, .inl (nI 0), []) ::
  (19, .istore_n 3, 1, 3, 0, 0, .inl 0, []) :: s_X9_rest_20) ls st μ := by rw [s_X9_rest_14]
theorem v_X9_rest_14 : vc X P m_X9_rest h K k_X9_rest S (n + 1) 14 ls st μ = if 14 ∈ S then mAt X m_X9_rest h K 14 ls st μ else bb X P m_X9_rest h K (vc X P m_X9_rest h K k_X9_rest S n) s_X9_rest_14 ls st μ := by rw [vc_s, t_X9_rest_14]
theorem w_X9_rest_20 : bb X P m_X9_rest h K J s_X9_rest_20 ls st μ = bb X P m_X9_rest h K J ((20, .iload_n 3, 1, 3, 0, 0, .inl 0, []) ::
  (21, .bipush 7, 2, 0, 0, 0, .inl (nI 7), []) ::
  (23, .if_icmp .ge 40, 3, 63, 0, 0, .inl 0, []) ::
  (26, .aload_n 0, 1, 0, 0, 0, .inl 0, []) ::
  (27, .invokevirtual 285, 3, 196, 1, 0, .inl 0, [1504, 8]) ::
  (30, .aload_n 0, 1, 0, 0, 0, .inl 0, []) ::
  (31, .iload_n 3, 1, 3, 0, 0, .inl 0, []) ::
  (32, .putfield 240, 3, 8, 28, 0, .inl 0, [1224]) ::
  (35, .aload_n 0, 1, 0, 0, 0, .inl 0, []) ::
  (36, .bipush 84, 2, 0, 0, 0, .inl (nI 84), []) ::
  (38, .invokevirtual 297, 3, 238, 2, 1, .inl 0, [1621, 8]) ::
  (41, .istore 4, 2, 4, 0, 0, .inl 0, []) ::
  (43, .iload 4, 2, 4, 0, 0, .inl 0, []) ::
  (45, .iload_n 2, 1, 2, 0, 0, .inl 0, []) ::
  (46, .if_icmp .gt 6, 3, 52, 0, 0, .inl 0, []) ::
  (49, .goto 8, 3, 57, 0, 0, .inl 0, []) :: s_X9_rest_52) ls st μ := by rw [s_X9_rest_20]
theorem v_X9_rest_20 : vc X P m_X9_rest h K k_X9_rest S (n + 1) 20 ls st μ = if 20 ∈ S then mAt X m_X9_rest h K 20 ls st μ else bb X P m_X9_rest h K (vc X P m_X9_rest h K k_X9_rest S n) s_X9_rest_20 ls st μ := by rw [vc_s, t_X9_rest_20]
theorem w_X9_rest_52 : bb X P m_X9_rest h K J s_X9_rest_52 ls st μ = bb X P m_X9_rest h K J ((52, .iload 4, 2, 4, 0, 0, .inl 0, []) ::
  (54, .istore_n 2, 1, 2, 0, 0, .inl 0, []) ::
  (55, .iload_n 3, 1, 3, 0, 0, .inl 0, []) ::
  (56, .istore_n 1, 1, 1, 0, 0, .inl 0, []) :: s_X9_rest_57) ls st μ := by rw [s_X9_rest_52]
theorem v_X9_rest_52 : vc X P m_X9_rest h K k_X9_rest S (n + 1) 52 ls st μ = if 52 ∈ S then mAt X m_X9_rest h K 52 ls st μ else bb X P m_X9_rest h K (vc X P m_X9_rest h K k_X9_rest S n) s_X9_rest_52 ls st μ := by rw [vc_s, t_X9_rest_52]
theorem w_X9_rest_57 : bb X P m_X9_rest h K J s_X9_rest_57 ls st μ = bb X P m_X9_rest h K J ((57, .iinc 3 1, 3, 3, 0, 0, .inl (nI 1), []) ::
  (60, .goto (-40), 3, 20, 0, 0, .inl 0, []) :: s_X9_rest_63) ls st μ := by rw [s_X9_rest_57]
theorem v_X9_rest_57 : vc X P m_X9_rest h K k_X9_rest S (n + 1) 57 ls st μ = if 57 ∈ S then mAt X m_X9_rest h K 57 ls st μ else bb X P m_X9_rest h K (vc X P m_X9_rest h K k_X9_rest S n) s_X9_rest_57 ls st μ := by rw [vc_s, t_X9_rest_57]
theorem w_X9_rest_63 : bb X P m_X9_rest h K J s_X9_rest_63 ls st μ = bb X P m_X9_rest h K J ((63, .iload_n 1, 1, 1, 0, 0, .inl 0, []) ::
  (64, .ireturn, 1, 0, 0, 0, .inl 0, []) :: []) ls st μ := by rw [s_X9_rest_63]
theorem v_X9_rest_63 : vc X P m_X9_rest h K k_X9_rest S (n + 1) 63 ls st μ = if 63 ∈ S then mAt X m_X9_rest h K 63 ls st μ else bb X P m_X9_rest h K (vc X P m_X9_rest h K k_X9_rest S n) s_X9_rest_63 ls st μ := by rw [vc_s, t_X9_rest_63]
end
section
variable {X : mC} {P : mP} {h : Nat} {K : MV → Mem → Prop} {J : mJ} {ls : List (Nat × MV)} {st : List MV} {μ : Mem} {S : List Nat} {n : Nat}
theorem w_X9_restore_0 : bb X P m_X9_restore h K J s_X9_restore_0 ls st μ = bb X P m_X9_restore h K J ((0, .aload_n 0, 1, 0, 0, 0, .inl 0, []) ::
  (1, .iconst 0, 1, 0, 0, 0, .inl (nI 0), []) ::
  (2, .putfield 76, 3, 8, 0, 0, .inl 0, [1196]) ::
  (5, .iload_n 1, 1, 1, 0, 0, .inl 0, []) ::
  (6, .iconst 0, 1, 0, 0, 0, .inl (nI 0), []) ::
  (7, .iconst 1, 1, 0, 0, 0, .inl (nI 1), []) ::
  (8, .invokestatic 143, 3, 177, 3, 1, .inl 0, [1414]) ::
  (11, .ifCond .eq 12, 3, 23, 0, 0, .inl 0, []) ::
  (14, .aload_n 0, 1, 0, 0, 0, .inl 0, []) ::
  (15, .getfield 35, 3, 8, 21, 3, .inr (.inr (18, 2, 9)), [1217]) ::
  (18, .iload_n 1, 1, 1, 0, 0, .inl 0, []) ::
  (19, .baload, 1, 0, 0, 0, .inl 0, []) ::
  (20, .ifCond .ne 5, 3, 25, 0, 0, .inl 0, []) :: s_X9_restore_23) ls st μ := by rw [s_X9_restore_0]
theorem v_X9_restore_0 : vc X P m_X9_restore h K k_X9_restore S (n + 1) 0 ls st μ = if 0 ∈ S then mAt X m_X9_restore h K 0 ls st μ else bb X P m_X9_restore h K (vc X P m_X9_restore h K k_X9_restore S n) s_X9_restore_0 ls st μ := by rw [vc_s, t_X9_restore_0]
theorem w_X9_restore_23 : bb X P m_X9_restore h K J s_X9_restore_23 ls st μ = bb X P m_X9_restore h K J ((23, .iconst 0, 1, 0, 0, 0, .inl (nI 0), []) ::
  (24, .ireturn, 1, 1, 0, 0, .inl 0, []) :: s_X9_restore_25) ls st μ := by rw [s_X9_restore_23]
theorem v_X9_restore_23 : vc X P m_X9_restore h K k_X9_restore S (n + 1) 23 ls st μ = if 23 ∈ S then mAt X m_X9_restore h K 23 ls st μ else bb X P m_X9_restore h K (vc X P m_X9_restore h K k_X9_restore S n) s_X9_restore_23 ls st μ := by rw [vc_s, t_X9_restore_23]
theorem w_X9_restore_25 : bb X P m_X9_restore h K J s_X9_restore_25 ls st μ = bb X P m_X9_restore h K J ((25, .iconst 0, 1, 0, 0, 0, .inl (nI 0), []) ::
  (26, .istore_n 2, 1, 2, 0, 0, .inl 0, []) :: s_X9_restore_27) ls st μ := by rw [s_X9_restore_25]
theorem v_X9_restore_25 : vc X P m_X9_restore h K k_X9_restore S (n + 1) 25 ls st μ = if 25 ∈ S then mAt X m_X9_restore h K 25 ls st μ else bb X P m_X9_restore h K (vc X P m_X9_restore h K k_X9_restore S n) s_X9_restore_25 ls st μ := by rw [vc_s, t_X9_restore_25]
theorem w_X9_restore_27 : bb X P m_X9_restore h K J s_X9_restore_27 ls st μ = bb X P m_X9_restore h K J ((27, .iload_n 2, 1, 2, 0, 0, .inl 0, []) ::
  (28, .sipush 925, 3, 0, 0, 0, .inl (nI 925), []) ::
  (31, .if_icmp .ge 27, 3, 58, 0, 0, .inl 0, []) ::
  (34, .aload_n 0, 1, 0, 0, 0, .inl 0, []) ::
  (35, .getfield 13, 3, 8, 14, 3, .inr (.inr (16, 925, 2)), [1210]) ::
  (38, .iload_n 2, 1, 2, 0, 0, .inl 0, []) ::
  (39, .aload_n 0, 1, 0, 0, 0, .inl 0, []) ::
  (40, .getfield 22, 3, 8, 17, 3, .inr (.inr (16, 1850, 5)), [1213]) ::
  (43, .sipush 925, 3, 0, 0, 0, .inl (nI 925), []) ::
  (46, .iload_n 1, 1, 1, 0, 0, .inl 0, []) ::
  (47, .imul, 1, 0, 0, 0, .inl 0, []) ::
  (48, .iload_n 2, 1, 2, 0, 0, .inl 0, []) ::
  (49, .iadd, 1, 0, 0, 0, .inl 0, []) ::
  (50, .iaload, 1, 0, 0, 0, .inl 0, []) ::
  (51, .iastore, 1, 0, 0, 0, .inl 0, []) ::
  (52, .iinc 2 1, 3, 2, 0, 0, .inl (nI 1), []) ::
  (55, .goto (-28), 3, 27, 0, 0, .inl 0, []) :: s_X9_restore_58) ls st μ := by rw [s_X9_restore_27]
theorem v_X9_restore_27 : vc X P m_X9_restore h K k_X9_restore S (n + 1) 27 ls st μ = if 27 ∈ S then mAt X m_X9_restore h K 27 ls st μ else bb X P m_X9_restore h K (vc X P m_X9_restore h K k_X9_restore S n) s_X9_restore_27 ls st μ := by rw [vc_s, t_X9_restore_27]
theorem w_X9_restore_58 : bb X P m_X9_restore h K J s_X9_restore_58 ls st μ = bb X P m_X9_restore h K J ((58, .iconst 0, 1, 0, 0, 0, .inl (nI 0), []) ::
  (59, .istore_n 2, 1, 2, 0, 0, .inl 0, []) :: s_X9_restore_60) ls st μ := by rw [s_X9_restore_58]
theorem v_X9_restore_58 : vc X P m_X9_restore h K k_X9_restore S (n + 1) 58 ls st μ = if 58 ∈ S then mAt X m_X9_restore h K 58 ls st μ else bb X P m_X9_restore h K (vc X P m_X9_restore h K k_X9_restore S n) s_X9_restore_58 ls st μ := by rw [vc_s, t_X9_restore_58]
theorem w_X9_restore_60 : bb X P m_X9_restore h K J s_X9_restore_60 ls st μ = bb X P m_X9_restore h K J ((60, .iload_n 2, 1, 2, 0, 0, .inl 0, []) ::
  (61, .bipush 14, 2, 0, 0, 0, .inl (nI 14), []) ::
  (63, .if_icmp .ge 26, 3, 89, 0, 0, .inl 0, []) ::
  (66, .aload_n 0, 1, 0, 0, 0, .inl 0, []) ::
  (67, .getfield 25, 3, 8, 18, 3, .inr (.inr (17, 14, 6)), [1214]) ::
  (70, .iload_n 2, 1, 2, 0, 0, .inl 0, []) ::
  (71, .aload_n 0, 1, 0, 0, 0, .inl 0, []) ::
  (72, .getfield 32, 3, 8, 20, 3, .inr (.inr (17, 28, 8)), [1216]) ::
  (75, .bipush 14, 2, 0, 0, 0, .inl (nI 14), []) ::
  (77, .iload_n 1, 1, 1, 0, 0, .inl 0, []) ::
  (78, .imul, 1, 0, 0, 0, .inl 0, []) ::
  (79, .iload_n 2, 1, 2, 0, 0, .inl 0, []) ::
  (80, .iadd, 1, 0, 0, 0, .inl 0, []) ::
  (81, .laload, 1, 0, 0, 0, .inl 0, []) ::
  (82, .lastore, 1, 0, 0, 0, .inl 0, []) ::
  (83, .iinc 2 1, 3, 2, 0, 0, .inl (nI 1), []) ::
  (86, .goto (-26), 3, 60, 0, 0, .inl 0, []) :: s_X9_restore_89) ls st μ := by rw [s_X9_restore_60]
theorem v_X9_restore_60 : vc X P m_X9_restore h K k_X9_restore S (n + 1) 60 ls st μ = if 60 ∈ S then mAt X m_X9_restore h K 60 ls st μ else bb X P m_X9_restore h K (vc X P m_X9_restore h K k_X9_restore S n) s_X9_restore_60 ls st μ := by rw [vc_s, t_X9_restore_60]
theorem w_X9_restore_89 : bb X P m_X9_restore h K J s_X9_restore_89 ls st μ = bb X P m_X9_restore h K J ((89, .iconst 1, 1, 0, 0, 0, .inl (nI 1), []) ::
  (90, .ireturn, 1, 1, 0, 0, .inl 0, []) :: []) ls st μ := by rw [s_X9_restore_89]
theorem v_X9_restore_89 : vc X P m_X9_restore h K k_X9_restore S (n + 1) 89 ls st μ = if 89 ∈ S then mAt X m_X9_restore h K 89 ls st μ else bb X P m_X9_restore h K (vc X P m_X9_restore h K k_X9_restore S n) s_X9_restore_89 ls st μ := by rw [vc_s, t_X9_restore_89]
end
section
variable {X : mC} {P : mP} {h : Nat} {K : MV → Mem → Prop} {J : mJ} {ls : List (Nat × MV)} {st : List MV} {μ : Mem} {S : List Nat} {n : Nat}
theorem w_X9_run_0 : bb X P m_X9_run h K J s_X9_run_0 ls st μ = bb X P m_X9_run h K J ((0, .aload_n 0, 1, 0, 0, 0, .inl 0, []) ::
  (1, .aload_n 0, 1, 0, 0, 0, .inl 0, []) ::
  (2, .getfield 42, 3, 8, 23, 3, .inr (.inr (16, 296, 11)), [1219]) ::
  (5, .iconst 0, 1, 0, 0, 0, .inl (nI 0), []) ::
  (6, .invokevirtual 274, 3, 242, 3, 0, .inl 0, [1508, 8]) ::
  (9, .iconst 0, 1, 0, 0, 0, .inl (nI 0), []) ::
  (10, .istore_n 2, 1, 2, 0, 0, .inl 0, []) :: s_X9_run_11) ls st μ := by rw [s_X9_run_0]
theorem v_X9_run_0 : vc X P m_X9_run h K k_X9_run S (n + 1) 0 ls st μ = if 0 ∈ S then mAt X m_X9_run h K 0 ls st μ else bb X P m_X9_run h K (vc X P m_X9_run h K k_X9_run S n) s_X9_run_0 ls st μ := by rw [vc_s, t_X9_run_0]
theorem w_X9_run_11 : bb X P m_X9_run h K J s_X9_run_11 ls st μ = bb X P m_X9_run h K J ((11, .iload_n 2, 1, 2, 0, 0, .inl 0, []) ::
  (12, .iload_n 1, 1, 1, 0, 0, .inl 0, []) ::
  (13, .if_icmp .ge 18, 3, 31, 0, 0, .inl 0, []) ::
  (16, .aload_n 0, 1, 0, 0, 0, .inl 0, []) ::
  (17, .aload_n 0, 1, 0, 0, 0, .inl 0, []) ::
  (18, .getfield 42, 3, 8, 23, 3, .inr (.inr (16, 296, 11)), [1219]) ::
  (21, .iconst 0, 1, 0, 0, 0, .inl (nI 0), []) ::
  (22, .invokevirtual 278, 3, 171, 3, 0, .inl 0, [1520, 8]) ::
  (25, .iinc 2 1, 3, 2, 0, 0, .inl (nI 1), []) ::
  (28, .goto (-17), 3, 11, 0, 0, .inl 0, []) :: s_X9_run_31) ls st μ := by rw [s_X9_run_11]
theorem v_X9_run_11 : vc X P m_X9_run h K k_X9_run S (n + 1) 11 ls st μ = if 11 ∈ S then mAt X m_X9_run h K 11 ls st μ else bb X P m_X9_run h K (vc X P m_X9_run h K k_X9_run S n) s_X9_run_11 ls st μ := by rw [vc_s, t_X9_run_11]
theorem w_X9_run_31 : bb X P m_X9_run h K J s_X9_run_31 ls st μ = bb X P m_X9_run h K J ((31, .aload_n 0, 1, 0, 0, 0, .inl 0, []) ::
  (32, .aload_n 0, 1, 0, 0, 0, .inl 0, []) ::
  (33, .getfield 42, 3, 8, 23, 3, .inr (.inr (16, 296, 11)), [1219]) ::
  (36, .iconst 0, 1, 0, 0, 0, .inl (nI 0), []) ::
  (37, .invokevirtual 281, 3, 205, 3, 1, .inl 0, [1586, 8]) ::
  (40, .ireturn, 1, 0, 0, 0, .inl 0, []) :: []) ls st μ := by rw [s_X9_run_31]
theorem v_X9_run_31 : vc X P m_X9_run h K k_X9_run S (n + 1) 31 ls st μ = if 31 ∈ S then mAt X m_X9_run h K 31 ls st μ else bb X P m_X9_run h K (vc X P m_X9_run h K k_X9_run S n) s_X9_run_31 ls st μ := by rw [vc_s, t_X9_run_31]
end
section
variable {X : mC} {P : mP} {h : Nat} {K : MV → Mem → Prop} {J : mJ} {ls : List (Nat × MV)} {st : List MV} {μ : Mem} {S : List Nat} {n : Nat}
theorem w_X9_said_0 : bb X P m_X9_said h K J s_X9_said_0 ls st μ = bb X P m_X9_said h K J ((0, .aload_n 0, 1, 0, 0, 0, .inl 0, []) ::
  (1, .iconst 0, 1, 0, 0, 0, .inl (nI 0), []) ::
  (2, .putfield 76, 3, 8, 0, 0, .inl 0, [1196]) ::
  (5, .aload_n 0, 1, 0, 0, 0, .inl 0, []) ::
  (6, .getfield 13, 3, 8, 14, 3, .inr (.inr (16, 925, 2)), [1210]) ::
  (9, .sipush 379, 3, 0, 0, 0, .inl (nI 379), []) ::
  (12, .iaload, 1, 0, 0, 0, .inl 0, []) ::
  (13, .ifCond .eq 10, 3, 23, 0, 0, .inl 0, []) ::
  (16, .aload_n 0, 1, 0, 0, 0, .inl 0, []) ::
  (17, .invokevirtual 288, 3, 180, 1, 1, .inl 0, [1516, 8]) ::
  (20, .ifCond .ne 5, 3, 25, 0, 0, .inl 0, []) :: s_X9_said_23) ls st μ := by rw [s_X9_said_0]
theorem v_X9_said_0 : vc X P m_X9_said h K k_X9_said S (n + 1) 0 ls st μ = if 0 ∈ S then mAt X m_X9_said h K 0 ls st μ else bb X P m_X9_said h K (vc X P m_X9_said h K k_X9_said S n) s_X9_said_0 ls st μ := by rw [vc_s, t_X9_said_0]
theorem w_X9_said_23 : bb X P m_X9_said h K J s_X9_said_23 ls st μ = bb X P m_X9_said h K J ((23, .iconst (-1), 1, 0, 0, 0, .inl (-1), []) ::
  (24, .ireturn, 1, 0, 0, 0, .inl 0, []) :: s_X9_said_25) ls st μ := by rw [s_X9_said_23]
theorem v_X9_said_23 : vc X P m_X9_said h K k_X9_said S (n + 1) 23 ls st μ = if 23 ∈ S then mAt X m_X9_said h K 23 ls st μ else bb X P m_X9_said h K (vc X P m_X9_said h K k_X9_said S n) s_X9_said_23 ls st μ := by rw [vc_s, t_X9_said_23]
theorem w_X9_said_25 : bb X P m_X9_said h K J s_X9_said_25 ls st μ = bb X P m_X9_said h K J ((25, .iconst 0, 1, 0, 0, 0, .inl (nI 0), []) ::
  (26, .istore_n 2, 1, 2, 0, 0, .inl 0, []) ::
  (27, .iconst 0, 1, 0, 0, 0, .inl (nI 0), []) ::
  (28, .istore_n 3, 1, 3, 0, 0, .inl 0, []) :: s_X9_said_29) ls st μ := by rw [s_X9_said_25]
theorem v_X9_said_25 : vc X P m_X9_said h K k_X9_said S (n + 1) 25 ls st μ = if 25 ∈ S then mAt X m_X9_said h K 25 ls st μ else bb X P m_X9_said h K (vc X P m_X9_said h K k_X9_said S n) s_X9_said_25 ls st μ := by rw [vc_s, t_X9_said_25]
theorem w_X9_said_29 : bb X P m_X9_said h K J s_X9_said_29 ls st μ = bb X P m_X9_said h K J ((29, .iload_n 3, 1, 3, 0, 0, .inl 0, []) ::
  (30, .aload_n 0, 1, 0, 0, 0, .inl 0, []) ::
  (31, .invokevirtual 219, 3, 253, 1, 1, .inl 0, [1472, 8]) ::
  (34, .if_icmp .ge 38, 3, 72, 0, 0, .inl 0, []) ::
  (37, .aload_n 0, 1, 0, 0, 0, .inl 0, []) ::
  (38, .aload_n 0, 1, 0, 0, 0, .inl 0, []) ::
  (39, .getfield 13, 3, 8, 14, 3, .inr (.inr (16, 925, 2)), [1210]) ::
  (42, .sipush 380, 3, 0, 0, 0, .inl (nI 380), []) ::
  (45, .iaload, 1, 0, 0, 0, .inl 0, []) ::
  (46, .iload_n 3, 1, 3, 0, 0, .inl 0, []) ::
  (47, .invokevirtual 399, 3, 170, 3, 1, .inl 0, [1791, 8]) ::
  (50, .ifCond .ne 6, 3, 56, 0, 0, .inl 0, []) ::
  (53, .goto 13, 3, 66, 0, 0, .inl 0, []) :: s_X9_said_56) ls st μ := by rw [s_X9_said_29]
theorem v_X9_said_29 : vc X P m_X9_said h K k_X9_said S (n + 1) 29 ls st μ = if 29 ∈ S then mAt X m_X9_said h K 29 ls st μ else bb X P m_X9_said h K (vc X P m_X9_said h K k_X9_said S n) s_X9_said_29 ls st μ := by rw [vc_s, t_X9_said_29]
theorem w_X9_said_56 : bb X P m_X9_said h K J s_X9_said_56 ls st μ = bb X P m_X9_said h K J ((56, .iload_n 2, 1, 2, 0, 0, .inl 0, []) ::
  (57, .iload_n 1, 1, 1, 0, 0, .inl 0, []) ::
  (58, .if_icmp .ne 5, 3, 63, 0, 0, .inl 0, []) ::
  (61, .iload_n 3, 1, 3, 0, 0, .inl 0, []) ::
  (62, .ireturn, 1, 0, 0, 0, .inl 0, []) :: s_X9_said_63) ls st μ := by rw [s_X9_said_56]
theorem v_X9_said_56 : vc X P m_X9_said h K k_X9_said S (n + 1) 56 ls st μ = if 56 ∈ S then mAt X m_X9_said h K 56 ls st μ else bb X P m_X9_said h K (vc X P m_X9_said h K k_X9_said S n) s_X9_said_56 ls st μ := by rw [vc_s, t_X9_said_56]
theorem w_X9_said_63 : bb X P m_X9_said h K J s_X9_said_63 ls st μ = bb X P m_X9_said h K J ((63, .iinc 2 1, 3, 2, 0, 0, .inl (nI 1), []) :: s_X9_said_66) ls st μ := by rw [s_X9_said_63]
theorem v_X9_said_63 : vc X P m_X9_said h K k_X9_said S (n + 1) 63 ls st μ = if 63 ∈ S then mAt X m_X9_said h K 63 ls st μ else bb X P m_X9_said h K (vc X P m_X9_said h K k_X9_said S n) s_X9_said_63 ls st μ := by rw [vc_s, t_X9_said_63]
theorem w_X9_said_66 : bb X P m_X9_said h K J s_X9_said_66 ls st μ = bb X P m_X9_said h K J ((66, .iinc 3 1, 3, 3, 0, 0, .inl (nI 1), []) ::
  (69, .goto (-40), 3, 29, 0, 0, .inl 0, []) :: s_X9_said_72) ls st μ := by rw [s_X9_said_66]
theorem v_X9_said_66 : vc X P m_X9_said h K k_X9_said S (n + 1) 66 ls st μ = if 66 ∈ S then mAt X m_X9_said h K 66 ls st μ else bb X P m_X9_said h K (vc X P m_X9_said h K k_X9_said S n) s_X9_said_66 ls st μ := by rw [vc_s, t_X9_said_66]
theorem w_X9_said_72 : bb X P m_X9_said h K J s_X9_said_72 ls st μ = bb X P m_X9_said h K J ((72, .iload_n 1, 1, 1, 0, 0, .inl 0, []) ::
  (73, .iconst (-1), 1, 0, 0, 0, .inl (-1), []) ::
  (74, .if_icmp .ne 7, 3, 81, 0, 0, .inl 0, []) ::
  (77, .iload_n 2, 1, 2, 0, 0, .inl 0, []) ::
  (78, .goto 4, 3, 82, 0, 0, .inl 0, []) :: s_X9_said_81) ls st μ := by rw [s_X9_said_72]
theorem v_X9_said_72 : vc X P m_X9_said h K k_X9_said S (n + 1) 72 ls st μ = if 72 ∈ S then mAt X m_X9_said h K 72 ls st μ else bb X P m_X9_said h K (vc X P m_X9_said h K k_X9_said S n) s_X9_said_72 ls st μ := by rw [vc_s, t_X9_said_72]
theorem w_X9_said_81 : bb X P m_X9_said h K J s_X9_said_81 ls st μ = bb X P m_X9_said h K J ((81, .iconst (-1), 1, 0, 0, 0, .inl (-1), []) :: s_X9_said_82) ls st μ := by rw [s_X9_said_81]
theorem v_X9_said_81 : vc X P m_X9_said h K k_X9_said S (n + 1) 81 ls st μ = if 81 ∈ S then mAt X m_X9_said h K 81 ls st μ else bb X P m_X9_said h K (vc X P m_X9_said h K k_X9_said S n) s_X9_said_81 ls st μ := by rw [vc_s, t_X9_said_81]
theorem w_X9_said_82 : bb X P m_X9_said h K J s_X9_said_82 ls st μ = bb X P m_X9_said h K J ((82, .ireturn, 1, 0, 0, 0, .inl 0, []) :: []) ls st μ := by rw [s_X9_said_82]
theorem v_X9_said_82 : vc X P m_X9_said h K k_X9_said S (n + 1) 82 ls st μ = if 82 ∈ S then mAt X m_X9_said h K 82 ls st μ else bb X P m_X9_said h K (vc X P m_X9_said h K k_X9_said S n) s_X9_said_82 ls st μ := by rw [vc_s, t_X9_said_82]
end
section
variable {X : mC} {P : mP} {h : Nat} {K : MV → Mem → Prop} {J : mJ} {ls : List (Nat × MV)} {st : List MV} {μ : Mem} {S : List Nat} {n : Nat}
theorem w_X9_sentence_0 : bb X P m_X9_sentence h K J s_X9_sentence_0 ls st μ = bb X P m_X9_sentence h K J ((0, .aload_n 0, 1, 0, 0, 0, .inl 0, []) ::
  (1, .sipush 200, 3, 0, 0, 0, .inl (nI 200), []) ::
  (4, .invokevirtual 213, 3, 141, 2, 0, .inl 0, [1353, 8]) ::
  (7, .aload_n 0, 1, 0, 0, 0, .inl 0, []) ::
  (8, .iconst 0, 1, 0, 0, 0, .inl (nI 0), []) ::
  (9, .putfield 362, 3, 8, 41, 0, .inl 0, [1237]) ::
  (12, .aload_n 0, 1, 0, 0, 0, .inl 0, []) ::
  (13, .iconst 0, 1, 0, 0, 0, .inl (nI 0), []) ::
  (14, .putfield 378, 3, 8, 42, 0, .inl 0, [1238]) ::
  (17, .aload_n 0, 1, 0, 0, 0, .inl 0, []) ::
  (18, .iconst 0, 1, 0, 0, 0, .inl (nI 0), []) ::
  (19, .putfield 381, 3, 8, 43, 0, .inl 0, [1239]) ::
  (22, .aload_n 0, 1, 0, 0, 0, .inl 0, []) ::
  (23, .invokevirtual 396, 3, 231, 1, 1, .inl 0, [1755, 8]) ::
  (26, .ifCond .ne 10, 3, 36, 0, 0, .inl 0, []) ::
  (29, .iconst (-1), 1, 0, 0, 0, .inl (-1), []) ::
  (30, .aload_n 0, 1, 0, 0, 0, .inl 0, []) ::
  (31, .getfield 137, 3, 8, 11, 0, .inl 0, [1207]) ::
  (34, .isub, 1, 0, 0, 0, .inl 0, []) ::
  (35, .ireturn, 1, 0, 0, 0, .inl 0, []) :: s_X9_sentence_36) ls st μ := by rw [s_X9_sentence_0]
theorem v_X9_sentence_0 : vc X P m_X9_sentence h K k_X9_sentence S (n + 1) 0 ls st μ = if 0 ∈ S then mAt X m_X9_sentence h K 0 ls st μ else bb X P m_X9_sentence h K (vc X P m_X9_sentence h K k_X9_sentence S n) s_X9_sentence_0 ls st μ := by rw [vc_s, t_X9_sentence_0]
theorem w_X9_sentence_36 : bb X P m_X9_sentence h K J s_X9_sentence_36 ls st μ = bb X P m_X9_sentence h K J ((36, .aload_n 0, 1, 0, 0, 0, .inl 0, []) ::
  (37, .getfield 98, 3, 8, 7, 0, .inl 0, [1203]) ::
  (40, .ifCond .eq 16, 3, 56, 0, 0, .inl 0, []) ::
  (43, .aload_n 0, 1, 0, 0, 0, .inl 0, []) ::
  (44, .iconst 1, 1, 0, 0, 0, .inl (nI 1), []) ::
  (45, .invokevirtual 140, 3, 140, 2, 1, .inl 0, [1395, 8]) ::
  (48, .pop, 1, 0, 0, 0, .inl 0, []) ::
  (49, .iconst (-1), 1, 0, 0, 0, .inl (-1), []) ::
  (50, .aload_n 0, 1, 0, 0, 0, .inl 0, []) ::
  (51, .getfield 137, 3, 8, 11, 0, .inl 0, [1207]) ::
  (54, .isub, 1, 0, 0, 0, .inl 0, []) ::
  (55, .ireturn, 1, 0, 0, 0, .inl 0, []) :: s_X9_sentence_56) ls st μ := by rw [s_X9_sentence_36]
theorem v_X9_sentence_36 : vc X P m_X9_sentence h K k_X9_sentence S (n + 1) 36 ls st μ = if 36 ∈ S then mAt X m_X9_sentence h K 36 ls st μ else bb X P m_X9_sentence h K (vc X P m_X9_sentence h K k_X9_sentence S n) s_X9_sentence_36 ls st μ := by rw [vc_s, t_X9_sentence_36]
theorem w_X9_sentence_56 : bb X P m_X9_sentence h K J s_X9_sentence_56 ls st μ = bb X P m_X9_sentence h K J ((56, .aload_n 0, 1, 0, 0, 0, .inl 0, []) ::
  (57, .getfield 13, 3, 8, 14, 3, .inr (.inr (16, 925, 2)), [1210]) ::
  (60, .sipush 379, 3, 0, 0, 0, .inl (nI 379), []) ::
  (63, .iconst 1, 1, 0, 0, 0, .inl (nI 1), []) ::
  (64, .iastore, 1, 0, 0, 0, .inl 0, []) ::
  (65, .aload_n 0, 1, 0, 0, 0, .inl 0, []) ::
  (66, .getfield 13, 3, 8, 14, 3, .inr (.inr (16, 925, 2)), [1210]) ::
  (69, .sipush 380, 3, 0, 0, 0, .inl (nI 380), []) ::
  (72, .aload_n 0, 1, 0, 0, 0, .inl 0, []) ::
  (73, .getfield 368, 3, 8, 44, 0, .inl 0, [1240]) ::
  (76, .iastore, 1, 0, 0, 0, .inl 0, []) ::
  (77, .iconst 0, 1, 0, 0, 0, .inl (nI 0), []) ::
  (78, .istore_n 1, 1, 1, 0, 0, .inl 0, []) :: s_X9_sentence_79) ls st μ := by rw [s_X9_sentence_56]
theorem v_X9_sentence_56 : vc X P m_X9_sentence h K k_X9_sentence S (n + 1) 56 ls st μ = if 56 ∈ S then mAt X m_X9_sentence h K 56 ls st μ else bb X P m_X9_sentence h K (vc X P m_X9_sentence h K k_X9_sentence S n) s_X9_sentence_56 ls st μ := by rw [vc_s, t_X9_sentence_56]
theorem w_X9_sentence_79 : bb X P m_X9_sentence h K J s_X9_sentence_79 ls st μ = bb X P m_X9_sentence h K J ((79, .iload_n 1, 1, 1, 0, 0, .inl 0, []) ::
  (80, .sipush 240, 3, 0, 0, 0, .inl (nI 240), []) ::
  (83, .if_icmp .ge 25, 3, 108, 0, 0, .inl 0, []) ::
  (86, .aload_n 0, 1, 0, 0, 0, .inl 0, []) ::
  (87, .getfield 13, 3, 8, 14, 3, .inr (.inr (16, 925, 2)), [1210]) ::
  (90, .sipush 381, 3, 0, 0, 0, .inl (nI 381), []) ::
  (93, .iload_n 1, 1, 1, 0, 0, .inl 0, []) ::
  (94, .iadd, 1, 0, 0, 0, .inl 0, []) ::
  (95, .aload_n 0, 1, 0, 0, 0, .inl 0, []) ::
  (96, .getfield 73, 3, 8, 40, 3, .inr (.inr (16, 240, 20)), [1236]) ::
  (99, .iload_n 1, 1, 1, 0, 0, .inl 0, []) ::
  (100, .iaload, 1, 0, 0, 0, .inl 0, []) ::
  (101, .iastore, 1, 0, 0, 0, .inl 0, []) ::
  (102, .iinc 1 1, 3, 1, 0, 0, .inl (nI 1), []) ::
  (105, .goto (-26), 3, 79, 0, 0, .inl 0, []) :: s_X9_sentence_108) ls st μ := by rw [s_X9_sentence_79]
theorem v_X9_sentence_79 : vc X P m_X9_sentence h K k_X9_sentence S (n + 1) 79 ls st μ = if 79 ∈ S then mAt X m_X9_sentence h K 79 ls st μ else bb X P m_X9_sentence h K (vc X P m_X9_sentence h K k_X9_sentence S n) s_X9_sentence_79 ls st μ := by rw [vc_s, t_X9_sentence_79]
theorem w_X9_sentence_108 : bb X P m_X9_sentence h K J s_X9_sentence_108 ls st μ = bb X P m_X9_sentence h K J ((108, .aload_n 0, 1, 0, 0, 0, .inl 0, []) ::
  (109, .getfield 378, 3, 8, 42, 0, .inl 0, [1238]) ::
  (112, .ireturn, 1, 0, 0, 0, .inl 0, []) :: []) ls st μ := by rw [s_X9_sentence_108]
theorem v_X9_sentence_108 : vc X P m_X9_sentence h K k_X9_sentence S (n + 1) 108 ls st μ = if 108 ∈ S then mAt X m_X9_sentence h K 108 ls st μ else bb X P m_X9_sentence h K (vc X P m_X9_sentence h K k_X9_sentence S n) s_X9_sentence_108 ls st μ := by rw [vc_s, t_X9_sentence_108]
end
section
variable {X : mC} {P : mP} {h : Nat} {K : MV → Mem → Prop} {J : mJ} {ls : List (Nat × MV)} {st : List MV} {μ : Mem} {S : List Nat} {n : Nat}
theorem w_X9_spelt_0 : bb X P m_X9_spelt h K J s_X9_spelt_0 ls st μ = bb X P m_X9_spelt h K J ((0, .ldc2_w 122, 3, 0, 0, 0, .inr (.inl 27), [1375]) ::
  (3, .iload_n 0, 1, 0, 0, 0, .inl 0, []) ::
  (4, .i2l, 1, 0, 0, 0, .inl 0, []) ::
  (5, .ldc2_w 124, 3, 0, 0, 0, .inr (.inl 96), [1376]) ::
  (8, .lsub, 1, 0, 0, 0, .inl 0, []) ::
  (9, .lmul, 1, 0, 0, 0, .inl 0, []) ::
  (10, .iload_n 1, 1, 1, 0, 0, .inl 0, []) ::
  (11, .i2l, 1, 0, 0, 0, .inl 0, []) ::
  (12, .ladd, 1, 0, 0, 0, .inl 0, []) ::
  (13, .ldc2_w 124, 3, 0, 0, 0, .inr (.inl 96), [1376]) ::
  (16, .lsub, 1, 0, 0, 0, .inl 0, []) ::
  (17, .lstore 6, 2, 6, 0, 0, .inl 0, []) ::
  (19, .iload_n 2, 1, 2, 0, 0, .inl 0, []) ::
  (20, .ifCond .le 18, 3, 38, 0, 0, .inl 0, []) ::
  (23, .ldc2_w 122, 3, 0, 0, 0, .inr (.inl 27), [1375]) ::
  (26, .lload 6, 2, 6, 0, 0, .inl 0, []) ::
  (28, .lmul, 1, 0, 0, 0, .inl 0, []) ::
  (29, .iload_n 2, 1, 2, 0, 0, .inl 0, []) ::
  (30, .i2l, 1, 0, 0, 0, .inl 0, []) ::
  (31, .ladd, 1, 0, 0, 0, .inl 0, []) ::
  (32, .ldc2_w 124, 3, 0, 0, 0, .inr (.inl 96), [1376]) ::
  (35, .lsub, 1, 0, 0, 0, .inl 0, []) ::
  (36, .lstore 6, 2, 6, 0, 0, .inl 0, []) :: s_X9_spelt_38) ls st μ := by rw [s_X9_spelt_0]
theorem v_X9_spelt_0 : vc X P m_X9_spelt h K k_X9_spelt S (n + 1) 0 ls st μ = if 0 ∈ S then mAt X m_X9_spelt h K 0 ls st μ else bb X P m_X9_spelt h K (vc X P m_X9_spelt h K k_X9_spelt S n) s_X9_spelt_0 ls st μ := by rw [vc_s, t_X9_spelt_0]
theorem w_X9_spelt_38 : bb X P m_X9_spelt h K J s_X9_spelt_38 ls st μ = bb X P m_X9_spelt h K J ((38, .iload_n 3, 1, 3, 0, 0, .inl 0, []) ::
  (39, .ifCond .le 18, 3, 57, 0, 0, .inl 0, []) ::
  (42, .ldc2_w 122, 3, 0, 0, 0, .inr (.inl 27), [1375]) ::
  (45, .lload 6, 2, 6, 0, 0, .inl 0, []) ::
  (47, .lmul, 1, 0, 0, 0, .inl 0, []) ::
  (48, .iload_n 3, 1, 3, 0, 0, .inl 0, []) ::
  (49, .i2l, 1, 0, 0, 0, .inl 0, []) ::
  (50, .ladd, 1, 0, 0, 0, .inl 0, []) ::
  (51, .ldc2_w 124, 3, 0, 0, 0, .inr (.inl 96), [1376]) ::
  (54, .lsub, 1, 0, 0, 0, .inl 0, []) ::
  (55, .lstore 6, 2, 6, 0, 0, .inl 0, []) :: s_X9_spelt_57) ls st μ := by rw [s_X9_spelt_38]
theorem v_X9_spelt_38 : vc X P m_X9_spelt h K k_X9_spelt S (n + 1) 38 ls st μ = if 38 ∈ S then mAt X m_X9_spelt h K 38 ls st μ else bb X P m_X9_spelt h K (vc X P m_X9_spelt h K k_X9_spelt S n) s_X9_spelt_38 ls st μ := by rw [vc_s, t_X9_spelt_38]
theorem w_X9_spelt_57 : bb X P m_X9_spelt h K J s_X9_spelt_57 ls st μ = bb X P m_X9_spelt h K J ((57, .iload 4, 2, 4, 0, 0, .inl 0, []) ::
  (59, .ifCond .le 19, 3, 78, 0, 0, .inl 0, []) ::
  (62, .ldc2_w 122, 3, 0, 0, 0, .inr (.inl 27), [1375]) ::
  (65, .lload 6, 2, 6, 0, 0, .inl 0, []) ::
  (67, .lmul, 1, 0, 0, 0, .inl 0, []) ::
  (68, .iload 4, 2, 4, 0, 0, .inl 0, []) ::
  (70, .i2l, 1, 0, 0, 0, .inl 0, []) ::
  (71, .ladd, 1, 0, 0, 0, .inl 0, []) ::
  (72, .ldc2_w 124, 3, 0, 0, 0, .inr (.inl 96), [1376]) ::
  (75, .lsub, 1, 0, 0, 0, .inl 0, []) ::
  (76, .lstore 6, 2, 6, 0, 0, .inl 0, []) :: s_X9_spelt_78) ls st μ := by rw [s_X9_spelt_57]
theorem v_X9_spelt_57 : vc X P m_X9_spelt h K k_X9_spelt S (n + 1) 57 ls st μ = if 57 ∈ S then mAt X m_X9_spelt h K 57 ls st μ else bb X P m_X9_spelt h K (vc X P m_X9_spelt h K k_X9_spelt S n) s_X9_spelt_57 ls st μ := by rw [vc_s, t_X9_spelt_57]
theorem w_X9_spelt_78 : bb X P m_X9_spelt h K J s_X9_spelt_78 ls st μ = bb X P m_X9_spelt h K J ((78, .iload 5, 2, 5, 0, 0, .inl 0, []) ::
  (80, .ifCond .le 20, 3, 100, 0, 0, .inl 0, []) ::
  (83, .ldc2_w 122, 3, 0, 0, 0, .inr (.inl 27), [1375]) ::
  (86, .lload 6, 2, 6, 0, 0, .inl 0, []) ::
  (88, .lmul, 1, 0, 0, 0, .inl 0, []) ::
  (89, .iload 5, 2, 5, 0, 0, .inl 0, []) ::
  (91, .i2l, 1, 0, 0, 0, .inl 0, []) ::
  (92, .ladd, 1, 0, 0, 0, .inl 0, []) ::
  (93, .ldc2_w 124, 3, 0, 0, 0, .inr (.inl 96), [1376]) ::
  (96, .lsub, 1, 0, 0, 0, .inl 0, []) ::
  (97, .goto 5, 3, 102, 0, 0, .inl 0, []) :: s_X9_spelt_100) ls st μ := by rw [s_X9_spelt_78]
theorem v_X9_spelt_78 : vc X P m_X9_spelt h K k_X9_spelt S (n + 1) 78 ls st μ = if 78 ∈ S then mAt X m_X9_spelt h K 78 ls st μ else bb X P m_X9_spelt h K (vc X P m_X9_spelt h K k_X9_spelt S n) s_X9_spelt_78 ls st μ := by rw [vc_s, t_X9_spelt_78]
theorem w_X9_spelt_100 : bb X P m_X9_spelt h K J s_X9_spelt_100 ls st μ = bb X P m_X9_spelt h K J ((100, .lload 6, 2, 6, 0, 0, .inl 0, []) :: s_X9_spelt_102) ls st μ := by rw [s_X9_spelt_100]
theorem v_X9_spelt_100 : vc X P m_X9_spelt h K k_X9_spelt S (n + 1) 100 ls st μ = if 100 ∈ S then mAt X m_X9_spelt h K 100 ls st μ else bb X P m_X9_spelt h K (vc X P m_X9_spelt h K k_X9_spelt S n) s_X9_spelt_100 ls st μ := by rw [vc_s, t_X9_spelt_100]
theorem w_X9_spelt_102 : bb X P m_X9_spelt h K J s_X9_spelt_102 ls st μ = bb X P m_X9_spelt h K J ((102, .lreturn, 1, 0, 0, 0, .inl 0, []) :: []) ls st μ := by rw [s_X9_spelt_102]
theorem v_X9_spelt_102 : vc X P m_X9_spelt h K k_X9_spelt S (n + 1) 102 ls st μ = if 102 ∈ S then mAt X m_X9_spelt h K 102 ls st μ else bb X P m_X9_spelt h K (vc X P m_X9_spelt h K k_X9_spelt S n) s_X9_spelt_102 ls st μ := by rw [vc_s, t_X9_spelt_102]
end
section
variable {X : mC} {P : mP} {h : Nat} {K : MV → Mem → Prop} {J : mJ} {ls : List (Nat × MV)} {st : List MV} {μ : Mem} {S : List Nat} {n : Nat}
theorem w_X9_start_0 : bb X P m_X9_start h K J s_X9_start_0 ls st μ = bb X P m_X9_start h K J ((0, .iconst 0, 1, 0, 0, 0, .inl (nI 0), []) ::
  (1, .istore_n 3, 1, 3, 0, 0, .inl 0, []) :: s_X9_start_2) ls st μ := by rw [s_X9_start_0]
theorem v_X9_start_0 : vc X P m_X9_start h K k_X9_start S (n + 1) 0 ls st μ = if 0 ∈ S then mAt X m_X9_start h K 0 ls st μ else bb X P m_X9_start h K (vc X P m_X9_start h K k_X9_start S n) s_X9_start_0 ls st μ := by rw [vc_s, t_X9_start_0]
theorem w_X9_start_2 : bb X P m_X9_start h K J s_X9_start_2 ls st μ = bb X P m_X9_start h K J ((2, .iload_n 3, 1, 3, 0, 0, .inl 0, []) ::
  (3, .sipush 296, 3, 0, 0, 0, .inl (nI 296), []) ::
  (6, .if_icmp .ge 15, 3, 21, 0, 0, .inl 0, []) ::
  (9, .aload_n 1, 1, 1, 0, 0, .inl 0, []) ::
  (10, .iload_n 2, 1, 2, 0, 0, .inl 0, []) ::
  (11, .iload_n 3, 1, 3, 0, 0, .inl 0, []) ::
  (12, .iadd, 1, 0, 0, 0, .inl 0, []) ::
  (13, .iconst 0, 1, 0, 0, 0, .inl (nI 0), []) ::
  (14, .iastore, 1, 0, 0, 0, .inl 0, []) ::
  (15, .iinc 3 1, 3, 3, 0, 0, .inl (nI 1), []) ::
  (18, .goto (-16), 3, 2, 0, 0, .inl 0, []) :: s_X9_start_21) ls st μ := by rw [s_X9_start_2]
theorem v_X9_start_2 : vc X P m_X9_start h K k_X9_start S (n + 1) 2 ls st μ = if 2 ∈ S then mAt X m_X9_start h K 2 ls st μ else bb X P m_X9_start h K (vc X P m_X9_start h K k_X9_start S n) s_X9_start_2 ls st μ := by rw [vc_s, t_X9_start_2]
theorem w_X9_start_21 : bb X P m_X9_start h K J s_X9_start_21 ls st μ = bb X P m_X9_start h K J ((21, .aload_n 1, 1, 1, 0, 0, .inl 0, []) ::
  (22, .iload_n 2, 1, 2, 0, 0, .inl 0, []) ::
  (23, .iconst 0, 1, 0, 0, 0, .inl (nI 0), []) ::
  (24, .iadd, 1, 0, 0, 0, .inl 0, []) ::
  (25, .iconst 1, 1, 0, 0, 0, .inl (nI 1), []) ::
  (26, .iastore, 1, 0, 0, 0, .inl 0, []) ::
  (27, .iconst 0, 1, 0, 0, 0, .inl (nI 0), []) ::
  (28, .istore_n 3, 1, 3, 0, 0, .inl 0, []) :: s_X9_start_29) ls st μ := by rw [s_X9_start_21]
theorem v_X9_start_21 : vc X P m_X9_start h K k_X9_start S (n + 1) 21 ls st μ = if 21 ∈ S then mAt X m_X9_start h K 21 ls st μ else bb X P m_X9_start h K (vc X P m_X9_start h K k_X9_start S n) s_X9_start_21 ls st μ := by rw [vc_s, t_X9_start_21]
theorem w_X9_start_29 : bb X P m_X9_start h K J s_X9_start_29 ls st μ = bb X P m_X9_start h K J ((29, .iload_n 3, 1, 3, 0, 0, .inl 0, []) ::
  (30, .bipush 48, 2, 0, 0, 0, .inl (nI 48), []) ::
  (32, .if_icmp .ge 26, 3, 58, 0, 0, .inl 0, []) ::
  (35, .aload_n 1, 1, 1, 0, 0, .inl 0, []) ::
  (36, .iload_n 2, 1, 2, 0, 0, .inl 0, []) ::
  (37, .iconst 2, 1, 0, 0, 0, .inl (nI 2), []) ::
  (38, .iadd, 1, 0, 0, 0, .inl 0, []) ::
  (39, .iload_n 3, 1, 3, 0, 0, .inl 0, []) ::
  (40, .iadd, 1, 0, 0, 0, .inl 0, []) ::
  (41, .aload_n 0, 1, 0, 0, 0, .inl 0, []) ::
  (42, .getfield 39, 3, 8, 22, 3, .inr (.inr (16, 278, 10)), [1218]) ::
  (45, .sipush 134, 3, 0, 0, 0, .inl (nI 134), []) ::
  (48, .iload_n 3, 1, 3, 0, 0, .inl 0, []) ::
  (49, .iadd, 1, 0, 0, 0, .inl 0, []) ::
  (50, .iaload, 1, 0, 0, 0, .inl 0, []) ::
  (51, .iastore, 1, 0, 0, 0, .inl 0, []) ::
  (52, .iinc 3 1, 3, 3, 0, 0, .inl (nI 1), []) ::
  (55, .goto (-26), 3, 29, 0, 0, .inl 0, []) :: s_X9_start_58) ls st μ := by rw [s_X9_start_29]
theorem v_X9_start_29 : vc X P m_X9_start h K k_X9_start S (n + 1) 29 ls st μ = if 29 ∈ S then mAt X m_X9_start h K 29 ls st μ else bb X P m_X9_start h K (vc X P m_X9_start h K k_X9_start S n) s_X9_start_29 ls st μ := by rw [vc_s, t_X9_start_29]
theorem w_X9_start_58 : bb X P m_X9_start h K J s_X9_start_58 ls st μ = bb X P m_X9_start h K J ((58, .iconst 0, 1, 0, 0, 0, .inl (nI 0), []) ::
  (59, .istore_n 3, 1, 3, 0, 0, .inl 0, []) :: s_X9_start_60) ls st μ := by rw [s_X9_start_58]
theorem v_X9_start_58 : vc X P m_X9_start h K k_X9_start S (n + 1) 58 ls st μ = if 58 ∈ S then mAt X m_X9_start h K 58 ls st μ else bb X P m_X9_start h K (vc X P m_X9_start h K k_X9_start S n) s_X9_start_58 ls st μ := by rw [vc_s, t_X9_start_58]
theorem w_X9_start_60 : bb X P m_X9_start h K J s_X9_start_60 ls st μ = bb X P m_X9_start h K J ((60, .iload_n 3, 1, 3, 0, 0, .inl 0, []) ::
  (61, .bipush 8, 2, 0, 0, 0, .inl (nI 8), []) ::
  (63, .if_icmp .ge 19, 3, 82, 0, 0, .inl 0, []) ::
  (66, .aload_n 1, 1, 1, 0, 0, .inl 0, []) ::
  (67, .iload_n 2, 1, 2, 0, 0, .inl 0, []) ::
  (68, .sipush 244, 3, 0, 0, 0, .inl (nI 244), []) ::
  (71, .iadd, 1, 0, 0, 0, .inl 0, []) ::
  (72, .iload_n 3, 1, 3, 0, 0, .inl 0, []) ::
  (73, .iadd, 1, 0, 0, 0, .inl 0, []) ::
  (74, .iconst (-1), 1, 0, 0, 0, .inl (-1), []) ::
  (75, .iastore, 1, 0, 0, 0, .inl 0, []) ::
  (76, .iinc 3 1, 3, 3, 0, 0, .inl (nI 1), []) ::
  (79, .goto (-19), 3, 60, 0, 0, .inl 0, []) :: s_X9_start_82) ls st μ := by rw [s_X9_start_60]
theorem v_X9_start_60 : vc X P m_X9_start h K k_X9_start S (n + 1) 60 ls st μ = if 60 ∈ S then mAt X m_X9_start h K 60 ls st μ else bb X P m_X9_start h K (vc X P m_X9_start h K k_X9_start S n) s_X9_start_60 ls st μ := by rw [vc_s, t_X9_start_60]
theorem w_X9_start_82 : bb X P m_X9_start h K J s_X9_start_82 ls st μ = bb X P m_X9_start h K J ((82, .return_, 1, 0, 0, 0, .inl 0, []) :: []) ls st μ := by rw [s_X9_start_82]
theorem v_X9_start_82 : vc X P m_X9_start h K k_X9_start S (n + 1) 82 ls st μ = if 82 ∈ S then mAt X m_X9_start h K 82 ls st μ else bb X P m_X9_start h K (vc X P m_X9_start h K k_X9_start S n) s_X9_start_82 ls st μ := by rw [vc_s, t_X9_start_82]
end
section
variable {X : mC} {P : mP} {h : Nat} {K : MV → Mem → Prop} {J : mJ} {ls : List (Nat × MV)} {st : List MV} {μ : Mem} {S : List Nat} {n : Nat}
theorem w_X9_steadies_0 : bb X P m_X9_steadies h K J s_X9_steadies_0 ls st μ = bb X P m_X9_steadies h K J ((0, .aload_n 0, 1, 0, 0, 0, .inl 0, []) ::
  (1, .iconst 0, 1, 0, 0, 0, .inl (nI 0), []) ::
  (2, .putfield 76, 3, 8, 0, 0, .inl 0, [1196]) ::
  (5, .iconst 0, 1, 0, 0, 0, .inl (nI 0), []) ::
  (6, .istore_n 2, 1, 2, 0, 0, .inl 0, []) ::
  (7, .iconst 0, 1, 0, 0, 0, .inl (nI 0), []) ::
  (8, .istore_n 3, 1, 3, 0, 0, .inl 0, []) :: s_X9_steadies_9) ls st μ := by rw [s_X9_steadies_0]
theorem v_X9_steadies_0 : vc X P m_X9_steadies h K k_X9_steadies S (n + 1) 0 ls st μ = if 0 ∈ S then mAt X m_X9_steadies h K 0 ls st μ else bb X P m_X9_steadies h K (vc X P m_X9_steadies h K k_X9_steadies S n) s_X9_steadies_0 ls st μ := by rw [vc_s, t_X9_steadies_0]
theorem w_X9_steadies_9 : bb X P m_X9_steadies h K J s_X9_steadies_9 ls st μ = bb X P m_X9_steadies h K J ((9, .aload_n 0, 1, 0, 0, 0, .inl 0, []) ::
  (10, .iload_n 3, 1, 3, 0, 0, .inl 0, []) ::
  (11, .invokevirtual 300, 3, 181, 2, 1, .inl 0, [1610, 8]) ::
  (14, .ifCond .eq 30, 3, 44, 0, 0, .inl 0, []) ::
  (17, .aload_n 0, 1, 0, 0, 0, .inl 0, []) ::
  (18, .iload_n 3, 1, 3, 0, 0, .inl 0, []) ::
  (19, .invokevirtual 331, 3, 184, 2, 1, .inl 0, [1659, 8]) ::
  (22, .ifCond .ne 6, 3, 28, 0, 0, .inl 0, []) ::
  (25, .goto 13, 3, 38, 0, 0, .inl 0, []) :: s_X9_steadies_28) ls st μ := by rw [s_X9_steadies_9]
theorem v_X9_steadies_9 : vc X P m_X9_steadies h K k_X9_steadies S (n + 1) 9 ls st μ = if 9 ∈ S then mAt X m_X9_steadies h K 9 ls st μ else bb X P m_X9_steadies h K (vc X P m_X9_steadies h K k_X9_steadies S n) s_X9_steadies_9 ls st μ := by rw [vc_s, t_X9_steadies_9]
theorem w_X9_steadies_28 : bb X P m_X9_steadies h K J s_X9_steadies_28 ls st μ = bb X P m_X9_steadies h K J ((28, .iload_n 2, 1, 2, 0, 0, .inl 0, []) ::
  (29, .iload_n 1, 1, 1, 0, 0, .inl 0, []) ::
  (30, .if_icmp .ne 5, 3, 35, 0, 0, .inl 0, []) ::
  (33, .iload_n 3, 1, 3, 0, 0, .inl 0, []) ::
  (34, .ireturn, 1, 0, 0, 0, .inl 0, []) :: s_X9_steadies_35) ls st μ := by rw [s_X9_steadies_28]
theorem v_X9_steadies_28 : vc X P m_X9_steadies h K k_X9_steadies S (n + 1) 28 ls st μ = if 28 ∈ S then mAt X m_X9_steadies h K 28 ls st μ else bb X P m_X9_steadies h K (vc X P m_X9_steadies h K k_X9_steadies S n) s_X9_steadies_28 ls st μ := by rw [vc_s, t_X9_steadies_28]
theorem w_X9_steadies_35 : bb X P m_X9_steadies h K J s_X9_steadies_35 ls st μ = bb X P m_X9_steadies h K J ((35, .iinc 2 1, 3, 2, 0, 0, .inl (nI 1), []) :: s_X9_steadies_38) ls st μ := by rw [s_X9_steadies_35]
theorem v_X9_steadies_35 : vc X P m_X9_steadies h K k_X9_steadies S (n + 1) 35 ls st μ = if 35 ∈ S then mAt X m_X9_steadies h K 35 ls st μ else bb X P m_X9_steadies h K (vc X P m_X9_steadies h K k_X9_steadies S n) s_X9_steadies_35 ls st μ := by rw [vc_s, t_X9_steadies_35]
theorem w_X9_steadies_38 : bb X P m_X9_steadies h K J s_X9_steadies_38 ls st μ = bb X P m_X9_steadies h K J ((38, .iinc 3 1, 3, 3, 0, 0, .inl (nI 1), []) ::
  (41, .goto (-32), 3, 9, 0, 0, .inl 0, []) :: s_X9_steadies_44) ls st μ := by rw [s_X9_steadies_38]
theorem v_X9_steadies_38 : vc X P m_X9_steadies h K k_X9_steadies S (n + 1) 38 ls st μ = if 38 ∈ S then mAt X m_X9_steadies h K 38 ls st μ else bb X P m_X9_steadies h K (vc X P m_X9_steadies h K k_X9_steadies S n) s_X9_steadies_38 ls st μ := by rw [vc_s, t_X9_steadies_38]
theorem w_X9_steadies_44 : bb X P m_X9_steadies h K J s_X9_steadies_44 ls st μ = bb X P m_X9_steadies h K J ((44, .iload_n 1, 1, 1, 0, 0, .inl 0, []) ::
  (45, .iconst (-1), 1, 0, 0, 0, .inl (-1), []) ::
  (46, .if_icmp .ne 7, 3, 53, 0, 0, .inl 0, []) ::
  (49, .iload_n 2, 1, 2, 0, 0, .inl 0, []) ::
  (50, .goto 4, 3, 54, 0, 0, .inl 0, []) :: s_X9_steadies_53) ls st μ := by rw [s_X9_steadies_44]
theorem v_X9_steadies_44 : vc X P m_X9_steadies h K k_X9_steadies S (n + 1) 44 ls st μ = if 44 ∈ S then mAt X m_X9_steadies h K 44 ls st μ else bb X P m_X9_steadies h K (vc X P m_X9_steadies h K k_X9_steadies S n) s_X9_steadies_44 ls st μ := by rw [vc_s, t_X9_steadies_44]
theorem w_X9_steadies_53 : bb X P m_X9_steadies h K J s_X9_steadies_53 ls st μ = bb X P m_X9_steadies h K J ((53, .iconst (-1), 1, 0, 0, 0, .inl (-1), []) :: s_X9_steadies_54) ls st μ := by rw [s_X9_steadies_53]
theorem v_X9_steadies_53 : vc X P m_X9_steadies h K k_X9_steadies S (n + 1) 53 ls st μ = if 53 ∈ S then mAt X m_X9_steadies h K 53 ls st μ else bb X P m_X9_steadies h K (vc X P m_X9_steadies h K k_X9_steadies S n) s_X9_steadies_53 ls st μ := by rw [vc_s, t_X9_steadies_53]
theorem w_X9_steadies_54 : bb X P m_X9_steadies h K J s_X9_steadies_54 ls st μ = bb X P m_X9_steadies h K J ((54, .ireturn, 1, 0, 0, 0, .inl 0, []) :: []) ls st μ := by rw [s_X9_steadies_54]
theorem v_X9_steadies_54 : vc X P m_X9_steadies h K k_X9_steadies S (n + 1) 54 ls st μ = if 54 ∈ S then mAt X m_X9_steadies h K 54 ls st μ else bb X P m_X9_steadies h K (vc X P m_X9_steadies h K k_X9_steadies S n) s_X9_steadies_54 ls st μ := by rw [vc_s, t_X9_steadies_54]
end
section
variable {X : mC} {P : mP} {h : Nat} {K : MV → Mem → Prop} {J : mJ} {ls : List (Nat × MV)} {st : List MV} {μ : Mem} {S : List Nat} {n : Nat}
theorem w_X9_steady_0 : bb X P m_X9_steady h K J s_X9_steady_0 ls st μ = bb X P m_X9_steady h K J ((0, .aload_n 0, 1, 0, 0, 0, .inl 0, []) ::
  (1, .iconst 0, 1, 0, 0, 0, .inl (nI 0), []) ::
  (2, .putfield 76, 3, 8, 0, 0, .inl 0, [1196]) ::
  (5, .aload_n 0, 1, 0, 0, 0, .inl 0, []) ::
  (6, .iload_n 1, 1, 1, 0, 0, .inl 0, []) ::
  (7, .invokevirtual 300, 3, 181, 2, 1, .inl 0, [1610, 8]) ::
  (10, .ifCond .eq 19, 3, 29, 0, 0, .inl 0, []) ::
  (13, .aload_n 0, 1, 0, 0, 0, .inl 0, []) ::
  (14, .iload_n 1, 1, 1, 0, 0, .inl 0, []) ::
  (15, .invokevirtual 331, 3, 184, 2, 1, .inl 0, [1659, 8]) ::
  (18, .ifCond .eq 7, 3, 25, 0, 0, .inl 0, []) ::
  (21, .iconst 1, 1, 0, 0, 0, .inl (nI 1), []) ::
  (22, .goto 8, 3, 30, 0, 0, .inl 0, []) :: s_X9_steady_25) ls st μ := by rw [s_X9_steady_0]
theorem v_X9_steady_0 : vc X P m_X9_steady h K k_X9_steady S (n + 1) 0 ls st μ = if 0 ∈ S then mAt X m_X9_steady h K 0 ls st μ else bb X P m_X9_steady h K (vc X P m_X9_steady h K k_X9_steady S n) s_X9_steady_0 ls st μ := by rw [vc_s, t_X9_steady_0]
theorem w_X9_steady_25 : bb X P m_X9_steady h K J s_X9_steady_25 ls st μ = bb X P m_X9_steady h K J ((25, .iconst 0, 1, 0, 0, 0, .inl (nI 0), []) ::
  (26, .goto 4, 3, 30, 0, 0, .inl 0, []) :: s_X9_steady_29) ls st μ := by rw [s_X9_steady_25]
theorem v_X9_steady_25 : vc X P m_X9_steady h K k_X9_steady S (n + 1) 25 ls st μ = if 25 ∈ S then mAt X m_X9_steady h K 25 ls st μ else bb X P m_X9_steady h K (vc X P m_X9_steady h K k_X9_steady S n) s_X9_steady_25 ls st μ := by rw [vc_s, t_X9_steady_25]
theorem w_X9_steady_29 : bb X P m_X9_steady h K J s_X9_steady_29 ls st μ = bb X P m_X9_steady h K J ((29, .iconst (-1), 1, 0, 0, 0, .inl (-1), []) :: s_X9_steady_30) ls st μ := by rw [s_X9_steady_29]
theorem v_X9_steady_29 : vc X P m_X9_steady h K k_X9_steady S (n + 1) 29 ls st μ = if 29 ∈ S then mAt X m_X9_steady h K 29 ls st μ else bb X P m_X9_steady h K (vc X P m_X9_steady h K k_X9_steady S n) s_X9_steady_29 ls st μ := by rw [vc_s, t_X9_steady_29]
theorem w_X9_steady_30 : bb X P m_X9_steady h K J s_X9_steady_30 ls st μ = bb X P m_X9_steady h K J ((30, .ireturn, 1, 0, 0, 0, .inl 0, []) :: []) ls st μ := by rw [s_X9_steady_30]
theorem v_X9_steady_30 : vc X P m_X9_steady h K k_X9_steady S (n + 1) 30 ls st μ = if 30 ∈ S then mAt X m_X9_steady h K 30 ls st μ else bb X P m_X9_steady h K (vc X P m_X9_steady h K k_X9_steady S n) s_X9_steady_30 ls st μ := by rw [vc_s, t_X9_steady_30]
end
section
variable {X : mC} {P : mP} {h : Nat} {K : MV → Mem → Prop} {J : mJ} {ls : List (Nat × MV)} {st : List MV} {μ : Mem} {S : List Nat} {n : Nat}
theorem w_X9_take_0 : bb X P m_X9_take h K J s_X9_take_0 ls st μ = bb X P m_X9_take h K J ((0, .aload_n 0, 1, 0, 0, 0, .inl 0, []) ::
  (1, .getfield 79, 3, 8, 2, 0, .inl 0, [1198]) ::
  (4, .istore_n 1, 1, 1, 0, 0, .inl 0, []) ::
  (5, .aload_n 0, 1, 0, 0, 0, .inl 0, []) ::
  (6, .iconst 0, 1, 0, 0, 0, .inl (nI 0), []) ::
  (7, .putfield 79, 3, 8, 2, 0, .inl 0, [1198]) ::
  (10, .iload_n 1, 1, 1, 0, 0, .inl 0, []) ::
  (11, .ireturn, 1, 0, 0, 0, .inl 0, []) :: []) ls st μ := by rw [s_X9_take_0]
theorem v_X9_take_0 : vc X P m_X9_take h K k_X9_take S (n + 1) 0 ls st μ = if 0 ∈ S then mAt X m_X9_take h K 0 ls st μ else bb X P m_X9_take h K (vc X P m_X9_take h K k_X9_take S n) s_X9_take_0 ls st μ := by rw [vc_s, t_X9_take_0]
end
section
variable {X : mC} {P : mP} {h : Nat} {K : MV → Mem → Prop} {J : mJ} {ls : List (Nat × MV)} {st : List MV} {μ : Mem} {S : List Nat} {n : Nat}
theorem w_X9_tapeAt_0 : bb X P m_X9_tapeAt h K J s_X9_tapeAt_0 ls st μ = bb X P m_X9_tapeAt h K J ((0, .iload_n 1, 1, 1, 0, 0, .inl 0, []) ::
  (1, .aload_n 0, 1, 0, 0, 0, .inl 0, []) ::
  (2, .getfield 86, 3, 8, 3, 0, .inl 0, [1199]) ::
  (5, .if_icmp .ge 12, 3, 17, 0, 0, .inl 0, []) ::
  (8, .aload_n 0, 1, 0, 0, 0, .inl 0, []) ::
  (9, .getfield 7, 3, 8, 1, 3, .inr (.inr (16, 940, 1)), [1197]) ::
  (12, .iload_n 1, 1, 1, 0, 0, .inl 0, []) ::
  (13, .iaload, 1, 0, 0, 0, .inl 0, []) ::
  (14, .goto 4, 3, 18, 0, 0, .inl 0, []) :: s_X9_tapeAt_17) ls st μ := by rw [s_X9_tapeAt_0]
theorem v_X9_tapeAt_0 : vc X P m_X9_tapeAt h K k_X9_tapeAt S (n + 1) 0 ls st μ = if 0 ∈ S then mAt X m_X9_tapeAt h K 0 ls st μ else bb X P m_X9_tapeAt h K (vc X P m_X9_tapeAt h K k_X9_tapeAt S n) s_X9_tapeAt_0 ls st μ := by rw [vc_s, t_X9_tapeAt_0]
theorem w_X9_tapeAt_17 : bb X P m_X9_tapeAt h K J s_X9_tapeAt_17 ls st μ = bb X P m_X9_tapeAt h K J ((17, .iconst 0, 1, 0, 0, 0, .inl (nI 0), []) :: s_X9_tapeAt_18) ls st μ := by rw [s_X9_tapeAt_17]
theorem v_X9_tapeAt_17 : vc X P m_X9_tapeAt h K k_X9_tapeAt S (n + 1) 17 ls st μ = if 17 ∈ S then mAt X m_X9_tapeAt h K 17 ls st μ else bb X P m_X9_tapeAt h K (vc X P m_X9_tapeAt h K k_X9_tapeAt S n) s_X9_tapeAt_17 ls st μ := by rw [vc_s, t_X9_tapeAt_17]
theorem w_X9_tapeAt_18 : bb X P m_X9_tapeAt h K J s_X9_tapeAt_18 ls st μ = bb X P m_X9_tapeAt h K J ((18, .ireturn, 1, 0, 0, 0, .inl 0, []) :: []) ls st μ := by rw [s_X9_tapeAt_18]
theorem v_X9_tapeAt_18 : vc X P m_X9_tapeAt h K k_X9_tapeAt S (n + 1) 18 ls st μ = if 18 ∈ S then mAt X m_X9_tapeAt h K 18 ls st μ else bb X P m_X9_tapeAt h K (vc X P m_X9_tapeAt h K k_X9_tapeAt S n) s_X9_tapeAt_18 ls st μ := by rw [vc_s, t_X9_tapeAt_18]
end
section
variable {X : mC} {P : mP} {h : Nat} {K : MV → Mem → Prop} {J : mJ} {ls : List (Nat × MV)} {st : List MV} {μ : Mem} {S : List Nat} {n : Nat}
theorem w_X9_thrown_0 : bb X P m_X9_thrown h K J s_X9_thrown_0 ls st μ = bb X P m_X9_thrown h K J ((0, .aload_n 0, 1, 0, 0, 0, .inl 0, []) ::
  (1, .getfield 76, 3, 8, 0, 0, .inl 0, [1196]) ::
  (4, .ireturn, 1, 0, 0, 0, .inl 0, []) :: []) ls st μ := by rw [s_X9_thrown_0]
theorem v_X9_thrown_0 : vc X P m_X9_thrown h K k_X9_thrown S (n + 1) 0 ls st μ = if 0 ∈ S then mAt X m_X9_thrown h K 0 ls st μ else bb X P m_X9_thrown h K (vc X P m_X9_thrown h K k_X9_thrown S n) s_X9_thrown_0 ls st μ := by rw [vc_s, t_X9_thrown_0]
end
section
variable {X : mC} {P : mP} {h : Nat} {K : MV → Mem → Prop} {J : mJ} {ls : List (Nat × MV)} {st : List MV} {μ : Mem} {S : List Nat} {n : Nat}
theorem w_X9_vat_0 : bb X P m_X9_vat h K J s_X9_vat_0 ls st μ = bb X P m_X9_vat h K J ((0, .aload_n 0, 1, 0, 0, 0, .inl 0, []) ::
  (1, .iconst 0, 1, 0, 0, 0, .inl (nI 0), []) ::
  (2, .putfield 76, 3, 8, 0, 0, .inl 0, [1196]) ::
  (5, .aload_n 0, 1, 0, 0, 0, .inl 0, []) ::
  (6, .iload_n 1, 1, 1, 0, 0, .inl 0, []) ::
  (7, .iload_n 2, 1, 2, 0, 0, .inl 0, []) ::
  (8, .invokevirtual 291, 3, 188, 3, 1, .inl 0, [1562, 8]) ::
  (11, .ifCond .eq 20, 3, 31, 0, 0, .inl 0, []) ::
  (14, .aload_n 0, 1, 0, 0, 0, .inl 0, []) ::
  (15, .getfield 13, 3, 8, 14, 3, .inr (.inr (16, 925, 2)), [1210]) ::
  (18, .sipush 623, 3, 0, 0, 0, .inl (nI 623), []) ::
  (21, .iload_n 1, 1, 1, 0, 0, .inl 0, []) ::
  (22, .iload_n 2, 1, 2, 0, 0, .inl 0, []) ::
  (23, .invokestatic 182, 3, 148, 2, 1, .inl 0, [1437]) ::
  (26, .iadd, 1, 0, 0, 0, .inl 0, []) ::
  (27, .iaload, 1, 0, 0, 0, .inl 0, []) ::
  (28, .goto 4, 3, 32, 0, 0, .inl 0, []) :: s_X9_vat_31) ls st μ := by rw [s_X9_vat_0]
theorem v_X9_vat_0 : vc X P m_X9_vat h K k_X9_vat S (n + 1) 0 ls st μ = if 0 ∈ S then mAt X m_X9_vat h K 0 ls st μ else bb X P m_X9_vat h K (vc X P m_X9_vat h K k_X9_vat S n) s_X9_vat_0 ls st μ := by rw [vc_s, t_X9_vat_0]
theorem w_X9_vat_31 : bb X P m_X9_vat h K J s_X9_vat_31 ls st μ = bb X P m_X9_vat h K J ((31, .iconst (-1), 1, 0, 0, 0, .inl (-1), []) :: s_X9_vat_32) ls st μ := by rw [s_X9_vat_31]
theorem v_X9_vat_31 : vc X P m_X9_vat h K k_X9_vat S (n + 1) 31 ls st μ = if 31 ∈ S then mAt X m_X9_vat h K 31 ls st μ else bb X P m_X9_vat h K (vc X P m_X9_vat h K k_X9_vat S n) s_X9_vat_31 ls st μ := by rw [vc_s, t_X9_vat_31]
theorem w_X9_vat_32 : bb X P m_X9_vat h K J s_X9_vat_32 ls st μ = bb X P m_X9_vat h K J ((32, .ireturn, 1, 0, 0, 0, .inl 0, []) :: []) ls st μ := by rw [s_X9_vat_32]
theorem v_X9_vat_32 : vc X P m_X9_vat h K k_X9_vat S (n + 1) 32 ls st μ = if 32 ∈ S then mAt X m_X9_vat h K 32 ls st μ else bb X P m_X9_vat h K (vc X P m_X9_vat h K k_X9_vat S n) s_X9_vat_32 ls st μ := by rw [vc_s, t_X9_vat_32]
end
section
variable {X : mC} {P : mP} {h : Nat} {K : MV → Mem → Prop} {J : mJ} {ls : List (Nat × MV)} {st : List MV} {μ : Mem} {S : List Nat} {n : Nat}
theorem w_X9_went_0 : bb X P m_X9_went h K J s_X9_went_0 ls st μ = bb X P m_X9_went h K J ((0, .aload_n 0, 1, 0, 0, 0, .inl 0, []) ::
  (1, .iconst 0, 1, 0, 0, 0, .inl (nI 0), []) ::
  (2, .putfield 76, 3, 8, 0, 0, .inl 0, [1196]) ::
  (5, .aload_n 0, 1, 0, 0, 0, .inl 0, []) ::
  (6, .invokevirtual 288, 3, 180, 1, 1, .inl 0, [1516, 8]) ::
  (9, .ifCond .eq 38, 3, 47, 0, 0, .inl 0, []) ::
  (12, .aload_n 0, 1, 0, 0, 0, .inl 0, []) ::
  (13, .iload_n 1, 1, 1, 0, 0, .inl 0, []) ::
  (14, .invokevirtual 225, 3, 190, 2, 1, .inl 0, [1468, 8]) ::
  (17, .ifCond .eq 30, 3, 47, 0, 0, .inl 0, []) ::
  (20, .iload_n 2, 1, 2, 0, 0, .inl 0, []) ::
  (21, .iconst 0, 1, 0, 0, 0, .inl (nI 0), []) ::
  (22, .iconst 5, 1, 0, 0, 0, .inl (nI 5), []) ::
  (23, .invokestatic 143, 3, 177, 3, 1, .inl 0, [1414]) ::
  (26, .ifCond .eq 21, 3, 47, 0, 0, .inl 0, []) ::
  (29, .aload_n 0, 1, 0, 0, 0, .inl 0, []) ::
  (30, .getfield 13, 3, 8, 14, 3, .inr (.inr (16, 925, 2)), [1210]) ::
  (33, .sipush 833, 3, 0, 0, 0, .inl (nI 833), []) ::
  (36, .bipush 8, 2, 0, 0, 0, .inl (nI 8), []) ::
  (38, .iload_n 2, 1, 2, 0, 0, .inl 0, []) ::
  (39, .imul, 1, 0, 0, 0, .inl 0, []) ::
  (40, .iadd, 1, 0, 0, 0, .inl 0, []) ::
  (41, .iload_n 1, 1, 1, 0, 0, .inl 0, []) ::
  (42, .iadd, 1, 0, 0, 0, .inl 0, []) ::
  (43, .iaload, 1, 0, 0, 0, .inl 0, []) ::
  (44, .goto 4, 3, 48, 0, 0, .inl 0, []) :: s_X9_went_47) ls st μ := by rw [s_X9_went_0]
theorem v_X9_went_0 : vc X P m_X9_went h K k_X9_went S (n + 1) 0 ls st μ = if 0 ∈ S then mAt X m_X9_went h K 0 ls st μ else bb X P m_X9_went h K (vc X P m_X9_went h K k_X9_went S n) s_X9_went_0 ls st μ := by rw [vc_s, t_X9_went_0]
theorem w_X9_went_47 : bb X P m_X9_went h K J s_X9_went_47 ls st μ = bb X P m_X9_went h K J ((47, .iconst (-1), 1, 0, 0, 0, .inl (-1), []) :: s_X9_went_48) ls st μ := by rw [s_X9_went_47]
theorem v_X9_went_47 : vc X P m_X9_went h K k_X9_went S (n + 1) 47 ls st μ = if 47 ∈ S then mAt X m_X9_went h K 47 ls st μ else bb X P m_X9_went h K (vc X P m_X9_went h K k_X9_went S n) s_X9_went_47 ls st μ := by rw [vc_s, t_X9_went_47]
theorem w_X9_went_48 : bb X P m_X9_went h K J s_X9_went_48 ls st μ = bb X P m_X9_went h K J ((48, .ireturn, 1, 0, 0, 0, .inl 0, []) :: []) ls st μ := by rw [s_X9_went_48]
theorem v_X9_went_48 : vc X P m_X9_went h K k_X9_went S (n + 1) 48 ls st μ = if 48 ∈ S then mAt X m_X9_went h K 48 ls st μ else bb X P m_X9_went h K (vc X P m_X9_went h K k_X9_went S n) s_X9_went_48 ls st μ := by rw [vc_s, t_X9_went_48]
end
section
variable {X : mC} {P : mP} {h : Nat} {K : MV → Mem → Prop} {J : mJ} {ls : List (Nat × MV)} {st : List MV} {μ : Mem} {S : List Nat} {n : Nat}
theorem w_X9_wider_0 : bb X P m_X9_wider h K J s_X9_wider_0 ls st μ = bb X P m_X9_wider h K J ((0, .aload_n 0, 1, 0, 0, 0, .inl 0, []) ::
  (1, .iconst 0, 1, 0, 0, 0, .inl (nI 0), []) ::
  (2, .putfield 76, 3, 8, 0, 0, .inl 0, [1196]) ::
  (5, .iload_n 1, 1, 1, 0, 0, .inl 0, []) ::
  (6, .iconst 1, 1, 0, 0, 0, .inl (nI 1), []) ::
  (7, .bipush 99, 2, 0, 0, 0, .inl (nI 99), []) ::
  (9, .invokestatic 143, 3, 177, 3, 1, .inl 0, [1414]) ::
  (12, .ifCond .eq 10, 3, 22, 0, 0, .inl 0, []) ::
  (15, .iload_n 2, 1, 2, 0, 0, .inl 0, []) ::
  (16, .invokestatic 303, 3, 176, 1, 1, .inl 0, [1614]) ::
  (19, .ifCond .ne 5, 3, 24, 0, 0, .inl 0, []) :: s_X9_wider_22) ls st μ := by rw [s_X9_wider_0]
theorem v_X9_wider_0 : vc X P m_X9_wider h K k_X9_wider S (n + 1) 0 ls st μ = if 0 ∈ S then mAt X m_X9_wider h K 0 ls st μ else bb X P m_X9_wider h K (vc X P m_X9_wider h K k_X9_wider S n) s_X9_wider_0 ls st μ := by rw [vc_s, t_X9_wider_0]
theorem w_X9_wider_22 : bb X P m_X9_wider h K J s_X9_wider_22 ls st μ = bb X P m_X9_wider h K J ((22, .iconst (-1), 1, 0, 0, 0, .inl (-1), []) ::
  (23, .ireturn, 1, 0, 0, 0, .inl 0, []) :: s_X9_wider_24) ls st μ := by rw [s_X9_wider_22]
theorem v_X9_wider_22 : vc X P m_X9_wider h K k_X9_wider S (n + 1) 22 ls st μ = if 22 ∈ S then mAt X m_X9_wider h K 22 ls st μ else bb X P m_X9_wider h K (vc X P m_X9_wider h K k_X9_wider S n) s_X9_wider_22 ls st μ := by rw [vc_s, t_X9_wider_22]
theorem w_X9_wider_24 : bb X P m_X9_wider h K J s_X9_wider_24 ls st μ = bb X P m_X9_wider h K J ((24, .iconst (-1), 1, 0, 0, 0, .inl (-1), []) ::
  (25, .istore_n 3, 1, 3, 0, 0, .inl 0, []) ::
  (26, .iconst 0, 1, 0, 0, 0, .inl (nI 0), []) ::
  (27, .istore 4, 2, 4, 0, 0, .inl 0, []) ::
  (29, .iconst 0, 1, 0, 0, 0, .inl (nI 0), []) ::
  (30, .istore 5, 2, 5, 0, 0, .inl 0, []) :: s_X9_wider_32) ls st μ := by rw [s_X9_wider_24]
theorem v_X9_wider_24 : vc X P m_X9_wider h K k_X9_wider S (n + 1) 24 ls st μ = if 24 ∈ S then mAt X m_X9_wider h K 24 ls st μ else bb X P m_X9_wider h K (vc X P m_X9_wider h K k_X9_wider S n) s_X9_wider_24 ls st μ := by rw [vc_s, t_X9_wider_24]
theorem w_X9_wider_32 : bb X P m_X9_wider h K J s_X9_wider_32 ls st μ = bb X P m_X9_wider h K J ((32, .iload 5, 2, 5, 0, 0, .inl 0, []) ::
  (34, .aload_n 0, 1, 0, 0, 0, .inl 0, []) ::
  (35, .invokevirtual 219, 3, 253, 1, 1, .inl 0, [1472, 8]) ::
  (38, .if_icmp .ge 106, 3, 144, 0, 0, .inl 0, []) ::
  (41, .iconst 0, 1, 0, 0, 0, .inl (nI 0), []) ::
  (42, .istore 6, 2, 6, 0, 0, .inl 0, []) :: s_X9_wider_44) ls st μ := by rw [s_X9_wider_32]
theorem v_X9_wider_32 : vc X P m_X9_wider h K k_X9_wider S (n + 1) 32 ls st μ = if 32 ∈ S then mAt X m_X9_wider h K 32 ls st μ else bb X P m_X9_wider h K (vc X P m_X9_wider h K k_X9_wider S n) s_X9_wider_32 ls st μ := by rw [vc_s, t_X9_wider_32]
theorem w_X9_wider_44 : bb X P m_X9_wider h K J s_X9_wider_44 ls st μ = bb X P m_X9_wider h K J ((44, .iload 6, 2, 6, 0, 0, .inl 0, []) ::
  (46, .aload_n 0, 1, 0, 0, 0, .inl 0, []) ::
  (47, .invokevirtual 222, 3, 165, 1, 1, .inl 0, [1484, 8]) ::
  (50, .if_icmp .ge 88, 3, 138, 0, 0, .inl 0, []) ::
  (53, .aload_n 0, 1, 0, 0, 0, .inl 0, []) ::
  (54, .getfield 13, 3, 8, 14, 3, .inr (.inr (16, 925, 2)), [1210]) ::
  (57, .bipush 38, 2, 0, 0, 0, .inl (nI 38), []) ::
  (59, .iload 5, 2, 5, 0, 0, .inl 0, []) ::
  (61, .iload 6, 2, 6, 0, 0, .inl 0, []) ::
  (63, .invokestatic 182, 3, 148, 2, 1, .inl 0, [1437]) ::
  (66, .iadd, 1, 0, 0, 0, .inl 0, []) ::
  (67, .iaload, 1, 0, 0, 0, .inl 0, []) ::
  (68, .ifCond .ne 6, 3, 74, 0, 0, .inl 0, []) ::
  (71, .goto 61, 3, 132, 0, 0, .inl 0, []) :: s_X9_wider_74) ls st μ := by rw [s_X9_wider_44]
theorem v_X9_wider_44 : vc X P m_X9_wider h K k_X9_wider S (n + 1) 44 ls st μ = if 44 ∈ S then mAt X m_X9_wider h K 44 ls st μ else bb X P m_X9_wider h K (vc X P m_X9_wider h K k_X9_wider S n) s_X9_wider_44 ls st μ := by rw [vc_s, t_X9_wider_44]
theorem w_X9_wider_74 : bb X P m_X9_wider h K J s_X9_wider_74 ls st μ = bb X P m_X9_wider h K J ((74, .aload_n 0, 1, 0, 0, 0, .inl 0, []) ::
  (75, .invokevirtual 285, 3, 196, 1, 0, .inl 0, [1504, 8]) ::
  (78, .aload_n 0, 1, 0, 0, 0, .inl 0, []) ::
  (79, .getfield 39, 3, 8, 22, 3, .inr (.inr (16, 278, 10)), [1218]) ::
  (82, .bipush 86, 2, 0, 0, 0, .inl (nI 86), []) ::
  (84, .iload 5, 2, 5, 0, 0, .inl 0, []) ::
  (86, .iload 6, 2, 6, 0, 0, .inl 0, []) ::
  (88, .invokestatic 182, 3, 148, 2, 1, .inl 0, [1437]) ::
  (91, .iadd, 1, 0, 0, 0, .inl 0, []) ::
  (92, .dup2, 1, 0, 0, 0, .inl 0, []) ::
  (93, .iaload, 1, 0, 0, 0, .inl 0, []) ::
  (94, .iload_n 1, 1, 1, 0, 0, .inl 0, []) ::
  (95, .iadd, 1, 0, 0, 0, .inl 0, []) ::
  (96, .iastore, 1, 0, 0, 0, .inl 0, []) ::
  (97, .aload_n 0, 1, 0, 0, 0, .inl 0, []) ::
  (98, .iload_n 2, 1, 2, 0, 0, .inl 0, []) ::
  (99, .invokevirtual 297, 3, 238, 2, 1, .inl 0, [1621, 8]) ::
  (102, .istore 7, 2, 7, 0, 0, .inl 0, []) ::
  (104, .iload_n 3, 1, 3, 0, 0, .inl 0, []) ::
  (105, .iconst (-1), 1, 0, 0, 0, .inl (-1), []) ::
  (106, .if_icmp .eq 13, 3, 119, 0, 0, .inl 0, []) ::
  (109, .iload 7, 2, 7, 0, 0, .inl 0, []) ::
  (111, .iload 4, 2, 4, 0, 0, .inl 0, []) ::
  (113, .if_icmp .gt 6, 3, 119, 0, 0, .inl 0, []) ::
  (116, .goto 16, 3, 132, 0, 0, .inl 0, []) :: s_X9_wider_119) ls st μ := by rw [s_X9_wider_74]
theorem v_X9_wider_74 : vc X P m_X9_wider h K k_X9_wider S (n + 1) 74 ls st μ = if 74 ∈ S then mAt X m_X9_wider h K 74 ls st μ else bb X P m_X9_wider h K (vc X P m_X9_wider h K k_X9_wider S n) s_X9_wider_74 ls st μ := by rw [vc_s, t_X9_wider_74]
theorem w_X9_wider_119 : bb X P m_X9_wider h K J s_X9_wider_119 ls st μ = bb X P m_X9_wider h K J ((119, .bipush 10, 2, 0, 0, 0, .inl (nI 10), []) ::
  (121, .iload 5, 2, 5, 0, 0, .inl 0, []) ::
  (123, .imul, 1, 0, 0, 0, .inl 0, []) ::
  (124, .iload 6, 2, 6, 0, 0, .inl 0, []) ::
  (126, .iadd, 1, 0, 0, 0, .inl 0, []) ::
  (127, .istore_n 3, 1, 3, 0, 0, .inl 0, []) ::
  (128, .iload 7, 2, 7, 0, 0, .inl 0, []) ::
  (130, .istore 4, 2, 4, 0, 0, .inl 0, []) :: s_X9_wider_132) ls st μ := by rw [s_X9_wider_119]
theorem v_X9_wider_119 : vc X P m_X9_wider h K k_X9_wider S (n + 1) 119 ls st μ = if 119 ∈ S then mAt X m_X9_wider h K 119 ls st μ else bb X P m_X9_wider h K (vc X P m_X9_wider h K k_X9_wider S n) s_X9_wider_119 ls st μ := by rw [vc_s, t_X9_wider_119]
theorem w_X9_wider_132 : bb X P m_X9_wider h K J s_X9_wider_132 ls st μ = bb X P m_X9_wider h K J ((132, .iinc 6 1, 3, 6, 0, 0, .inl (nI 1), []) ::
  (135, .goto (-91), 3, 44, 0, 0, .inl 0, []) :: s_X9_wider_138) ls st μ := by rw [s_X9_wider_132]
theorem v_X9_wider_132 : vc X P m_X9_wider h K k_X9_wider S (n + 1) 132 ls st μ = if 132 ∈ S then mAt X m_X9_wider h K 132 ls st μ else bb X P m_X9_wider h K (vc X P m_X9_wider h K k_X9_wider S n) s_X9_wider_132 ls st μ := by rw [vc_s, t_X9_wider_132]
theorem w_X9_wider_138 : bb X P m_X9_wider h K J s_X9_wider_138 ls st μ = bb X P m_X9_wider h K J ((138, .iinc 5 1, 3, 5, 0, 0, .inl (nI 1), []) ::
  (141, .goto (-109), 3, 32, 0, 0, .inl 0, []) :: s_X9_wider_144) ls st μ := by rw [s_X9_wider_138]
theorem v_X9_wider_138 : vc X P m_X9_wider h K k_X9_wider S (n + 1) 138 ls st μ = if 138 ∈ S then mAt X m_X9_wider h K 138 ls st μ else bb X P m_X9_wider h K (vc X P m_X9_wider h K k_X9_wider S n) s_X9_wider_138 ls st μ := by rw [vc_s, t_X9_wider_138]
theorem w_X9_wider_144 : bb X P m_X9_wider h K J s_X9_wider_144 ls st μ = bb X P m_X9_wider h K J ((144, .iload_n 3, 1, 3, 0, 0, .inl 0, []) ::
  (145, .ireturn, 1, 0, 0, 0, .inl 0, []) :: []) ls st μ := by rw [s_X9_wider_144]
theorem v_X9_wider_144 : vc X P m_X9_wider h K k_X9_wider S (n + 1) 144 ls st μ = if 144 ∈ S then mAt X m_X9_wider h K 144 ls st μ else bb X P m_X9_wider h K (vc X P m_X9_wider h K k_X9_wider S n) s_X9_wider_144 ls st μ := by rw [vc_s, t_X9_wider_144]
end
section
variable {X : mC} {P : mP} {h : Nat} {K : MV → Mem → Prop} {J : mJ} {ls : List (Nat × MV)} {st : List MV} {μ : Mem} {S : List Nat} {n : Nat}
theorem w_X9_wordOf_0 : bb X P m_X9_wordOf h K J s_X9_wordOf_0 ls st μ = bb X P m_X9_wordOf h K J ((0, .iload_n 0, 1, 0, 0, 0, .inl 0, []) ::
  (1, .tableswitch 347 0 17 #[87, 101, 115, 130, 145, 160, 175, 191, 206, 222, 234, 247, 260, 275, 289, 304, 318, 333], 87, 348, 0, 0, .inl 0, [88, 102, 116, 131, 146, 161, 176, 192, 207, 223, 235, 248, 261, 276, 290, 305, 319, 334]) :: s_X9_wordOf_88) ls st μ := by rw [s_X9_wordOf_0]
theorem v_X9_wordOf_0 : vc X P m_X9_wordOf h K k_X9_wordOf S (n + 1) 0 ls st μ = if 0 ∈ S then mAt X m_X9_wordOf h K 0 ls st μ else bb X P m_X9_wordOf h K (vc X P m_X9_wordOf h K k_X9_wordOf S n) s_X9_wordOf_0 ls st μ := by rw [vc_s, t_X9_wordOf_0]
theorem w_X9_wordOf_88 : bb X P m_X9_wordOf h K J s_X9_wordOf_88 ls st μ = bb X P m_X9_wordOf h K J ((88, .bipush 103, 2, 0, 0, 0, .inl (nI 103), []) ::
  (90, .bipush 111, 2, 0, 0, 0, .inl (nI 111), []) ::
  (92, .bipush 111, 2, 0, 0, 0, .inl (nI 111), []) ::
  (94, .bipush 100, 2, 0, 0, 0, .inl (nI 100), []) ::
  (96, .iconst 0, 1, 0, 0, 0, .inl (nI 0), []) ::
  (97, .iconst 0, 1, 0, 0, 0, .inl (nI 0), []) ::
  (98, .invokestatic 126, 3, 241, 6, 2, .inl 0, [1388]) ::
  (101, .lreturn, 1, 0, 0, 0, .inl 0, []) :: s_X9_wordOf_102) ls st μ := by rw [s_X9_wordOf_88]
theorem v_X9_wordOf_88 : vc X P m_X9_wordOf h K k_X9_wordOf S (n + 1) 88 ls st μ = if 88 ∈ S then mAt X m_X9_wordOf h K 88 ls st μ else bb X P m_X9_wordOf h K (vc X P m_X9_wordOf h K k_X9_wordOf S n) s_X9_wordOf_88 ls st μ := by rw [vc_s, t_X9_wordOf_88]
theorem w_X9_wordOf_102 : bb X P m_X9_wordOf h K J s_X9_wordOf_102 ls st μ = bb X P m_X9_wordOf h K J ((102, .bipush 119, 2, 0, 0, 0, .inl (nI 119), []) ::
  (104, .bipush 111, 2, 0, 0, 0, .inl (nI 111), []) ::
  (106, .bipush 114, 2, 0, 0, 0, .inl (nI 114), []) ::
  (108, .bipush 107, 2, 0, 0, 0, .inl (nI 107), []) ::
  (110, .iconst 0, 1, 0, 0, 0, .inl (nI 0), []) ::
  (111, .iconst 0, 1, 0, 0, 0, .inl (nI 0), []) ::
  (112, .invokestatic 126, 3, 241, 6, 2, .inl 0, [1388]) ::
  (115, .lreturn, 1, 0, 0, 0, .inl 0, []) :: s_X9_wordOf_116) ls st μ := by rw [s_X9_wordOf_102]
theorem v_X9_wordOf_102 : vc X P m_X9_wordOf h K k_X9_wordOf S (n + 1) 102 ls st μ = if 102 ∈ S then mAt X m_X9_wordOf h K 102 ls st μ else bb X P m_X9_wordOf h K (vc X P m_X9_wordOf h K k_X9_wordOf S n) s_X9_wordOf_102 ls st μ := by rw [vc_s, t_X9_wordOf_102]
theorem w_X9_wordOf_116 : bb X P m_X9_wordOf h K J s_X9_wordOf_116 ls st μ = bb X P m_X9_wordOf h K J ((116, .bipush 116, 2, 0, 0, 0, .inl (nI 116), []) ::
  (118, .bipush 97, 2, 0, 0, 0, .inl (nI 97), []) ::
  (120, .bipush 107, 2, 0, 0, 0, .inl (nI 107), []) ::
  (122, .bipush 101, 2, 0, 0, 0, .inl (nI 101), []) ::
  (124, .bipush 115, 2, 0, 0, 0, .inl (nI 115), []) ::
  (126, .iconst 0, 1, 0, 0, 0, .inl (nI 0), []) ::
  (127, .invokestatic 126, 3, 241, 6, 2, .inl 0, [1388]) ::
  (130, .lreturn, 1, 0, 0, 0, .inl 0, []) :: s_X9_wordOf_131) ls st μ := by rw [s_X9_wordOf_116]
theorem v_X9_wordOf_116 : vc X P m_X9_wordOf h K k_X9_wordOf S (n + 1) 116 ls st μ = if 116 ∈ S then mAt X m_X9_wordOf h K 116 ls st μ else bb X P m_X9_wordOf h K (vc X P m_X9_wordOf h K k_X9_wordOf S n) s_X9_wordOf_116 ls st μ := by rw [vc_s, t_X9_wordOf_116]
theorem w_X9_wordOf_131 : bb X P m_X9_wordOf h K J s_X9_wordOf_131 ls st μ = bb X P m_X9_wordOf h K J ((131, .bipush 103, 2, 0, 0, 0, .inl (nI 103), []) ::
  (133, .bipush 105, 2, 0, 0, 0, .inl (nI 105), []) ::
  (135, .bipush 118, 2, 0, 0, 0, .inl (nI 118), []) ::
  (137, .bipush 101, 2, 0, 0, 0, .inl (nI 101), []) ::
  (139, .bipush 115, 2, 0, 0, 0, .inl (nI 115), []) ::
  (141, .iconst 0, 1, 0, 0, 0, .inl (nI 0), []) ::
  (142, .invokestatic 126, 3, 241, 6, 2, .inl 0, [1388]) ::
  (145, .lreturn, 1, 0, 0, 0, .inl 0, []) :: s_X9_wordOf_146) ls st μ := by rw [s_X9_wordOf_131]
theorem v_X9_wordOf_131 : vc X P m_X9_wordOf h K k_X9_wordOf S (n + 1) 131 ls st μ = if 131 ∈ S then mAt X m_X9_wordOf h K 131 ls st μ else bb X P m_X9_wordOf h K (vc X P m_X9_wordOf h K k_X9_wordOf S n) s_X9_wordOf_131 ls st μ := by rw [vc_s, t_X9_wordOf_131]
theorem w_X9_wordOf_146 : bb X P m_X9_wordOf h K J s_X9_wordOf_146 ls st μ = bb X P m_X9_wordOf h K J ((146, .bipush 109, 2, 0, 0, 0, .inl (nI 109), []) ::
  (148, .bipush 97, 2, 0, 0, 0, .inl (nI 97), []) ::
  (150, .bipush 107, 2, 0, 0, 0, .inl (nI 107), []) ::
  (152, .bipush 101, 2, 0, 0, 0, .inl (nI 101), []) ::
  (154, .bipush 115, 2, 0, 0, 0, .inl (nI 115), []) ::
  (156, .iconst 0, 1, 0, 0, 0, .inl (nI 0), []) ::
  (157, .invokestatic 126, 3, 241, 6, 2, .inl 0, [1388]) ::
  (160, .lreturn, 1, 0, 0, 0, .inl 0, []) :: s_X9_wordOf_161) ls st μ := by rw [s_X9_wordOf_146]
theorem v_X9_wordOf_146 : vc X P m_X9_wordOf h K k_X9_wordOf S (n + 1) 146 ls st μ = if 146 ∈ S then mAt X m_X9_wordOf h K 146 ls st μ else bb X P m_X9_wordOf h K (vc X P m_X9_wordOf h K k_X9_wordOf S n) s_X9_wordOf_146 ls st μ := by rw [vc_s, t_X9_wordOf_146]
theorem w_X9_wordOf_161 : bb X P m_X9_wordOf h K J s_X9_wordOf_161 ls st μ = bb X P m_X9_wordOf h K J ((161, .bipush 102, 2, 0, 0, 0, .inl (nI 102), []) ::
  (163, .bipush 101, 2, 0, 0, 0, .inl (nI 101), []) ::
  (165, .bipush 101, 2, 0, 0, 0, .inl (nI 101), []) ::
  (167, .bipush 100, 2, 0, 0, 0, .inl (nI 100), []) ::
  (169, .bipush 115, 2, 0, 0, 0, .inl (nI 115), []) ::
  (171, .iconst 0, 1, 0, 0, 0, .inl (nI 0), []) ::
  (172, .invokestatic 126, 3, 241, 6, 2, .inl 0, [1388]) ::
  (175, .lreturn, 1, 0, 0, 0, .inl 0, []) :: s_X9_wordOf_176) ls st μ := by rw [s_X9_wordOf_161]
theorem v_X9_wordOf_161 : vc X P m_X9_wordOf h K k_X9_wordOf S (n + 1) 161 ls st μ = if 161 ∈ S then mAt X m_X9_wordOf h K 161 ls st μ else bb X P m_X9_wordOf h K (vc X P m_X9_wordOf h K k_X9_wordOf S n) s_X9_wordOf_161 ls st μ := by rw [vc_s, t_X9_wordOf_161]
theorem w_X9_wordOf_176 : bb X P m_X9_wordOf h K J s_X9_wordOf_176 ls st μ = bb X P m_X9_wordOf h K J ((176, .bipush 106, 2, 0, 0, 0, .inl (nI 106), []) ::
  (178, .bipush 111, 2, 0, 0, 0, .inl (nI 111), []) ::
  (180, .bipush 105, 2, 0, 0, 0, .inl (nI 105), []) ::
  (182, .bipush 110, 2, 0, 0, 0, .inl (nI 110), []) ::
  (184, .bipush 101, 2, 0, 0, 0, .inl (nI 101), []) ::
  (186, .bipush 100, 2, 0, 0, 0, .inl (nI 100), []) ::
  (188, .invokestatic 126, 3, 241, 6, 2, .inl 0, [1388]) ::
  (191, .lreturn, 1, 0, 0, 0, .inl 0, []) :: s_X9_wordOf_192) ls st μ := by rw [s_X9_wordOf_176]
theorem v_X9_wordOf_176 : vc X P m_X9_wordOf h K k_X9_wordOf S (n + 1) 176 ls st μ = if 176 ∈ S then mAt X m_X9_wordOf h K 176 ls st μ else bb X P m_X9_wordOf h K (vc X P m_X9_wordOf h K k_X9_wordOf S n) s_X9_wordOf_176 ls st μ := by rw [vc_s, t_X9_wordOf_176]
theorem w_X9_wordOf_192 : bb X P m_X9_wordOf h K J s_X9_wordOf_192 ls st μ = bb X P m_X9_wordOf h K J ((192, .bipush 115, 2, 0, 0, 0, .inl (nI 115), []) ::
  (194, .bipush 116, 2, 0, 0, 0, .inl (nI 116), []) ::
  (196, .bipush 111, 2, 0, 0, 0, .inl (nI 111), []) ::
  (198, .bipush 112, 2, 0, 0, 0, .inl (nI 112), []) ::
  (200, .bipush 115, 2, 0, 0, 0, .inl (nI 115), []) ::
  (202, .iconst 0, 1, 0, 0, 0, .inl (nI 0), []) ::
  (203, .invokestatic 126, 3, 241, 6, 2, .inl 0, [1388]) ::
  (206, .lreturn, 1, 0, 0, 0, .inl 0, []) :: s_X9_wordOf_207) ls st μ := by rw [s_X9_wordOf_192]
theorem v_X9_wordOf_192 : vc X P m_X9_wordOf h K k_X9_wordOf S (n + 1) 192 ls st μ = if 192 ∈ S then mAt X m_X9_wordOf h K 192 ls st μ else bb X P m_X9_wordOf h K (vc X P m_X9_wordOf h K k_X9_wordOf S n) s_X9_wordOf_192 ls st μ := by rw [vc_s, t_X9_wordOf_192]
theorem w_X9_wordOf_207 : bb X P m_X9_wordOf h K J s_X9_wordOf_207 ls st μ = bb X P m_X9_wordOf h K J ((207, .bipush 98, 2, 0, 0, 0, .inl (nI 98), []) ::
  (209, .bipush 114, 2, 0, 0, 0, .inl (nI 114), []) ::
  (211, .bipush 105, 2, 0, 0, 0, .inl (nI 105), []) ::
  (213, .bipush 110, 2, 0, 0, 0, .inl (nI 110), []) ::
  (215, .bipush 103, 2, 0, 0, 0, .inl (nI 103), []) ::
  (217, .bipush 115, 2, 0, 0, 0, .inl (nI 115), []) ::
  (219, .invokestatic 126, 3, 241, 6, 2, .inl 0, [1388]) ::
  (222, .lreturn, 1, 0, 0, 0, .inl 0, []) :: s_X9_wordOf_223) ls st μ := by rw [s_X9_wordOf_207]
theorem v_X9_wordOf_207 : vc X P m_X9_wordOf h K k_X9_wordOf S (n + 1) 207 ls st μ = if 207 ∈ S then mAt X m_X9_wordOf h K 207 ls st μ else bb X P m_X9_wordOf h K (vc X P m_X9_wordOf h K k_X9_wordOf S n) s_X9_wordOf_207 ls st μ := by rw [vc_s, t_X9_wordOf_207]
theorem w_X9_wordOf_223 : bb X P m_X9_wordOf h K J s_X9_wordOf_223 ls st μ = bb X P m_X9_wordOf h K J ((223, .bipush 111, 2, 0, 0, 0, .inl (nI 111), []) ::
  (225, .bipush 114, 2, 0, 0, 0, .inl (nI 114), []) ::
  (227, .iconst 0, 1, 0, 0, 0, .inl (nI 0), []) ::
  (228, .iconst 0, 1, 0, 0, 0, .inl (nI 0), []) ::
  (229, .iconst 0, 1, 0, 0, 0, .inl (nI 0), []) ::
  (230, .iconst 0, 1, 0, 0, 0, .inl (nI 0), []) ::
  (231, .invokestatic 126, 3, 241, 6, 2, .inl 0, [1388]) ::
  (234, .lreturn, 1, 0, 0, 0, .inl 0, []) :: s_X9_wordOf_235) ls st μ := by rw [s_X9_wordOf_223]
theorem v_X9_wordOf_223 : vc X P m_X9_wordOf h K k_X9_wordOf S (n + 1) 223 ls st μ = if 223 ∈ S then mAt X m_X9_wordOf h K 223 ls st μ else bb X P m_X9_wordOf h K (vc X P m_X9_wordOf h K k_X9_wordOf S n) s_X9_wordOf_223 ls st μ := by rw [vc_s, t_X9_wordOf_223]
theorem w_X9_wordOf_235 : bb X P m_X9_wordOf h K J s_X9_wordOf_235 ls st μ = bb X P m_X9_wordOf h K J ((235, .bipush 97, 2, 0, 0, 0, .inl (nI 97), []) ::
  (237, .bipush 110, 2, 0, 0, 0, .inl (nI 110), []) ::
  (239, .bipush 100, 2, 0, 0, 0, .inl (nI 100), []) ::
  (241, .iconst 0, 1, 0, 0, 0, .inl (nI 0), []) ::
  (242, .iconst 0, 1, 0, 0, 0, .inl (nI 0), []) ::
  (243, .iconst 0, 1, 0, 0, 0, .inl (nI 0), []) ::
  (244, .invokestatic 126, 3, 241, 6, 2, .inl 0, [1388]) ::
  (247, .lreturn, 1, 0, 0, 0, .inl 0, []) :: s_X9_wordOf_248) ls st μ := by rw [s_X9_wordOf_235]
theorem v_X9_wordOf_235 : vc X P m_X9_wordOf h K k_X9_wordOf S (n + 1) 235 ls st μ = if 235 ∈ S then mAt X m_X9_wordOf h K 235 ls st μ else bb X P m_X9_wordOf h K (vc X P m_X9_wordOf h K k_X9_wordOf S n) s_X9_wordOf_235 ls st μ := by rw [vc_s, t_X9_wordOf_235]
theorem w_X9_wordOf_248 : bb X P m_X9_wordOf h K J s_X9_wordOf_248 ls st μ = bb X P m_X9_wordOf h K J ((248, .bipush 110, 2, 0, 0, 0, .inl (nI 110), []) ::
  (250, .bipush 111, 2, 0, 0, 0, .inl (nI 111), []) ::
  (252, .bipush 116, 2, 0, 0, 0, .inl (nI 116), []) ::
  (254, .iconst 0, 1, 0, 0, 0, .inl (nI 0), []) ::
  (255, .iconst 0, 1, 0, 0, 0, .inl (nI 0), []) ::
  (256, .iconst 0, 1, 0, 0, 0, .inl (nI 0), []) ::
  (257, .invokestatic 126, 3, 241, 6, 2, .inl 0, [1388]) ::
  (260, .lreturn, 1, 0, 0, 0, .inl 0, []) :: s_X9_wordOf_261) ls st μ := by rw [s_X9_wordOf_248]
theorem v_X9_wordOf_248 : vc X P m_X9_wordOf h K k_X9_wordOf S (n + 1) 248 ls st μ = if 248 ∈ S then mAt X m_X9_wordOf h K 248 ls st μ else bb X P m_X9_wordOf h K (vc X P m_X9_wordOf h K k_X9_wordOf S n) s_X9_wordOf_248 ls st μ := by rw [vc_s, t_X9_wordOf_248]
theorem w_X9_wordOf_261 : bb X P m_X9_wordOf h K J s_X9_wordOf_261 ls st μ = bb X P m_X9_wordOf h K J ((261, .bipush 119, 2, 0, 0, 0, .inl (nI 119), []) ::
  (263, .bipush 97, 2, 0, 0, 0, .inl (nI 97), []) ::
  (265, .bipush 110, 2, 0, 0, 0, .inl (nI 110), []) ::
  (267, .bipush 116, 2, 0, 0, 0, .inl (nI 116), []) ::
  (269, .bipush 115, 2, 0, 0, 0, .inl (nI 115), []) ::
  (271, .iconst 0, 1, 0, 0, 0, .inl (nI 0), []) ::
  (272, .invokestatic 126, 3, 241, 6, 2, .inl 0, [1388]) ::
  (275, .lreturn, 1, 0, 0, 0, .inl 0, []) :: s_X9_wordOf_276) ls st μ := by rw [s_X9_wordOf_261]
theorem v_X9_wordOf_261 : vc X P m_X9_wordOf h K k_X9_wordOf S (n + 1) 261 ls st μ = if 261 ∈ S then mAt X m_X9_wordOf h K 261 ls st μ else bb X P m_X9_wordOf h K (vc X P m_X9_wordOf h K k_X9_wordOf S n) s_X9_wordOf_261 ls st μ := by rw [vc_s, t_X9_wordOf_261]
theorem w_X9_wordOf_276 : bb X P m_X9_wordOf h K J s_X9_wordOf_276 ls st μ = bb X P m_X9_wordOf h K J ((276, .bipush 108, 2, 0, 0, 0, .inl (nI 108), []) ::
  (278, .bipush 101, 2, 0, 0, 0, .inl (nI 101), []) ::
  (280, .bipush 116, 2, 0, 0, 0, .inl (nI 116), []) ::
  (282, .bipush 115, 2, 0, 0, 0, .inl (nI 115), []) ::
  (284, .iconst 0, 1, 0, 0, 0, .inl (nI 0), []) ::
  (285, .iconst 0, 1, 0, 0, 0, .inl (nI 0), []) ::
  (286, .invokestatic 126, 3, 241, 6, 2, .inl 0, [1388]) ::
  (289, .lreturn, 1, 0, 0, 0, .inl 0, []) :: s_X9_wordOf_290) ls st μ := by rw [s_X9_wordOf_276]
theorem v_X9_wordOf_276 : vc X P m_X9_wordOf h K k_X9_wordOf S (n + 1) 276 ls st μ = if 276 ∈ S then mAt X m_X9_wordOf h K 276 ls st μ else bb X P m_X9_wordOf h K (vc X P m_X9_wordOf h K k_X9_wordOf S n) s_X9_wordOf_276 ls st μ := by rw [vc_s, t_X9_wordOf_276]
theorem w_X9_wordOf_290 : bb X P m_X9_wordOf h K J s_X9_wordOf_290 ls st μ = bb X P m_X9_wordOf h K J ((290, .bipush 102, 2, 0, 0, 0, .inl (nI 102), []) ::
  (292, .bipush 105, 2, 0, 0, 0, .inl (nI 105), []) ::
  (294, .bipush 110, 2, 0, 0, 0, .inl (nI 110), []) ::
  (296, .bipush 100, 2, 0, 0, 0, .inl (nI 100), []) ::
  (298, .bipush 115, 2, 0, 0, 0, .inl (nI 115), []) ::
  (300, .iconst 0, 1, 0, 0, 0, .inl (nI 0), []) ::
  (301, .invokestatic 126, 3, 241, 6, 2, .inl 0, [1388]) ::
  (304, .lreturn, 1, 0, 0, 0, .inl 0, []) :: s_X9_wordOf_305) ls st μ := by rw [s_X9_wordOf_290]
theorem v_X9_wordOf_290 : vc X P m_X9_wordOf h K k_X9_wordOf S (n + 1) 290 ls st μ = if 290 ∈ S then mAt X m_X9_wordOf h K 290 ls st μ else bb X P m_X9_wordOf h K (vc X P m_X9_wordOf h K k_X9_wordOf S n) s_X9_wordOf_290 ls st μ := by rw [vc_s, t_X9_wordOf_290]
theorem w_X9_wordOf_305 : bb X P m_X9_wordOf h K J s_X9_wordOf_305 ls st μ = bb X P m_X9_wordOf h K J ((305, .bipush 119, 2, 0, 0, 0, .inl (nI 119), []) ::
  (307, .bipush 101, 2, 0, 0, 0, .inl (nI 101), []) ::
  (309, .bipush 110, 2, 0, 0, 0, .inl (nI 110), []) ::
  (311, .bipush 116, 2, 0, 0, 0, .inl (nI 116), []) ::
  (313, .iconst 0, 1, 0, 0, 0, .inl (nI 0), []) ::
  (314, .iconst 0, 1, 0, 0, 0, .inl (nI 0), []) ::
  (315, .invokestatic 126, 3, 241, 6, 2, .inl 0, [1388]) ::
  (318, .lreturn, 1, 0, 0, 0, .inl 0, []) :: s_X9_wordOf_319) ls st μ := by rw [s_X9_wordOf_305]
theorem v_X9_wordOf_305 : vc X P m_X9_wordOf h K k_X9_wordOf S (n + 1) 305 ls st μ = if 305 ∈ S then mAt X m_X9_wordOf h K 305 ls st μ else bb X P m_X9_wordOf h K (vc X P m_X9_wordOf h K k_X9_wordOf S n) s_X9_wordOf_305 ls st μ := by rw [vc_s, t_X9_wordOf_305]
theorem w_X9_wordOf_319 : bb X P m_X9_wordOf h K J s_X9_wordOf_319 ls st μ = bb X P m_X9_wordOf h K J ((319, .bipush 115, 2, 0, 0, 0, .inl (nI 115), []) ::
  (321, .bipush 116, 2, 0, 0, 0, .inl (nI 116), []) ::
  (323, .bipush 111, 2, 0, 0, 0, .inl (nI 111), []) ::
  (325, .bipush 111, 2, 0, 0, 0, .inl (nI 111), []) ::
  (327, .bipush 100, 2, 0, 0, 0, .inl (nI 100), []) ::
  (329, .iconst 0, 1, 0, 0, 0, .inl (nI 0), []) ::
  (330, .invokestatic 126, 3, 241, 6, 2, .inl 0, [1388]) ::
  (333, .lreturn, 1, 0, 0, 0, .inl 0, []) :: s_X9_wordOf_334) ls st μ := by rw [s_X9_wordOf_319]
theorem v_X9_wordOf_319 : vc X P m_X9_wordOf h K k_X9_wordOf S (n + 1) 319 ls st μ = if 319 ∈ S then mAt X m_X9_wordOf h K 319 ls st μ else bb X P m_X9_wordOf h K (vc X P m_X9_wordOf h K k_X9_wordOf S n) s_X9_wordOf_319 ls st μ := by rw [vc_s, t_X9_wordOf_319]
theorem w_X9_wordOf_334 : bb X P m_X9_wordOf h K J s_X9_wordOf_334 ls st μ = bb X P m_X9_wordOf h K J ((334, .bipush 109, 2, 0, 0, 0, .inl (nI 109), []) ::
  (336, .bipush 97, 2, 0, 0, 0, .inl (nI 97), []) ::
  (338, .bipush 100, 2, 0, 0, 0, .inl (nI 100), []) ::
  (340, .bipush 101, 2, 0, 0, 0, .inl (nI 101), []) ::
  (342, .iconst 0, 1, 0, 0, 0, .inl (nI 0), []) ::
  (343, .iconst 0, 1, 0, 0, 0, .inl (nI 0), []) ::
  (344, .invokestatic 126, 3, 241, 6, 2, .inl 0, [1388]) ::
  (347, .lreturn, 1, 0, 0, 0, .inl 0, []) :: s_X9_wordOf_348) ls st μ := by rw [s_X9_wordOf_334]
theorem v_X9_wordOf_334 : vc X P m_X9_wordOf h K k_X9_wordOf S (n + 1) 334 ls st μ = if 334 ∈ S then mAt X m_X9_wordOf h K 334 ls st μ else bb X P m_X9_wordOf h K (vc X P m_X9_wordOf h K k_X9_wordOf S n) s_X9_wordOf_334 ls st μ := by rw [vc_s, t_X9_wordOf_334]
theorem w_X9_wordOf_348 : bb X P m_X9_wordOf h K J s_X9_wordOf_348 ls st μ = bb X P m_X9_wordOf h K J ((348, .bipush 112, 2, 0, 0, 0, .inl (nI 112), []) ::
  (350, .bipush 108, 2, 0, 0, 0, .inl (nI 108), []) ::
  (352, .bipush 97, 2, 0, 0, 0, .inl (nI 97), []) ::
  (354, .bipush 99, 2, 0, 0, 0, .inl (nI 99), []) ::
  (356, .bipush 101, 2, 0, 0, 0, .inl (nI 101), []) ::
  (358, .iconst 0, 1, 0, 0, 0, .inl (nI 0), []) ::
  (359, .invokestatic 126, 3, 241, 6, 2, .inl 0, [1388]) ::
  (362, .lreturn, 1, 0, 0, 0, .inl 0, []) :: []) ls st μ := by rw [s_X9_wordOf_348]
theorem v_X9_wordOf_348 : vc X P m_X9_wordOf h K k_X9_wordOf S (n + 1) 348 ls st μ = if 348 ∈ S then mAt X m_X9_wordOf h K 348 ls st μ else bb X P m_X9_wordOf h K (vc X P m_X9_wordOf h K k_X9_wordOf S n) s_X9_wordOf_348 ls st μ := by rw [vc_s, t_X9_wordOf_348]
end
section
variable {X : mC} {P : mP} {h : Nat} {K : MV → Mem → Prop} {J : mJ} {ls : List (Nat × MV)} {st : List MV} {μ : Mem} {S : List Nat} {n : Nat}
theorem w_X9_work_0 : bb X P m_X9_work h K J s_X9_work_0 ls st μ = bb X P m_X9_work h K J ((0, .aload_n 0, 1, 0, 0, 0, .inl 0, []) ::
  (1, .iload_n 1, 1, 1, 0, 0, .inl 0, []) ::
  (2, .invokevirtual 225, 3, 190, 2, 1, .inl 0, [1468, 8]) ::
  (5, .ifCond .eq 12, 3, 17, 0, 0, .inl 0, []) ::
  (8, .iload_n 2, 1, 2, 0, 0, .inl 0, []) ::
  (9, .iconst 0, 1, 0, 0, 0, .inl (nI 0), []) ::
  (10, .iconst 5, 1, 0, 0, 0, .inl (nI 5), []) ::
  (11, .invokestatic 143, 3, 177, 3, 1, .inl 0, [1414]) ::
  (14, .ifCond .ne 8, 3, 22, 0, 0, .inl 0, []) :: s_X9_work_17) ls st μ := by rw [s_X9_work_0]
theorem v_X9_work_0 : vc X P m_X9_work h K k_X9_work S (n + 1) 0 ls st μ = if 0 ∈ S then mAt X m_X9_work h K 0 ls st μ else bb X P m_X9_work h K (vc X P m_X9_work h K k_X9_work S n) s_X9_work_0 ls st μ := by rw [vc_s, t_X9_work_0]
theorem w_X9_work_17 : bb X P m_X9_work h K J s_X9_work_17 ls st μ = bb X P m_X9_work h K J ((17, .aload_n 0, 1, 0, 0, 0, .inl 0, []) ::
  (18, .invokevirtual 228, 3, 235, 1, 1, .inl 0, [1476, 8]) ::
  (21, .ireturn, 1, 0, 0, 0, .inl 0, []) :: s_X9_work_22) ls st μ := by rw [s_X9_work_17]
theorem v_X9_work_17 : vc X P m_X9_work h K k_X9_work S (n + 1) 17 ls st μ = if 17 ∈ S then mAt X m_X9_work h K 17 ls st μ else bb X P m_X9_work h K (vc X P m_X9_work h K k_X9_work S n) s_X9_work_17 ls st μ := by rw [vc_s, t_X9_work_17]
theorem w_X9_work_22 : bb X P m_X9_work h K J s_X9_work_22 ls st μ = bb X P m_X9_work h K J ((22, .aload_n 0, 1, 0, 0, 0, .inl 0, []) ::
  (23, .iconst 0, 1, 0, 0, 0, .inl (nI 0), []) ::
  (24, .putfield 76, 3, 8, 0, 0, .inl 0, [1196]) ::
  (27, .iload_n 2, 1, 2, 0, 0, .inl 0, []) ::
  (28, .iconst 3, 1, 0, 0, 0, .inl (nI 3), []) ::
  (29, .if_icmp .ge 32, 3, 61, 0, 0, .inl 0, []) ::
  (32, .aload_n 0, 1, 0, 0, 0, .inl 0, []) ::
  (33, .getfield 13, 3, 8, 14, 3, .inr (.inr (16, 925, 2)), [1210]) ::
  (36, .iload_n 2, 1, 2, 0, 0, .inl 0, []) ::
  (37, .ifCond .ne 8, 3, 45, 0, 0, .inl 0, []) ::
  (40, .bipush 14, 2, 0, 0, 0, .inl (nI 14), []) ::
  (42, .goto 15, 3, 57, 0, 0, .inl 0, []) :: s_X9_work_45) ls st μ := by rw [s_X9_work_22]
theorem v_X9_work_22 : vc X P m_X9_work h K k_X9_work S (n + 1) 22 ls st μ = if 22 ∈ S then mAt X m_X9_work h K 22 ls st μ else bb X P m_X9_work h K (vc X P m_X9_work h K k_X9_work S n) s_X9_work_22 ls st μ := by rw [vc_s, t_X9_work_22]
theorem w_X9_work_45 : bb X P m_X9_work h K J s_X9_work_45 ls st μ = bb X P m_X9_work h K J ((45, .iload_n 2, 1, 2, 0, 0, .inl 0, []) ::
  (46, .iconst 1, 1, 0, 0, 0, .inl (nI 1), []) ::
  (47, .if_icmp .ne 8, 3, 55, 0, 0, .inl 0, []) ::
  (50, .bipush 22, 2, 0, 0, 0, .inl (nI 22), []) ::
  (52, .goto 5, 3, 57, 0, 0, .inl 0, []) :: s_X9_work_55) ls st μ := by rw [s_X9_work_45]
theorem v_X9_work_45 : vc X P m_X9_work h K k_X9_work S (n + 1) 45 ls st μ = if 45 ∈ S then mAt X m_X9_work h K 45 ls st μ else bb X P m_X9_work h K (vc X P m_X9_work h K k_X9_work S n) s_X9_work_45 ls st μ := by rw [vc_s, t_X9_work_45]
theorem w_X9_work_55 : bb X P m_X9_work h K J s_X9_work_55 ls st μ = bb X P m_X9_work h K J ((55, .bipush 30, 2, 0, 0, 0, .inl (nI 30), []) :: s_X9_work_57) ls st μ := by rw [s_X9_work_55]
theorem v_X9_work_55 : vc X P m_X9_work h K k_X9_work S (n + 1) 55 ls st μ = if 55 ∈ S then mAt X m_X9_work h K 55 ls st μ else bb X P m_X9_work h K (vc X P m_X9_work h K k_X9_work S n) s_X9_work_55 ls st μ := by rw [vc_s, t_X9_work_55]
theorem w_X9_work_57 : bb X P m_X9_work h K J s_X9_work_57 ls st μ = bb X P m_X9_work h K J ((57, .iload_n 1, 1, 1, 0, 0, .inl 0, []) ::
  (58, .iadd, 1, 0, 0, 0, .inl 0, []) ::
  (59, .iaload, 1, 0, 0, 0, .inl 0, []) ::
  (60, .ireturn, 1, 0, 0, 0, .inl 0, []) :: s_X9_work_61) ls st μ := by rw [s_X9_work_57]
theorem v_X9_work_57 : vc X P m_X9_work h K k_X9_work S (n + 1) 57 ls st μ = if 57 ∈ S then mAt X m_X9_work h K 57 ls st μ else bb X P m_X9_work h K (vc X P m_X9_work h K k_X9_work S n) s_X9_work_57 ls st μ := by rw [vc_s, t_X9_work_57]
theorem w_X9_work_61 : bb X P m_X9_work h K J s_X9_work_61 ls st μ = bb X P m_X9_work h K J ((61, .aload_n 0, 1, 0, 0, 0, .inl 0, []) ::
  (62, .iload_n 2, 1, 2, 0, 0, .inl 0, []) ::
  (63, .iconst 3, 1, 0, 0, 0, .inl (nI 3), []) ::
  (64, .if_icmp .ne 8, 3, 72, 0, 0, .inl 0, []) ::
  (67, .bipush 38, 2, 0, 0, 0, .inl (nI 38), []) ::
  (69, .goto 17, 3, 86, 0, 0, .inl 0, []) :: s_X9_work_72) ls st μ := by rw [s_X9_work_61]
theorem v_X9_work_61 : vc X P m_X9_work h K k_X9_work S (n + 1) 61 ls st μ = if 61 ∈ S then mAt X m_X9_work h K 61 ls st μ else bb X P m_X9_work h K (vc X P m_X9_work h K k_X9_work S n) s_X9_work_61 ls st μ := by rw [vc_s, t_X9_work_61]
theorem w_X9_work_72 : bb X P m_X9_work h K J s_X9_work_72 ls st μ = bb X P m_X9_work h K J ((72, .iload_n 2, 1, 2, 0, 0, .inl 0, []) ::
  (73, .iconst 4, 1, 0, 0, 0, .inl (nI 4), []) ::
  (74, .if_icmp .ne 9, 3, 83, 0, 0, .inl 0, []) ::
  (77, .sipush 182, 3, 0, 0, 0, .inl (nI 182), []) ::
  (80, .goto 6, 3, 86, 0, 0, .inl 0, []) :: s_X9_work_83) ls st μ := by rw [s_X9_work_72]
theorem v_X9_work_72 : vc X P m_X9_work h K k_X9_work S (n + 1) 72 ls st μ = if 72 ∈ S then mAt X m_X9_work h K 72 ls st μ else bb X P m_X9_work h K (vc X P m_X9_work h K k_X9_work S n) s_X9_work_72 ls st μ := by rw [vc_s, t_X9_work_72]
theorem w_X9_work_83 : bb X P m_X9_work h K J s_X9_work_83 ls st μ = bb X P m_X9_work h K J ((83, .sipush 230, 3, 0, 0, 0, .inl (nI 230), []) :: s_X9_work_86) ls st μ := by rw [s_X9_work_83]
theorem v_X9_work_83 : vc X P m_X9_work h K k_X9_work S (n + 1) 83 ls st μ = if 83 ∈ S then mAt X m_X9_work h K 83 ls st μ else bb X P m_X9_work h K (vc X P m_X9_work h K k_X9_work S n) s_X9_work_83 ls st μ := by rw [vc_s, t_X9_work_83]
theorem w_X9_work_86 : bb X P m_X9_work h K J s_X9_work_86 ls st μ = bb X P m_X9_work h K J ((86, .iload_n 1, 1, 1, 0, 0, .inl 0, []) ::
  (87, .invokevirtual 231, 3, 166, 3, 1, .inl 0, [1480, 8]) ::
  (90, .ireturn, 1, 0, 0, 0, .inl 0, []) :: []) ls st μ := by rw [s_X9_work_86]
theorem v_X9_work_86 : vc X P m_X9_work h K k_X9_work S (n + 1) 86 ls st μ = if 86 ∈ S then mAt X m_X9_work h K 86 ls st μ else bb X P m_X9_work h K (vc X P m_X9_work h K k_X9_work S n) s_X9_work_86 ls st μ := by rw [vc_s, t_X9_work_86]
end
section
variable {X : mC} {P : mP} {h : Nat} {K : MV → Mem → Prop} {J : mJ} {ls : List (Nat × MV)} {st : List MV} {μ : Mem} {S : List Nat} {n : Nat}
theorem w_X9_works_0 : bb X P m_X9_works h K J s_X9_works_0 ls st μ = bb X P m_X9_works h K J ((0, .aload_n 0, 1, 0, 0, 0, .inl 0, []) ::
  (1, .getfield 13, 3, 8, 14, 3, .inr (.inr (16, 925, 2)), [1210]) ::
  (4, .iconst 1, 1, 0, 0, 0, .inl (nI 1), []) ::
  (5, .iaload, 1, 0, 0, 0, .inl 0, []) ::
  (6, .ireturn, 1, 0, 0, 0, .inl 0, []) :: []) ls st μ := by rw [s_X9_works_0]
theorem v_X9_works_0 : vc X P m_X9_works h K k_X9_works S (n + 1) 0 ls st μ = if 0 ∈ S then mAt X m_X9_works h K 0 ls st μ else bb X P m_X9_works h K (vc X P m_X9_works h K k_X9_works S n) s_X9_works_0 ls st μ := by rw [vc_s, t_X9_works_0]
end
section
variable {X : mC} {P : mP} {h : Nat} {K : MV → Mem → Prop} {J : mJ} {ls : List (Nat × MV)} {st : List MV} {μ : Mem} {S : List Nat} {n : Nat}
theorem w_X9_worth_0 : bb X P m_X9_worth h K J s_X9_worth_0 ls st μ = bb X P m_X9_worth h K J ((0, .aload_n 0, 1, 0, 0, 0, .inl 0, []) ::
  (1, .iconst 0, 1, 0, 0, 0, .inl (nI 0), []) ::
  (2, .putfield 76, 3, 8, 0, 0, .inl 0, [1196]) ::
  (5, .iload_n 1, 1, 1, 0, 0, .inl 0, []) ::
  (6, .invokestatic 303, 3, 176, 1, 1, .inl 0, [1614]) ::
  (9, .ifCond .eq 10, 3, 19, 0, 0, .inl 0, []) ::
  (12, .aload_n 0, 1, 0, 0, 0, .inl 0, []) ::
  (13, .invokevirtual 219, 3, 253, 1, 1, .inl 0, [1472, 8]) ::
  (16, .ifCond .ne 5, 3, 21, 0, 0, .inl 0, []) :: s_X9_worth_19) ls st μ := by rw [s_X9_worth_0]
theorem v_X9_worth_0 : vc X P m_X9_worth h K k_X9_worth S (n + 1) 0 ls st μ = if 0 ∈ S then mAt X m_X9_worth h K 0 ls st μ else bb X P m_X9_worth h K (vc X P m_X9_worth h K k_X9_worth S n) s_X9_worth_0 ls st μ := by rw [vc_s, t_X9_worth_0]
theorem w_X9_worth_19 : bb X P m_X9_worth h K J s_X9_worth_19 ls st μ = bb X P m_X9_worth h K J ((19, .iconst (-1), 1, 0, 0, 0, .inl (-1), []) ::
  (20, .ireturn, 1, 0, 0, 0, .inl 0, []) :: s_X9_worth_21) ls st μ := by rw [s_X9_worth_19]
theorem v_X9_worth_19 : vc X P m_X9_worth h K k_X9_worth S (n + 1) 19 ls st μ = if 19 ∈ S then mAt X m_X9_worth h K 19 ls st μ else bb X P m_X9_worth h K (vc X P m_X9_worth h K k_X9_worth S n) s_X9_worth_19 ls st μ := by rw [vc_s, t_X9_worth_19]
theorem w_X9_worth_21 : bb X P m_X9_worth h K J s_X9_worth_21 ls st μ = bb X P m_X9_worth h K J ((21, .aload_n 0, 1, 0, 0, 0, .inl 0, []) ::
  (22, .iload_n 1, 1, 1, 0, 0, .inl 0, []) ::
  (23, .invokevirtual 312, 3, 197, 2, 0, .inl 0, [1637, 8]) ::
  (26, .aload_n 0, 1, 0, 0, 0, .inl 0, []) ::
  (27, .aload_n 0, 1, 0, 0, 0, .inl 0, []) ::
  (28, .invokevirtual 219, 3, 253, 1, 1, .inl 0, [1472, 8]) ::
  (31, .putfield 315, 3, 8, 33, 0, .inl 0, [1229]) ::
  (34, .aload_n 0, 1, 0, 0, 0, .inl 0, []) ::
  (35, .aload_n 0, 1, 0, 0, 0, .inl 0, []) ::
  (36, .getfield 315, 3, 8, 33, 0, .inl 0, [1229]) ::
  (39, .invokestatic 318, 3, 210, 1, 2, .inl 0, [1641]) ::
  (42, .putfield 321, 3, 8, 34, 1, .inl 0, [1230]) ::
  (45, .iconst 0, 1, 0, 0, 0, .inl (nI 0), []) ::
  (46, .istore_n 2, 1, 2, 0, 0, .inl 0, []) :: s_X9_worth_47) ls st μ := by rw [s_X9_worth_21]
theorem v_X9_worth_21 : vc X P m_X9_worth h K k_X9_worth S (n + 1) 21 ls st μ = if 21 ∈ S then mAt X m_X9_worth h K 21 ls st μ else bb X P m_X9_worth h K (vc X P m_X9_worth h K k_X9_worth S n) s_X9_worth_21 ls st μ := by rw [vc_s, t_X9_worth_21]
theorem w_X9_worth_47 : bb X P m_X9_worth h K J s_X9_worth_47 ls st μ = bb X P m_X9_worth h K J ((47, .iload_n 2, 1, 2, 0, 0, .inl 0, []) ::
  (48, .aload_n 0, 1, 0, 0, 0, .inl 0, []) ::
  (49, .getfield 315, 3, 8, 33, 0, .inl 0, [1229]) ::
  (52, .if_icmp .ge 95, 3, 147, 0, 0, .inl 0, []) ::
  (55, .aload_n 0, 1, 0, 0, 0, .inl 0, []) ::
  (56, .getfield 60, 3, 8, 32, 3, .inr (.inr (17, 8, 17)), [1228]) ::
  (59, .iload_n 2, 1, 2, 0, 0, .inl 0, []) ::
  (60, .lconst 0, 1, 0, 0, 0, .inr (.inl 0), []) ::
  (61, .lastore, 1, 0, 0, 0, .inl 0, []) ::
  (62, .iconst 0, 1, 0, 0, 0, .inl (nI 0), []) ::
  (63, .istore_n 3, 1, 3, 0, 0, .inl 0, []) :: s_X9_worth_64) ls st μ := by rw [s_X9_worth_47]
theorem v_X9_worth_47 : vc X P m_X9_worth h K k_X9_worth S (n + 1) 47 ls st μ = if 47 ∈ S then mAt X m_X9_worth h K 47 ls st μ else bb X P m_X9_worth h K (vc X P m_X9_worth h K k_X9_worth S n) s_X9_worth_47 ls st μ := by rw [vc_s, t_X9_worth_47]
theorem w_X9_worth_64 : bb X P m_X9_worth h K J s_X9_worth_64 ls st μ = bb X P m_X9_worth h K J ((64, .aload_n 0, 1, 0, 0, 0, .inl 0, []) ::
  (65, .iload_n 3, 1, 3, 0, 0, .inl 0, []) ::
  (66, .invokevirtual 300, 3, 181, 2, 1, .inl 0, [1610, 8]) ::
  (69, .ifCond .eq 72, 3, 141, 0, 0, .inl 0, []) ::
  (72, .iload_n 3, 1, 3, 0, 0, .inl 0, []) ::
  (73, .iload_n 2, 1, 2, 0, 0, .inl 0, []) ::
  (74, .invokestatic 250, 3, 169, 2, 1, .inl 0, [1543]) ::
  (77, .ifCond .eq 6, 3, 83, 0, 0, .inl 0, []) ::
  (80, .goto 55, 3, 135, 0, 0, .inl 0, []) :: s_X9_worth_83) ls st μ := by rw [s_X9_worth_64]
theorem v_X9_worth_64 : vc X P m_X9_worth h K k_X9_worth S (n + 1) 64 ls st μ = if 64 ∈ S then mAt X m_X9_worth h K 64 ls st μ else bb X P m_X9_worth h K (vc X P m_X9_worth h K k_X9_worth S n) s_X9_worth_64 ls st μ := by rw [vc_s, t_X9_worth_64]
theorem w_X9_worth_83 : bb X P m_X9_worth h K J s_X9_worth_83 ls st μ = bb X P m_X9_worth h K J ((83, .iload_n 3, 1, 3, 0, 0, .inl 0, []) ::
  (84, .invokestatic 324, 3, 143, 1, 1, .inl 0, [1644]) ::
  (87, .istore 4, 2, 4, 0, 0, .inl 0, []) ::
  (89, .aload_n 0, 1, 0, 0, 0, .inl 0, []) ::
  (90, .getfield 60, 3, 8, 32, 3, .inr (.inr (17, 8, 17)), [1228]) ::
  (93, .iload_n 2, 1, 2, 0, 0, .inl 0, []) ::
  (94, .dup2, 1, 0, 0, 0, .inl 0, []) ::
  (95, .laload, 1, 0, 0, 0, .inl 0, []) ::
  (96, .iload 4, 2, 4, 0, 0, .inl 0, []) ::
  (98, .invokestatic 318, 3, 210, 1, 2, .inl 0, [1641]) ::
  (101, .aload_n 0, 1, 0, 0, 0, .inl 0, []) ::
  (102, .getfield 315, 3, 8, 33, 0, .inl 0, [1229]) ::
  (105, .iconst 1, 1, 0, 0, 0, .inl (nI 1), []) ::
  (106, .isub, 1, 0, 0, 0, .inl 0, []) ::
  (107, .iload 4, 2, 4, 0, 0, .inl 0, []) ::
  (109, .isub, 1, 0, 0, 0, .inl 0, []) ::
  (110, .invokestatic 318, 3, 210, 1, 2, .inl 0, [1641]) ::
  (113, .lmul, 1, 0, 0, 0, .inl 0, []) ::
  (114, .aload_n 0, 1, 0, 0, 0, .inl 0, []) ::
  (115, .getfield 57, 3, 8, 31, 3, .inr (.inr (16, 256, 16)), [1227]) ::
  (118, .iload_n 3, 1, 3, 0, 0, .inl 0, []) ::
  (119, .iconst 1, 1, 0, 0, 0, .inl (nI 1), []) ::
  (120, .iload_n 2, 1, 2, 0, 0, .inl 0, []) ::
  (121, .ishl, 1, 0, 0, 0, .inl 0, []) ::
  (122, .ior, 1, 0, 0, 0, .inl 0, []) ::
  (123, .iaload, 1, 0, 0, 0, .inl 0, []) ::
  (124, .aload_n 0, 1, 0, 0, 0, .inl 0, []) ::
  (125, .getfield 57, 3, 8, 31, 3, .inr (.inr (16, 256, 16)), [1227]) ::
  (128, .iload_n 3, 1, 3, 0, 0, .inl 0, []) ::
  (129, .iaload, 1, 0, 0, 0, .inl 0, []) ::
  (130, .isub, 1, 0, 0, 0, .inl 0, []) ::
  (131, .i2l, 1, 0, 0, 0, .inl 0, []) ::
  (132, .lmul, 1, 0, 0, 0, .inl 0, []) ::
  (133, .ladd, 1, 0, 0, 0, .inl 0, []) ::
  (134, .lastore, 1, 0, 0, 0, .inl 0, []) :: s_X9_worth_135) ls st μ := by rw [s_X9_worth_83]
theorem v_X9_worth_83 : vc X P m_X9_worth h K k_X9_worth S (n + 1) 83 ls st μ = if 83 ∈ S then mAt X m_X9_worth h K 83 ls st μ else bb X P m_X9_worth h K (vc X P m_X9_worth h K k_X9_worth S n) s_X9_worth_83 ls st μ := by rw [vc_s, t_X9_worth_83]
theorem w_X9_worth_135 : bb X P m_X9_worth h K J s_X9_worth_135 ls st μ = bb X P m_X9_worth h K J ((135, .iinc 3 1, 3, 3, 0, 0, .inl (nI 1), []) ::
  (138, .goto (-74), 3, 64, 0, 0, .inl 0, []) :: s_X9_worth_141) ls st μ := by rw [s_X9_worth_135]
theorem v_X9_worth_135 : vc X P m_X9_worth h K k_X9_worth S (n + 1) 135 ls st μ = if 135 ∈ S then mAt X m_X9_worth h K 135 ls st μ else bb X P m_X9_worth h K (vc X P m_X9_worth h K k_X9_worth S n) s_X9_worth_135 ls st μ := by rw [vc_s, t_X9_worth_135]
theorem w_X9_worth_141 : bb X P m_X9_worth h K J s_X9_worth_141 ls st μ = bb X P m_X9_worth h K J ((141, .iinc 2 1, 3, 2, 0, 0, .inl (nI 1), []) ::
  (144, .goto (-97), 3, 47, 0, 0, .inl 0, []) :: s_X9_worth_147) ls st μ := by rw [s_X9_worth_141]
theorem v_X9_worth_141 : vc X P m_X9_worth h K k_X9_worth S (n + 1) 141 ls st μ = if 141 ∈ S then mAt X m_X9_worth h K 141 ls st μ else bb X P m_X9_worth h K (vc X P m_X9_worth h K k_X9_worth S n) s_X9_worth_141 ls st μ := by rw [vc_s, t_X9_worth_141]
theorem w_X9_worth_147 : bb X P m_X9_worth h K J s_X9_worth_147 ls st μ = bb X P m_X9_worth h K J ((147, .aload_n 0, 1, 0, 0, 0, .inl 0, []) ::
  (148, .getfield 57, 3, 8, 31, 3, .inr (.inr (16, 256, 16)), [1227]) ::
  (151, .aload_n 0, 1, 0, 0, 0, .inl 0, []) ::
  (152, .invokevirtual 309, 3, 137, 1, 1, .inl 0, [1629, 8]) ::
  (155, .iaload, 1, 0, 0, 0, .inl 0, []) ::
  (156, .ireturn, 1, 0, 0, 0, .inl 0, []) :: []) ls st μ := by rw [s_X9_worth_147]
theorem v_X9_worth_147 : vc X P m_X9_worth h K k_X9_worth S (n + 1) 147 ls st μ = if 147 ∈ S then mAt X m_X9_worth h K 147 ls st μ else bb X P m_X9_worth h K (vc X P m_X9_worth h K k_X9_worth S n) s_X9_worth_147 ls st μ := by rw [vc_s, t_X9_worth_147]
end
section
variable {X : mC} {P : mP} {h : Nat} {K : MV → Mem → Prop} {J : mJ} {ls : List (Nat × MV)} {st : List MV} {μ : Mem} {S : List Nat} {n : Nat}
theorem w_X9_worthOf_0 : bb X P m_X9_worthOf h K J s_X9_worthOf_0 ls st μ = bb X P m_X9_worthOf h K J ((0, .iload_n 1, 1, 1, 0, 0, .inl 0, []) ::
  (1, .ifCond .lt 20, 3, 21, 0, 0, .inl 0, []) ::
  (4, .iload_n 1, 1, 1, 0, 0, .inl 0, []) ::
  (5, .aload_n 0, 1, 0, 0, 0, .inl 0, []) ::
  (6, .getfield 315, 3, 8, 33, 0, .inl 0, [1229]) ::
  (9, .if_icmp .ge 12, 3, 21, 0, 0, .inl 0, []) ::
  (12, .iload_n 2, 1, 2, 0, 0, .inl 0, []) ::
  (13, .iconst 0, 1, 0, 0, 0, .inl (nI 0), []) ::
  (14, .iconst 1, 1, 0, 0, 0, .inl (nI 1), []) ::
  (15, .invokestatic 143, 3, 177, 3, 1, .inl 0, [1414]) ::
  (18, .ifCond .ne 10, 3, 28, 0, 0, .inl 0, []) :: s_X9_worthOf_21) ls st μ := by rw [s_X9_worthOf_0]
theorem v_X9_worthOf_0 : vc X P m_X9_worthOf h K k_X9_worthOf S (n + 1) 0 ls st μ = if 0 ∈ S then mAt X m_X9_worthOf h K 0 ls st μ else bb X P m_X9_worthOf h K (vc X P m_X9_worthOf h K k_X9_worthOf S n) s_X9_worthOf_0 ls st μ := by rw [vc_s, t_X9_worthOf_0]
theorem w_X9_worthOf_21 : bb X P m_X9_worthOf h K J s_X9_worthOf_21 ls st μ = bb X P m_X9_worthOf h K J ((21, .aload_n 0, 1, 0, 0, 0, .inl 0, []) ::
  (22, .invokevirtual 228, 3, 235, 1, 1, .inl 0, [1476, 8]) ::
  (25, .pop, 1, 0, 0, 0, .inl 0, []) ::
  (26, .lconst 0, 1, 0, 0, 0, .inr (.inl 0), []) ::
  (27, .lreturn, 1, 0, 0, 0, .inl 0, []) :: s_X9_worthOf_28) ls st μ := by rw [s_X9_worthOf_21]
theorem v_X9_worthOf_21 : vc X P m_X9_worthOf h K k_X9_worthOf S (n + 1) 21 ls st μ = if 21 ∈ S then mAt X m_X9_worthOf h K 21 ls st μ else bb X P m_X9_worthOf h K (vc X P m_X9_worthOf h K k_X9_worthOf S n) s_X9_worthOf_21 ls st μ := by rw [vc_s, t_X9_worthOf_21]
theorem w_X9_worthOf_28 : bb X P m_X9_worthOf h K J s_X9_worthOf_28 ls st μ = bb X P m_X9_worthOf h K J ((28, .aload_n 0, 1, 0, 0, 0, .inl 0, []) ::
  (29, .iconst 0, 1, 0, 0, 0, .inl (nI 0), []) ::
  (30, .putfield 76, 3, 8, 0, 0, .inl 0, [1196]) ::
  (33, .aload_n 0, 1, 0, 0, 0, .inl 0, []) ::
  (34, .getfield 60, 3, 8, 32, 3, .inr (.inr (17, 8, 17)), [1228]) ::
  (37, .iload_n 1, 1, 1, 0, 0, .inl 0, []) ::
  (38, .laload, 1, 0, 0, 0, .inl 0, []) ::
  (39, .lconst 0, 1, 0, 0, 0, .inr (.inl 0), []) ::
  (40, .lcmp, 1, 0, 0, 0, .inl 0, []) ::
  (41, .ifCond .ge 13, 3, 54, 0, 0, .inl 0, []) ::
  (44, .aload_n 0, 1, 0, 0, 0, .inl 0, []) ::
  (45, .getfield 60, 3, 8, 32, 3, .inr (.inr (17, 8, 17)), [1228]) ::
  (48, .iload_n 1, 1, 1, 0, 0, .inl 0, []) ::
  (49, .laload, 1, 0, 0, 0, .inl 0, []) ::
  (50, .lneg, 1, 0, 0, 0, .inl 0, []) ::
  (51, .goto 9, 3, 60, 0, 0, .inl 0, []) :: s_X9_worthOf_54) ls st μ := by rw [s_X9_worthOf_28]
theorem v_X9_worthOf_28 : vc X P m_X9_worthOf h K k_X9_worthOf S (n + 1) 28 ls st μ = if 28 ∈ S then mAt X m_X9_worthOf h K 28 ls st μ else bb X P m_X9_worthOf h K (vc X P m_X9_worthOf h K k_X9_worthOf S n) s_X9_worthOf_28 ls st μ := by rw [vc_s, t_X9_worthOf_28]
theorem w_X9_worthOf_54 : bb X P m_X9_worthOf h K J s_X9_worthOf_54 ls st μ = bb X P m_X9_worthOf h K J ((54, .aload_n 0, 1, 0, 0, 0, .inl 0, []) ::
  (55, .getfield 60, 3, 8, 32, 3, .inr (.inr (17, 8, 17)), [1228]) ::
  (58, .iload_n 1, 1, 1, 0, 0, .inl 0, []) ::
  (59, .laload, 1, 0, 0, 0, .inl 0, []) :: s_X9_worthOf_60) ls st μ := by rw [s_X9_worthOf_54]
theorem v_X9_worthOf_54 : vc X P m_X9_worthOf h K k_X9_worthOf S (n + 1) 54 ls st μ = if 54 ∈ S then mAt X m_X9_worthOf h K 54 ls st μ else bb X P m_X9_worthOf h K (vc X P m_X9_worthOf h K k_X9_worthOf S n) s_X9_worthOf_54 ls st μ := by rw [vc_s, t_X9_worthOf_54]
theorem w_X9_worthOf_60 : bb X P m_X9_worthOf h K J s_X9_worthOf_60 ls st μ = bb X P m_X9_worthOf h K J ((60, .lstore_n 3, 1, 3, 0, 0, .inl 0, []) ::
  (61, .aload_n 0, 1, 0, 0, 0, .inl 0, []) ::
  (62, .getfield 321, 3, 8, 34, 1, .inl 0, [1230]) ::
  (65, .lstore 5, 2, 5, 0, 0, .inl 0, []) :: s_X9_worthOf_67) ls st μ := by rw [s_X9_worthOf_60]
theorem v_X9_worthOf_60 : vc X P m_X9_worthOf h K k_X9_worthOf S (n + 1) 60 ls st μ = if 60 ∈ S then mAt X m_X9_worthOf h K 60 ls st μ else bb X P m_X9_worthOf h K (vc X P m_X9_worthOf h K k_X9_worthOf S n) s_X9_worthOf_60 ls st μ := by rw [vc_s, t_X9_worthOf_60]
theorem w_X9_worthOf_67 : bb X P m_X9_worthOf h K J s_X9_worthOf_67 ls st μ = bb X P m_X9_worthOf h K J ((67, .lload 5, 2, 5, 0, 0, .inl 0, []) ::
  (69, .lconst 0, 1, 0, 0, 0, .inr (.inl 0), []) ::
  (70, .lcmp, 1, 0, 0, 0, .inl 0, []) ::
  (71, .ifCond .le 19, 3, 90, 0, 0, .inl 0, []) ::
  (74, .lload_n 3, 1, 3, 0, 0, .inl 0, []) ::
  (75, .lload 5, 2, 5, 0, 0, .inl 0, []) ::
  (77, .lrem, 1, 0, 0, 0, .inl 0, []) ::
  (78, .lstore 7, 2, 7, 0, 0, .inl 0, []) ::
  (80, .lload 5, 2, 5, 0, 0, .inl 0, []) ::
  (82, .lstore_n 3, 1, 3, 0, 0, .inl 0, []) ::
  (83, .lload 7, 2, 7, 0, 0, .inl 0, []) ::
  (85, .lstore 5, 2, 5, 0, 0, .inl 0, []) ::
  (87, .goto (-20), 3, 67, 0, 0, .inl 0, []) :: s_X9_worthOf_90) ls st μ := by rw [s_X9_worthOf_67]
theorem v_X9_worthOf_67 : vc X P m_X9_worthOf h K k_X9_worthOf S (n + 1) 67 ls st μ = if 67 ∈ S then mAt X m_X9_worthOf h K 67 ls st μ else bb X P m_X9_worthOf h K (vc X P m_X9_worthOf h K k_X9_worthOf S n) s_X9_worthOf_67 ls st μ := by rw [vc_s, t_X9_worthOf_67]
theorem w_X9_worthOf_90 : bb X P m_X9_worthOf h K J s_X9_worthOf_90 ls st μ = bb X P m_X9_worthOf h K J ((90, .iload_n 2, 1, 2, 0, 0, .inl 0, []) ::
  (91, .ifCond .ne 12, 3, 103, 0, 0, .inl 0, []) ::
  (94, .aload_n 0, 1, 0, 0, 0, .inl 0, []) ::
  (95, .getfield 60, 3, 8, 32, 3, .inr (.inr (17, 8, 17)), [1228]) ::
  (98, .iload_n 1, 1, 1, 0, 0, .inl 0, []) ::
  (99, .laload, 1, 0, 0, 0, .inl 0, []) ::
  (100, .goto 7, 3, 107, 0, 0, .inl 0, []) :: s_X9_worthOf_103) ls st μ := by rw [s_X9_worthOf_90]
theorem v_X9_worthOf_90 : vc X P m_X9_worthOf h K k_X9_worthOf S (n + 1) 90 ls st μ = if 90 ∈ S then mAt X m_X9_worthOf h K 90 ls st μ else bb X P m_X9_worthOf h K (vc X P m_X9_worthOf h K k_X9_worthOf S n) s_X9_worthOf_90 ls st μ := by rw [vc_s, t_X9_worthOf_90]
theorem w_X9_worthOf_103 : bb X P m_X9_worthOf h K J s_X9_worthOf_103 ls st μ = bb X P m_X9_worthOf h K J ((103, .aload_n 0, 1, 0, 0, 0, .inl 0, []) ::
  (104, .getfield 321, 3, 8, 34, 1, .inl 0, [1230]) :: s_X9_worthOf_107) ls st μ := by rw [s_X9_worthOf_103]
theorem v_X9_worthOf_103 : vc X P m_X9_worthOf h K k_X9_worthOf S (n + 1) 103 ls st μ = if 103 ∈ S then mAt X m_X9_worthOf h K 103 ls st μ else bb X P m_X9_worthOf h K (vc X P m_X9_worthOf h K k_X9_worthOf S n) s_X9_worthOf_103 ls st μ := by rw [vc_s, t_X9_worthOf_103]
theorem w_X9_worthOf_107 : bb X P m_X9_worthOf h K J s_X9_worthOf_107 ls st μ = bb X P m_X9_worthOf h K J ((107, .lload_n 3, 1, 3, 0, 0, .inl 0, []) ::
  (108, .ldiv, 1, 0, 0, 0, .inl 0, []) ::
  (109, .lreturn, 1, 0, 0, 0, .inl 0, []) :: []) ls st μ := by rw [s_X9_worthOf_107]
theorem v_X9_worthOf_107 : vc X P m_X9_worthOf h K k_X9_worthOf S (n + 1) 107 ls st μ = if 107 ∈ S then mAt X m_X9_worthOf h K 107 ls st μ else bb X P m_X9_worthOf h K (vc X P m_X9_worthOf h K k_X9_worthOf S n) s_X9_worthOf_107 ls st μ := by rw [vc_s, t_X9_worthOf_107]
end
section
variable {X : mC} {P : mP} {h : Nat} {K : MV → Mem → Prop} {J : mJ} {ls : List (Nat × MV)} {st : List MV} {μ : Mem} {S : List Nat} {n : Nat}
theorem w_X9_write_0 : bb X P m_X9_write h K J s_X9_write_0 ls st μ = bb X P m_X9_write h K J ((0, .aload_n 0, 1, 0, 0, 0, .inl 0, []) ::
  (1, .iconst 0, 1, 0, 0, 0, .inl (nI 0), []) ::
  (2, .putfield 76, 3, 8, 0, 0, .inl 0, [1196]) ::
  (5, .aload_n 0, 1, 0, 0, 0, .inl 0, []) ::
  (6, .invokevirtual 288, 3, 180, 1, 1, .inl 0, [1516, 8]) ::
  (9, .ifCond .ne 5, 3, 14, 0, 0, .inl 0, []) ::
  (12, .iconst (-1), 1, 0, 0, 0, .inl (-1), []) ::
  (13, .ireturn, 1, 0, 0, 0, .inl 0, []) :: s_X9_write_14) ls st μ := by rw [s_X9_write_0]
theorem v_X9_write_0 : vc X P m_X9_write h K k_X9_write S (n + 1) 0 ls st μ = if 0 ∈ S then mAt X m_X9_write h K 0 ls st μ else bb X P m_X9_write h K (vc X P m_X9_write h K k_X9_write S n) s_X9_write_0 ls st μ := by rw [vc_s, t_X9_write_0]
theorem w_X9_write_14 : bb X P m_X9_write h K J s_X9_write_14 ls st μ = bb X P m_X9_write h K J ((14, .aload_n 0, 1, 0, 0, 0, .inl 0, []) ::
  (15, .iconst 0, 1, 0, 0, 0, .inl (nI 0), []) ::
  (16, .putfield 343, 3, 8, 38, 0, .inl 0, [1234]) ::
  (19, .iconst 0, 1, 0, 0, 0, .inl (nI 0), []) ::
  (20, .istore_n 1, 1, 1, 0, 0, .inl 0, []) :: s_X9_write_21) ls st μ := by rw [s_X9_write_14]
theorem v_X9_write_14 : vc X P m_X9_write h K k_X9_write S (n + 1) 14 ls st μ = if 14 ∈ S then mAt X m_X9_write h K 14 ls st μ else bb X P m_X9_write h K (vc X P m_X9_write h K k_X9_write S n) s_X9_write_14 ls st μ := by rw [vc_s, t_X9_write_14]
theorem w_X9_write_21 : bb X P m_X9_write h K J s_X9_write_21 ls st μ = bb X P m_X9_write h K J ((21, .iload_n 1, 1, 1, 0, 0, .inl 0, []) ::
  (22, .aload_n 0, 1, 0, 0, 0, .inl 0, []) ::
  (23, .invokevirtual 219, 3, 253, 1, 1, .inl 0, [1472, 8]) ::
  (26, .if_icmp .ge 68, 3, 94, 0, 0, .inl 0, []) ::
  (29, .aload_n 0, 1, 0, 0, 0, .inl 0, []) ::
  (30, .aload_n 0, 1, 0, 0, 0, .inl 0, []) ::
  (31, .getfield 25, 3, 8, 18, 3, .inr (.inr (17, 14, 6)), [1214]) ::
  (34, .bipush 6, 2, 0, 0, 0, .inl (nI 6), []) ::
  (36, .iload_n 1, 1, 1, 0, 0, .inl 0, []) ::
  (37, .iadd, 1, 0, 0, 0, .inl 0, []) ::
  (38, .laload, 1, 0, 0, 0, .inl 0, []) ::
  (39, .invokevirtual 349, 3, 214, 2, 0, .inl 0, [1727, 8]) ::
  (42, .aload_n 0, 1, 0, 0, 0, .inl 0, []) ::
  (43, .bipush 32, 2, 0, 0, 0, .inl (nI 32), []) ::
  (45, .invokevirtual 346, 3, 213, 2, 0, .inl 0, [1731, 8]) ::
  (48, .aload_n 0, 1, 0, 0, 0, .inl 0, []) ::
  (49, .aload_n 0, 1, 0, 0, 0, .inl 0, []) ::
  (50, .getfield 13, 3, 8, 14, 3, .inr (.inr (16, 925, 2)), [1210]) ::
  (53, .sipush 833, 3, 0, 0, 0, .inl (nI 833), []) ::
  (56, .iload_n 1, 1, 1, 0, 0, .inl 0, []) ::
  (57, .iadd, 1, 0, 0, 0, .inl 0, []) ::
  (58, .iaload, 1, 0, 0, 0, .inl 0, []) ::
  (59, .invokevirtual 353, 3, 215, 2, 0, .inl 0, [1735, 8]) ::
  (62, .aload_n 0, 1, 0, 0, 0, .inl 0, []) ::
  (63, .bipush 32, 2, 0, 0, 0, .inl (nI 32), []) ::
  (65, .invokevirtual 346, 3, 213, 2, 0, .inl 0, [1731, 8]) ::
  (68, .aload_n 0, 1, 0, 0, 0, .inl 0, []) ::
  (69, .aload_n 0, 1, 0, 0, 0, .inl 0, []) ::
  (70, .getfield 13, 3, 8, 14, 3, .inr (.inr (16, 925, 2)), [1210]) ::
  (73, .sipush 849, 3, 0, 0, 0, .inl (nI 849), []) ::
  (76, .iload_n 1, 1, 1, 0, 0, .inl 0, []) ::
  (77, .iadd, 1, 0, 0, 0, .inl 0, []) ::
  (78, .iaload, 1, 0, 0, 0, .inl 0, []) ::
  (79, .invokevirtual 353, 3, 215, 2, 0, .inl 0, [1735, 8]) ::
  (82, .aload_n 0, 1, 0, 0, 0, .inl 0, []) ::
  (83, .bipush 59, 2, 0, 0, 0, .inl (nI 59), []) ::
  (85, .invokevirtual 346, 3, 213, 2, 0, .inl 0, [1731, 8]) ::
  (88, .iinc 1 1, 3, 1, 0, 0, .inl (nI 1), []) ::
  (91, .goto (-70), 3, 21, 0, 0, .inl 0, []) :: s_X9_write_94) ls st μ := by rw [s_X9_write_21]
theorem v_X9_write_21 : vc X P m_X9_write h K k_X9_write S (n + 1) 21 ls st μ = if 21 ∈ S then mAt X m_X9_write h K 21 ls st μ else bb X P m_X9_write h K (vc X P m_X9_write h K k_X9_write S n) s_X9_write_21 ls st μ := by rw [vc_s, t_X9_write_21]
theorem w_X9_write_94 : bb X P m_X9_write h K J s_X9_write_94 ls st μ = bb X P m_X9_write h K J ((94, .aload_n 0, 1, 0, 0, 0, .inl 0, []) ::
  (95, .getfield 343, 3, 8, 38, 0, .inl 0, [1234]) ::
  (98, .ireturn, 1, 0, 0, 0, .inl 0, []) :: []) ls st μ := by rw [s_X9_write_94]
theorem v_X9_write_94 : vc X P m_X9_write h K k_X9_write S (n + 1) 94 ls st μ = if 94 ∈ S then mAt X m_X9_write h K 94 ls st μ else bb X P m_X9_write h K (vc X P m_X9_write h K k_X9_write S n) s_X9_write_94 ls st μ := by rw [vc_s, t_X9_write_94]
end
