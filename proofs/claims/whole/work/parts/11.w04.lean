section
variable {X : mC} {P : mP} {h : Nat} {K : MV → Mem → Prop} {J : mJ} {ls : List (Nat × MV)} {st : List MV} {μ : Mem} {S : List Nat} {n : Nat}
theorem w_X9_findIn_0 : bb X P m_X9_findIn h K J s_X9_findIn_0 ls st μ = bb X P m_X9_findIn h K J ((0, .iconst 0, 1, 0, 0, 0, .inl (nI 0), []) ::
  (1, .istore 5, 2, 5, 0, 0, .inl 0, []) :: s_X9_findIn_3) ls st μ := by rw [s_X9_findIn_0]
theorem v_X9_findIn_0 : vc X P m_X9_findIn h K k_X9_findIn S (n + 1) 0 ls st μ = if 0 ∈ S then mAt X m_X9_findIn h K 0 ls st μ else bb X P m_X9_findIn h K (vc X P m_X9_findIn h K k_X9_findIn S n) s_X9_findIn_0 ls st μ := by rw [vc_s, t_X9_findIn_0]
theorem w_X9_findIn_3 : bb X P m_X9_findIn h K J s_X9_findIn_3 ls st μ = bb X P m_X9_findIn h K J ((3, .iload 5, 2, 5, 0, 0, .inl 0, []) ::
  (5, .iload_n 2, 1, 2, 0, 0, .inl 0, []) ::
  (6, .if_icmp .ge 23, 3, 29, 0, 0, .inl 0, []) ::
  (9, .aload_n 0, 1, 0, 0, 0, .inl 0, []) ::
  (10, .iload_n 1, 1, 1, 0, 0, .inl 0, []) ::
  (11, .iload 5, 2, 5, 0, 0, .inl 0, []) ::
  (13, .iadd, 1, 0, 0, 0, .inl 0, []) ::
  (14, .laload, 1, 0, 0, 0, .inl 0, []) ::
  (15, .lload_n 3, 1, 3, 0, 0, .inl 0, []) ::
  (16, .lcmp, 1, 0, 0, 0, .inl 0, []) ::
  (17, .ifCond .ne 6, 3, 23, 0, 0, .inl 0, []) ::
  (20, .iload 5, 2, 5, 0, 0, .inl 0, []) ::
  (22, .ireturn, 1, 0, 0, 0, .inl 0, []) :: s_X9_findIn_23) ls st μ := by rw [s_X9_findIn_3]
theorem v_X9_findIn_3 : vc X P m_X9_findIn h K k_X9_findIn S (n + 1) 3 ls st μ = if 3 ∈ S then mAt X m_X9_findIn h K 3 ls st μ else bb X P m_X9_findIn h K (vc X P m_X9_findIn h K k_X9_findIn S n) s_X9_findIn_3 ls st μ := by rw [vc_s, t_X9_findIn_3]
theorem w_X9_findIn_23 : bb X P m_X9_findIn h K J s_X9_findIn_23 ls st μ = bb X P m_X9_findIn h K J ((23, .iinc 5 1, 3, 5, 0, 0, .inl (nI 1), []) ::
  (26, .goto (-23), 3, 3, 0, 0, .inl 0, []) :: s_X9_findIn_29) ls st μ := by rw [s_X9_findIn_23]
theorem v_X9_findIn_23 : vc X P m_X9_findIn h K k_X9_findIn S (n + 1) 23 ls st μ = if 23 ∈ S then mAt X m_X9_findIn h K 23 ls st μ else bb X P m_X9_findIn h K (vc X P m_X9_findIn h K k_X9_findIn S n) s_X9_findIn_23 ls st μ := by rw [vc_s, t_X9_findIn_23]
theorem w_X9_findIn_29 : bb X P m_X9_findIn h K J s_X9_findIn_29 ls st μ = bb X P m_X9_findIn h K J ((29, .iconst (-1), 1, 0, 0, 0, .inl (-1), []) ::
  (30, .ireturn, 1, 0, 0, 0, .inl 0, []) :: []) ls st μ := by rw [s_X9_findIn_29]
theorem v_X9_findIn_29 : vc X P m_X9_findIn h K k_X9_findIn S (n + 1) 29 ls st μ = if 29 ∈ S then mAt X m_X9_findIn h K 29 ls st μ else bb X P m_X9_findIn h K (vc X P m_X9_findIn h K k_X9_findIn S n) s_X9_findIn_29 ls st μ := by rw [vc_s, t_X9_findIn_29]
end
section
variable {X : mC} {P : mP} {h : Nat} {K : MV → Mem → Prop} {J : mJ} {ls : List (Nat × MV)} {st : List MV} {μ : Mem} {S : List Nat} {n : Nat}
theorem w_X9_go_0 : bb X P m_X9_go h K J s_X9_go_0 ls st μ = bb X P m_X9_go h K J ((0, .aload_n 0, 1, 0, 0, 0, .inl 0, []) ::
  (1, .getfield 89, 3, 8, 5, 0, .inl 0, [1201]) ::
  (4, .aload_n 0, 1, 0, 0, 0, .inl 0, []) ::
  (5, .getfield 86, 3, 8, 3, 0, .inl 0, [1199]) ::
  (8, .if_icmp .ge 44, 3, 52, 0, 0, .inl 0, []) ::
  (11, .aload_n 0, 1, 0, 0, 0, .inl 0, []) ::
  (12, .getfield 7, 3, 8, 1, 3, .inr (.inr (16, 940, 1)), [1197]) ::
  (15, .aload_n 0, 1, 0, 0, 0, .inl 0, []) ::
  (16, .getfield 89, 3, 8, 5, 0, .inl 0, [1201]) ::
  (19, .iaload, 1, 0, 0, 0, .inl 0, []) ::
  (20, .bipush 32, 2, 0, 0, 0, .inl (nI 32), []) ::
  (22, .if_icmp .eq 17, 3, 39, 0, 0, .inl 0, []) ::
  (25, .aload_n 0, 1, 0, 0, 0, .inl 0, []) ::
  (26, .getfield 7, 3, 8, 1, 3, .inr (.inr (16, 940, 1)), [1197]) ::
  (29, .aload_n 0, 1, 0, 0, 0, .inl 0, []) ::
  (30, .getfield 89, 3, 8, 5, 0, .inl 0, [1201]) ::
  (33, .iaload, 1, 0, 0, 0, .inl 0, []) ::
  (34, .bipush 10, 2, 0, 0, 0, .inl (nI 10), []) ::
  (36, .if_icmp .ne 16, 3, 52, 0, 0, .inl 0, []) :: s_X9_go_39) ls st μ := by rw [s_X9_go_0]
theorem v_X9_go_0 : vc X P m_X9_go h K k_X9_go S (n + 1) 0 ls st μ = if 0 ∈ S then mAt X m_X9_go h K 0 ls st μ else bb X P m_X9_go h K (vc X P m_X9_go h K k_X9_go S n) s_X9_go_0 ls st μ := by rw [vc_s, t_X9_go_0]
theorem w_X9_go_39 : bb X P m_X9_go h K J s_X9_go_39 ls st μ = bb X P m_X9_go h K J ((39, .aload_n 0, 1, 0, 0, 0, .inl 0, []) ::
  (40, .dup, 1, 0, 0, 0, .inl 0, []) ::
  (41, .getfield 89, 3, 8, 5, 0, .inl 0, [1201]) ::
  (44, .iconst 1, 1, 0, 0, 0, .inl (nI 1), []) ::
  (45, .iadd, 1, 0, 0, 0, .inl 0, []) ::
  (46, .putfield 89, 3, 8, 5, 0, .inl 0, [1201]) ::
  (49, .goto (-49), 3, 0, 0, 0, .inl 0, []) :: s_X9_go_52) ls st μ := by rw [s_X9_go_39]
theorem v_X9_go_39 : vc X P m_X9_go h K k_X9_go S (n + 1) 39 ls st μ = if 39 ∈ S then mAt X m_X9_go h K 39 ls st μ else bb X P m_X9_go h K (vc X P m_X9_go h K k_X9_go S n) s_X9_go_39 ls st μ := by rw [vc_s, t_X9_go_39]
theorem w_X9_go_52 : bb X P m_X9_go h K J s_X9_go_52 ls st μ = bb X P m_X9_go h K J ((52, .aload_n 0, 1, 0, 0, 0, .inl 0, []) ::
  (53, .aload_n 0, 1, 0, 0, 0, .inl 0, []) ::
  (54, .getfield 89, 3, 8, 5, 0, .inl 0, [1201]) ::
  (57, .putfield 92, 3, 8, 6, 0, .inl 0, [1202]) ::
  (60, .aload_n 0, 1, 0, 0, 0, .inl 0, []) ::
  (61, .getfield 86, 3, 8, 3, 0, .inl 0, [1199]) ::
  (64, .aload_n 0, 1, 0, 0, 0, .inl 0, []) ::
  (65, .getfield 95, 3, 8, 4, 0, .inl 0, [1200]) ::
  (68, .if_icmp .le 28, 3, 96, 0, 0, .inl 0, []) ::
  (71, .aload_n 0, 1, 0, 0, 0, .inl 0, []) ::
  (72, .getfield 92, 3, 8, 6, 0, .inl 0, [1202]) ::
  (75, .aload_n 0, 1, 0, 0, 0, .inl 0, []) ::
  (76, .getfield 95, 3, 8, 4, 0, .inl 0, [1200]) ::
  (79, .if_icmp .lt 17, 3, 96, 0, 0, .inl 0, []) ::
  (82, .aload_n 0, 1, 0, 0, 0, .inl 0, []) ::
  (83, .aload_n 0, 1, 0, 0, 0, .inl 0, []) ::
  (84, .getfield 95, 3, 8, 4, 0, .inl 0, [1200]) ::
  (87, .putfield 92, 3, 8, 6, 0, .inl 0, [1202]) ::
  (90, .aload_n 0, 1, 0, 0, 0, .inl 0, []) ::
  (91, .iconst 1, 1, 0, 0, 0, .inl (nI 1), []) ::
  (92, .putfield 98, 3, 8, 7, 0, .inl 0, [1203]) ::
  (95, .return_, 1, 0, 0, 0, .inl 0, []) :: s_X9_go_96) ls st μ := by rw [s_X9_go_52]
theorem v_X9_go_52 : vc X P m_X9_go h K k_X9_go S (n + 1) 52 ls st μ = if 52 ∈ S then mAt X m_X9_go h K 52 ls st μ else bb X P m_X9_go h K (vc X P m_X9_go h K k_X9_go S n) s_X9_go_52 ls st μ := by rw [vc_s, t_X9_go_52]
theorem w_X9_go_96 : bb X P m_X9_go h K J s_X9_go_96 ls st μ = bb X P m_X9_go h K J ((96, .aload_n 0, 1, 0, 0, 0, .inl 0, []) ::
  (97, .getfield 89, 3, 8, 5, 0, .inl 0, [1201]) ::
  (100, .aload_n 0, 1, 0, 0, 0, .inl 0, []) ::
  (101, .getfield 86, 3, 8, 3, 0, .inl 0, [1199]) ::
  (104, .if_icmp .lt 9, 3, 113, 0, 0, .inl 0, []) ::
  (107, .aload_n 0, 1, 0, 0, 0, .inl 0, []) ::
  (108, .iconst 0, 1, 0, 0, 0, .inl (nI 0), []) ::
  (109, .putfield 98, 3, 8, 7, 0, .inl 0, [1203]) ::
  (112, .return_, 1, 0, 0, 0, .inl 0, []) :: s_X9_go_113) ls st μ := by rw [s_X9_go_96]
theorem v_X9_go_96 : vc X P m_X9_go h K k_X9_go S (n + 1) 96 ls st μ = if 96 ∈ S then mAt X m_X9_go h K 96 ls st μ else bb X P m_X9_go h K (vc X P m_X9_go h K k_X9_go S n) s_X9_go_96 ls st μ := by rw [vc_s, t_X9_go_96]
theorem w_X9_go_113 : bb X P m_X9_go h K J s_X9_go_113 ls st μ = bb X P m_X9_go h K J ((113, .aload_n 0, 1, 0, 0, 0, .inl 0, []) ::
  (114, .getfield 7, 3, 8, 1, 3, .inr (.inr (16, 940, 1)), [1197]) ::
  (117, .aload_n 0, 1, 0, 0, 0, .inl 0, []) ::
  (118, .getfield 89, 3, 8, 5, 0, .inl 0, [1201]) ::
  (121, .iaload, 1, 0, 0, 0, .inl 0, []) ::
  (122, .istore_n 1, 1, 1, 0, 0, .inl 0, []) ::
  (123, .iload_n 1, 1, 1, 0, 0, .inl 0, []) ::
  (124, .invokestatic 101, 3, 178, 1, 1, .inl 0, [1365]) ::
  (127, .ifCond .ne 71, 3, 198, 0, 0, .inl 0, []) ::
  (130, .iload_n 1, 1, 1, 0, 0, .inl 0, []) ::
  (131, .invokestatic 105, 3, 174, 1, 1, .inl 0, [1368]) ::
  (134, .ifCond .ne 64, 3, 198, 0, 0, .inl 0, []) ::
  (137, .aload_n 0, 1, 0, 0, 0, .inl 0, []) ::
  (138, .iload_n 1, 1, 1, 0, 0, .inl 0, []) ::
  (139, .bipush 59, 2, 0, 0, 0, .inl (nI 59), []) ::
  (141, .if_icmp .eq 33, 3, 174, 0, 0, .inl 0, []) ::
  (144, .iload_n 1, 1, 1, 0, 0, .inl 0, []) ::
  (145, .bipush 60, 2, 0, 0, 0, .inl (nI 60), []) ::
  (147, .if_icmp .eq 27, 3, 174, 0, 0, .inl 0, []) ::
  (150, .iload_n 1, 1, 1, 0, 0, .inl 0, []) ::
  (151, .bipush 61, 2, 0, 0, 0, .inl (nI 61), []) ::
  (153, .if_icmp .eq 21, 3, 174, 0, 0, .inl 0, []) ::
  (156, .iload_n 1, 1, 1, 0, 0, .inl 0, []) ::
  (157, .bipush 62, 2, 0, 0, 0, .inl (nI 62), []) ::
  (159, .if_icmp .eq 15, 3, 174, 0, 0, .inl 0, []) ::
  (162, .iload_n 1, 1, 1, 0, 0, .inl 0, []) ::
  (163, .bipush 40, 2, 0, 0, 0, .inl (nI 40), []) ::
  (165, .if_icmp .eq 9, 3, 174, 0, 0, .inl 0, []) ::
  (168, .iload_n 1, 1, 1, 0, 0, .inl 0, []) ::
  (169, .bipush 41, 2, 0, 0, 0, .inl (nI 41), []) ::
  (171, .if_icmp .ne 7, 3, 178, 0, 0, .inl 0, []) :: s_X9_go_174) ls st μ := by rw [s_X9_go_113]
theorem v_X9_go_113 : vc X P m_X9_go h K k_X9_go S (n + 1) 113 ls st μ = if 113 ∈ S then mAt X m_X9_go h K 113 ls st μ else bb X P m_X9_go h K (vc X P m_X9_go h K k_X9_go S n) s_X9_go_113 ls st μ := by rw [vc_s, t_X9_go_113]
theorem w_X9_go_174 : bb X P m_X9_go h K J s_X9_go_174 ls st μ = bb X P m_X9_go h K J ((174, .iconst 4, 1, 0, 0, 0, .inl (nI 4), []) ::
  (175, .goto 4, 3, 179, 0, 0, .inl 0, []) :: s_X9_go_178) ls st μ := by rw [s_X9_go_174]
theorem v_X9_go_174 : vc X P m_X9_go h K k_X9_go S (n + 1) 174 ls st μ = if 174 ∈ S then mAt X m_X9_go h K 174 ls st μ else bb X P m_X9_go h K (vc X P m_X9_go h K k_X9_go S n) s_X9_go_174 ls st μ := by rw [vc_s, t_X9_go_174]
theorem w_X9_go_178 : bb X P m_X9_go h K J s_X9_go_178 ls st μ = bb X P m_X9_go h K J ((178, .iconst 1, 1, 0, 0, 0, .inl (nI 1), []) :: s_X9_go_179) ls st μ := by rw [s_X9_go_178]
theorem v_X9_go_178 : vc X P m_X9_go h K k_X9_go S (n + 1) 178 ls st μ = if 178 ∈ S then mAt X m_X9_go h K 178 ls st μ else bb X P m_X9_go h K (vc X P m_X9_go h K k_X9_go S n) s_X9_go_178 ls st μ := by rw [vc_s, t_X9_go_178]
theorem w_X9_go_179 : bb X P m_X9_go h K J s_X9_go_179 ls st μ = bb X P m_X9_go h K J ((179, .putfield 98, 3, 8, 7, 0, .inl 0, [1203]) ::
  (182, .aload_n 0, 1, 0, 0, 0, .inl 0, []) ::
  (183, .iload_n 1, 1, 1, 0, 0, .inl 0, []) ::
  (184, .putfield 108, 3, 8, 9, 0, .inl 0, [1205]) ::
  (187, .aload_n 0, 1, 0, 0, 0, .inl 0, []) ::
  (188, .dup, 1, 0, 0, 0, .inl 0, []) ::
  (189, .getfield 89, 3, 8, 5, 0, .inl 0, [1201]) ::
  (192, .iconst 1, 1, 0, 0, 0, .inl (nI 1), []) ::
  (193, .iadd, 1, 0, 0, 0, .inl 0, []) ::
  (194, .putfield 89, 3, 8, 5, 0, .inl 0, [1201]) ::
  (197, .return_, 1, 0, 0, 0, .inl 0, []) :: s_X9_go_198) ls st μ := by rw [s_X9_go_179]
theorem v_X9_go_179 : vc X P m_X9_go h K k_X9_go S (n + 1) 179 ls st μ = if 179 ∈ S then mAt X m_X9_go h K 179 ls st μ else bb X P m_X9_go h K (vc X P m_X9_go h K k_X9_go S n) s_X9_go_179 ls st μ := by rw [vc_s, t_X9_go_179]
theorem w_X9_go_198 : bb X P m_X9_go h K J s_X9_go_198 ls st μ = bb X P m_X9_go h K J ((198, .iload_n 1, 1, 1, 0, 0, .inl 0, []) ::
  (199, .invokestatic 101, 3, 178, 1, 1, .inl 0, [1365]) ::
  (202, .istore_n 2, 1, 2, 0, 0, .inl 0, []) ::
  (203, .iconst 1, 1, 0, 0, 0, .inl (nI 1), []) ::
  (204, .istore_n 3, 1, 3, 0, 0, .inl 0, []) ::
  (205, .aload_n 0, 1, 0, 0, 0, .inl 0, []) ::
  (206, .lconst 0, 1, 0, 0, 0, .inr (.inl 0), []) ::
  (207, .putfield 111, 3, 8, 12, 1, .inl 0, [1208]) ::
  (210, .aload_n 0, 1, 0, 0, 0, .inl 0, []) ::
  (211, .iconst 0, 1, 0, 0, 0, .inl (nI 0), []) ::
  (212, .putfield 115, 3, 8, 8, 0, .inl 0, [1204]) :: s_X9_go_215) ls st μ := by rw [s_X9_go_198]
theorem v_X9_go_198 : vc X P m_X9_go h K k_X9_go S (n + 1) 198 ls st μ = if 198 ∈ S then mAt X m_X9_go h K 198 ls st μ else bb X P m_X9_go h K (vc X P m_X9_go h K k_X9_go S n) s_X9_go_198 ls st μ := by rw [vc_s, t_X9_go_198]
theorem w_X9_go_215 : bb X P m_X9_go h K J s_X9_go_215 ls st μ = bb X P m_X9_go h K J ((215, .aload_n 0, 1, 0, 0, 0, .inl 0, []) ::
  (216, .aload_n 0, 1, 0, 0, 0, .inl 0, []) ::
  (217, .getfield 89, 3, 8, 5, 0, .inl 0, [1201]) ::
  (220, .invokevirtual 118, 3, 246, 2, 1, .inl 0, [1371, 8]) ::
  (223, .invokestatic 101, 3, 178, 1, 1, .inl 0, [1365]) ::
  (226, .ifCond .ne 17, 3, 243, 0, 0, .inl 0, []) ::
  (229, .aload_n 0, 1, 0, 0, 0, .inl 0, []) ::
  (230, .aload_n 0, 1, 0, 0, 0, .inl 0, []) ::
  (231, .getfield 89, 3, 8, 5, 0, .inl 0, [1201]) ::
  (234, .invokevirtual 118, 3, 246, 2, 1, .inl 0, [1371, 8]) ::
  (237, .invokestatic 105, 3, 174, 1, 1, .inl 0, [1368]) ::
  (240, .ifCond .eq 110, 3, 350, 0, 0, .inl 0, []) :: s_X9_go_243) ls st μ := by rw [s_X9_go_215]
theorem v_X9_go_215 : vc X P m_X9_go h K k_X9_go S (n + 1) 215 ls st μ = if 215 ∈ S then mAt X m_X9_go h K 215 ls st μ else bb X P m_X9_go h K (vc X P m_X9_go h K k_X9_go S n) s_X9_go_215 ls st μ := by rw [vc_s, t_X9_go_215]
theorem w_X9_go_243 : bb X P m_X9_go h K J s_X9_go_243 ls st μ = bb X P m_X9_go h K J ((243, .aload_n 0, 1, 0, 0, 0, .inl 0, []) ::
  (244, .getfield 7, 3, 8, 1, 3, .inr (.inr (16, 940, 1)), [1197]) ::
  (247, .aload_n 0, 1, 0, 0, 0, .inl 0, []) ::
  (248, .getfield 89, 3, 8, 5, 0, .inl 0, [1201]) ::
  (251, .iaload, 1, 0, 0, 0, .inl 0, []) ::
  (252, .istore 4, 2, 4, 0, 0, .inl 0, []) ::
  (254, .iload_n 3, 1, 3, 0, 0, .inl 0, []) ::
  (255, .ifCond .eq 16, 3, 271, 0, 0, .inl 0, []) ::
  (258, .iload 4, 2, 4, 0, 0, .inl 0, []) ::
  (260, .invokestatic 101, 3, 178, 1, 1, .inl 0, [1365]) ::
  (263, .iload_n 2, 1, 2, 0, 0, .inl 0, []) ::
  (264, .if_icmp .ne 7, 3, 271, 0, 0, .inl 0, []) ::
  (267, .iconst 1, 1, 0, 0, 0, .inl (nI 1), []) ::
  (268, .goto 4, 3, 272, 0, 0, .inl 0, []) :: s_X9_go_271) ls st μ := by rw [s_X9_go_243]
theorem v_X9_go_243 : vc X P m_X9_go h K k_X9_go S (n + 1) 243 ls st μ = if 243 ∈ S then mAt X m_X9_go h K 243 ls st μ else bb X P m_X9_go h K (vc X P m_X9_go h K k_X9_go S n) s_X9_go_243 ls st μ := by rw [vc_s, t_X9_go_243]
theorem w_X9_go_271 : bb X P m_X9_go h K J s_X9_go_271 ls st μ = bb X P m_X9_go h K J ((271, .iconst 0, 1, 0, 0, 0, .inl (nI 0), []) :: s_X9_go_272) ls st μ := by rw [s_X9_go_271]
theorem v_X9_go_271 : vc X P m_X9_go h K k_X9_go S (n + 1) 271 ls st μ = if 271 ∈ S then mAt X m_X9_go h K 271 ls st μ else bb X P m_X9_go h K (vc X P m_X9_go h K k_X9_go S n) s_X9_go_271 ls st μ := by rw [vc_s, t_X9_go_271]
theorem w_X9_go_272 : bb X P m_X9_go h K J s_X9_go_272 ls st μ = bb X P m_X9_go h K J ((272, .istore_n 3, 1, 3, 0, 0, .inl 0, []) ::
  (273, .aload_n 0, 1, 0, 0, 0, .inl 0, []) ::
  (274, .getfield 89, 3, 8, 5, 0, .inl 0, [1201]) ::
  (277, .aload_n 0, 1, 0, 0, 0, .inl 0, []) ::
  (278, .getfield 92, 3, 8, 6, 0, .inl 0, [1202]) ::
  (281, .isub, 1, 0, 0, 0, .inl 0, []) ::
  (282, .bipush 6, 2, 0, 0, 0, .inl (nI 6), []) ::
  (284, .if_icmp .ge 23, 3, 307, 0, 0, .inl 0, []) ::
  (287, .aload_n 0, 1, 0, 0, 0, .inl 0, []) ::
  (288, .ldc2_w 122, 3, 0, 0, 0, .inr (.inl 27), [1375]) ::
  (291, .aload_n 0, 1, 0, 0, 0, .inl 0, []) ::
  (292, .getfield 111, 3, 8, 12, 1, .inl 0, [1208]) ::
  (295, .lmul, 1, 0, 0, 0, .inl 0, []) ::
  (296, .iload 4, 2, 4, 0, 0, .inl 0, []) ::
  (298, .i2l, 1, 0, 0, 0, .inl 0, []) ::
  (299, .ladd, 1, 0, 0, 0, .inl 0, []) ::
  (300, .ldc2_w 124, 3, 0, 0, 0, .inr (.inl 96), [1376]) ::
  (303, .lsub, 1, 0, 0, 0, .inl 0, []) ::
  (304, .putfield 111, 3, 8, 12, 1, .inl 0, [1208]) :: s_X9_go_307) ls st μ := by rw [s_X9_go_272]
theorem v_X9_go_272 : vc X P m_X9_go h K k_X9_go S (n + 1) 272 ls st μ = if 272 ∈ S then mAt X m_X9_go h K 272 ls st μ else bb X P m_X9_go h K (vc X P m_X9_go h K k_X9_go S n) s_X9_go_272 ls st μ := by rw [vc_s, t_X9_go_272]
theorem w_X9_go_307 : bb X P m_X9_go h K J s_X9_go_307 ls st μ = bb X P m_X9_go h K J ((307, .aload_n 0, 1, 0, 0, 0, .inl 0, []) ::
  (308, .getfield 89, 3, 8, 5, 0, .inl 0, [1201]) ::
  (311, .aload_n 0, 1, 0, 0, 0, .inl 0, []) ::
  (312, .getfield 92, 3, 8, 6, 0, .inl 0, [1202]) ::
  (315, .isub, 1, 0, 0, 0, .inl 0, []) ::
  (316, .iconst 3, 1, 0, 0, 0, .inl (nI 3), []) ::
  (317, .if_icmp .ge 20, 3, 337, 0, 0, .inl 0, []) ::
  (320, .aload_n 0, 1, 0, 0, 0, .inl 0, []) ::
  (321, .bipush 10, 2, 0, 0, 0, .inl (nI 10), []) ::
  (323, .aload_n 0, 1, 0, 0, 0, .inl 0, []) ::
  (324, .getfield 115, 3, 8, 8, 0, .inl 0, [1204]) ::
  (327, .imul, 1, 0, 0, 0, .inl 0, []) ::
  (328, .iload 4, 2, 4, 0, 0, .inl 0, []) ::
  (330, .iadd, 1, 0, 0, 0, .inl 0, []) ::
  (331, .bipush 48, 2, 0, 0, 0, .inl (nI 48), []) ::
  (333, .isub, 1, 0, 0, 0, .inl 0, []) ::
  (334, .putfield 115, 3, 8, 8, 0, .inl 0, [1204]) :: s_X9_go_337) ls st μ := by rw [s_X9_go_307]
theorem v_X9_go_307 : vc X P m_X9_go h K k_X9_go S (n + 1) 307 ls st μ = if 307 ∈ S then mAt X m_X9_go h K 307 ls st μ else bb X P m_X9_go h K (vc X P m_X9_go h K k_X9_go S n) s_X9_go_307 ls st μ := by rw [vc_s, t_X9_go_307]
theorem w_X9_go_337 : bb X P m_X9_go h K J s_X9_go_337 ls st μ = bb X P m_X9_go h K J ((337, .aload_n 0, 1, 0, 0, 0, .inl 0, []) ::
  (338, .dup, 1, 0, 0, 0, .inl 0, []) ::
  (339, .getfield 89, 3, 8, 5, 0, .inl 0, [1201]) ::
  (342, .iconst 1, 1, 0, 0, 0, .inl (nI 1), []) ::
  (343, .iadd, 1, 0, 0, 0, .inl 0, []) ::
  (344, .putfield 89, 3, 8, 5, 0, .inl 0, [1201]) ::
  (347, .goto (-132), 3, 215, 0, 0, .inl 0, []) :: s_X9_go_350) ls st μ := by rw [s_X9_go_337]
theorem v_X9_go_337 : vc X P m_X9_go h K k_X9_go S (n + 1) 337 ls st μ = if 337 ∈ S then mAt X m_X9_go h K 337 ls st μ else bb X P m_X9_go h K (vc X P m_X9_go h K k_X9_go S n) s_X9_go_337 ls st μ := by rw [vc_s, t_X9_go_337]
theorem w_X9_go_350 : bb X P m_X9_go h K J s_X9_go_350 ls st μ = bb X P m_X9_go h K J ((350, .aload_n 0, 1, 0, 0, 0, .inl 0, []) ::
  (351, .iload_n 3, 1, 3, 0, 0, .inl 0, []) ::
  (352, .ifCond .eq 25, 3, 377, 0, 0, .inl 0, []) ::
  (355, .aload_n 0, 1, 0, 0, 0, .inl 0, []) ::
  (356, .getfield 89, 3, 8, 5, 0, .inl 0, [1201]) ::
  (359, .aload_n 0, 1, 0, 0, 0, .inl 0, []) ::
  (360, .getfield 92, 3, 8, 6, 0, .inl 0, [1202]) ::
  (363, .isub, 1, 0, 0, 0, .inl 0, []) ::
  (364, .iload_n 2, 1, 2, 0, 0, .inl 0, []) ::
  (365, .ifCond .eq 8, 3, 373, 0, 0, .inl 0, []) ::
  (368, .bipush 6, 2, 0, 0, 0, .inl (nI 6), []) ::
  (370, .goto 4, 3, 374, 0, 0, .inl 0, []) :: s_X9_go_373) ls st μ := by rw [s_X9_go_350]
theorem v_X9_go_350 : vc X P m_X9_go h K k_X9_go S (n + 1) 350 ls st μ = if 350 ∈ S then mAt X m_X9_go h K 350 ls st μ else bb X P m_X9_go h K (vc X P m_X9_go h K k_X9_go S n) s_X9_go_350 ls st μ := by rw [vc_s, t_X9_go_350]
theorem w_X9_go_373 : bb X P m_X9_go h K J s_X9_go_373 ls st μ = bb X P m_X9_go h K J ((373, .iconst 3, 1, 0, 0, 0, .inl (nI 3), []) :: s_X9_go_374) ls st μ := by rw [s_X9_go_373]
theorem v_X9_go_373 : vc X P m_X9_go h K k_X9_go S (n + 1) 373 ls st μ = if 373 ∈ S then mAt X m_X9_go h K 373 ls st μ else bb X P m_X9_go h K (vc X P m_X9_go h K k_X9_go S n) s_X9_go_373 ls st μ := by rw [vc_s, t_X9_go_373]
theorem w_X9_go_374 : bb X P m_X9_go h K J s_X9_go_374 ls st μ = bb X P m_X9_go h K J ((374, .if_icmp .le 7, 3, 381, 0, 0, .inl 0, []) :: s_X9_go_377) ls st μ := by rw [s_X9_go_374]
theorem v_X9_go_374 : vc X P m_X9_go h K k_X9_go S (n + 1) 374 ls st μ = if 374 ∈ S then mAt X m_X9_go h K 374 ls st μ else bb X P m_X9_go h K (vc X P m_X9_go h K k_X9_go S n) s_X9_go_374 ls st μ := by rw [vc_s, t_X9_go_374]
theorem w_X9_go_377 : bb X P m_X9_go h K J s_X9_go_377 ls st μ = bb X P m_X9_go h K J ((377, .iconst 1, 1, 0, 0, 0, .inl (nI 1), []) ::
  (378, .goto 12, 3, 390, 0, 0, .inl 0, []) :: s_X9_go_381) ls st μ := by rw [s_X9_go_377]
theorem v_X9_go_377 : vc X P m_X9_go h K k_X9_go S (n + 1) 377 ls st μ = if 377 ∈ S then mAt X m_X9_go h K 377 ls st μ else bb X P m_X9_go h K (vc X P m_X9_go h K k_X9_go S n) s_X9_go_377 ls st μ := by rw [vc_s, t_X9_go_377]
theorem w_X9_go_381 : bb X P m_X9_go h K J s_X9_go_381 ls st μ = bb X P m_X9_go h K J ((381, .iload_n 2, 1, 2, 0, 0, .inl 0, []) ::
  (382, .ifCond .eq 7, 3, 389, 0, 0, .inl 0, []) ::
  (385, .iconst 2, 1, 0, 0, 0, .inl (nI 2), []) ::
  (386, .goto 4, 3, 390, 0, 0, .inl 0, []) :: s_X9_go_389) ls st μ := by rw [s_X9_go_381]
theorem v_X9_go_381 : vc X P m_X9_go h K k_X9_go S (n + 1) 381 ls st μ = if 381 ∈ S then mAt X m_X9_go h K 381 ls st μ else bb X P m_X9_go h K (vc X P m_X9_go h K k_X9_go S n) s_X9_go_381 ls st μ := by rw [vc_s, t_X9_go_381]
theorem w_X9_go_389 : bb X P m_X9_go h K J s_X9_go_389 ls st μ = bb X P m_X9_go h K J ((389, .iconst 3, 1, 0, 0, 0, .inl (nI 3), []) :: s_X9_go_390) ls st μ := by rw [s_X9_go_389]
theorem v_X9_go_389 : vc X P m_X9_go h K k_X9_go S (n + 1) 389 ls st μ = if 389 ∈ S then mAt X m_X9_go h K 389 ls st μ else bb X P m_X9_go h K (vc X P m_X9_go h K k_X9_go S n) s_X9_go_389 ls st μ := by rw [vc_s, t_X9_go_389]
theorem w_X9_go_390 : bb X P m_X9_go h K J s_X9_go_390 ls st μ = bb X P m_X9_go h K J ((390, .putfield 98, 3, 8, 7, 0, .inl 0, [1203]) ::
  (393, .return_, 1, 0, 0, 0, .inl 0, []) :: []) ls st μ := by rw [s_X9_go_390]
theorem v_X9_go_390 : vc X P m_X9_go h K k_X9_go S (n + 1) 390 ls st μ = if 390 ∈ S then mAt X m_X9_go h K 390 ls st μ else bb X P m_X9_go h K (vc X P m_X9_go h K k_X9_go S n) s_X9_go_390 ls st μ := by rw [vc_s, t_X9_go_390]
end
section
variable {X : mC} {P : mP} {h : Nat} {K : MV → Mem → Prop} {J : mJ} {ls : List (Nat × MV)} {st : List MV} {μ : Mem} {S : List Nat} {n : Nat}
theorem w_X9_goes_0 : bb X P m_X9_goes h K J s_X9_goes_0 ls st μ = bb X P m_X9_goes h K J ((0, .iconst 0, 1, 0, 0, 0, .inl (nI 0), []) ::
  (1, .istore 5, 2, 5, 0, 0, .inl 0, []) ::
  (3, .iconst 0, 1, 0, 0, 0, .inl (nI 0), []) ::
  (4, .istore 6, 2, 6, 0, 0, .inl 0, []) :: s_X9_goes_6) ls st μ := by rw [s_X9_goes_0]
theorem v_X9_goes_0 : vc X P m_X9_goes h K k_X9_goes S (n + 1) 0 ls st μ = if 0 ∈ S then mAt X m_X9_goes h K 0 ls st μ else bb X P m_X9_goes h K (vc X P m_X9_goes h K k_X9_goes S n) s_X9_goes_0 ls st μ := by rw [vc_s, t_X9_goes_0]
theorem w_X9_goes_6 : bb X P m_X9_goes h K J s_X9_goes_6 ls st μ = bb X P m_X9_goes h K J ((6, .iload 6, 2, 6, 0, 0, .inl 0, []) ::
  (8, .aload_n 0, 1, 0, 0, 0, .inl 0, []) ::
  (9, .getfield 39, 3, 8, 22, 3, .inr (.inr (16, 278, 10)), [1218]) ::
  (12, .iconst 0, 1, 0, 0, 0, .inl (nI 0), []) ::
  (13, .iaload, 1, 0, 0, 0, .inl 0, []) ::
  (14, .if_icmp .ge 112, 3, 126, 0, 0, .inl 0, []) ::
  (17, .iload_n 3, 1, 3, 0, 0, .inl 0, []) ::
  (18, .iload 6, 2, 6, 0, 0, .inl 0, []) ::
  (20, .invokestatic 182, 3, 148, 2, 1, .inl 0, [1437]) ::
  (23, .istore 7, 2, 7, 0, 0, .inl 0, []) ::
  (25, .aload_n 0, 1, 0, 0, 0, .inl 0, []) ::
  (26, .getfield 39, 3, 8, 22, 3, .inr (.inr (16, 278, 10)), [1218]) ::
  (29, .bipush 38, 2, 0, 0, 0, .inl (nI 38), []) ::
  (31, .iload 7, 2, 7, 0, 0, .inl 0, []) ::
  (33, .iadd, 1, 0, 0, 0, .inl 0, []) ::
  (34, .iaload, 1, 0, 0, 0, .inl 0, []) ::
  (35, .ifCond .ne 6, 3, 41, 0, 0, .inl 0, []) ::
  (38, .goto 82, 3, 120, 0, 0, .inl 0, []) :: s_X9_goes_41) ls st μ := by rw [s_X9_goes_6]
theorem v_X9_goes_6 : vc X P m_X9_goes h K k_X9_goes S (n + 1) 6 ls st μ = if 6 ∈ S then mAt X m_X9_goes h K 6 ls st μ else bb X P m_X9_goes h K (vc X P m_X9_goes h K k_X9_goes S n) s_X9_goes_6 ls st μ := by rw [vc_s, t_X9_goes_6]
theorem w_X9_goes_41 : bb X P m_X9_goes h K J s_X9_goes_41 ls st μ = bb X P m_X9_goes h K J ((41, .iload 5, 2, 5, 0, 0, .inl 0, []) ::
  (43, .aload_n 1, 1, 1, 0, 0, .inl 0, []) ::
  (44, .iload_n 2, 1, 2, 0, 0, .inl 0, []) ::
  (45, .bipush 50, 2, 0, 0, 0, .inl (nI 50), []) ::
  (47, .iadd, 1, 0, 0, 0, .inl 0, []) ::
  (48, .iload 7, 2, 7, 0, 0, .inl 0, []) ::
  (50, .iadd, 1, 0, 0, 0, .inl 0, []) ::
  (51, .iaload, 1, 0, 0, 0, .inl 0, []) ::
  (52, .ior, 1, 0, 0, 0, .inl 0, []) ::
  (53, .istore 5, 2, 5, 0, 0, .inl 0, []) ::
  (55, .aload_n 1, 1, 1, 0, 0, .inl 0, []) ::
  (56, .iload_n 2, 1, 2, 0, 0, .inl 0, []) ::
  (57, .iconst 2, 1, 0, 0, 0, .inl (nI 2), []) ::
  (58, .iadd, 1, 0, 0, 0, .inl 0, []) ::
  (59, .iload 7, 2, 7, 0, 0, .inl 0, []) ::
  (61, .iadd, 1, 0, 0, 0, .inl 0, []) ::
  (62, .dup2, 1, 0, 0, 0, .inl 0, []) ::
  (63, .iaload, 1, 0, 0, 0, .inl 0, []) ::
  (64, .aload_n 0, 1, 0, 0, 0, .inl 0, []) ::
  (65, .getfield 39, 3, 8, 22, 3, .inr (.inr (16, 278, 10)), [1218]) ::
  (68, .bipush 38, 2, 0, 0, 0, .inl (nI 38), []) ::
  (70, .iload 7, 2, 7, 0, 0, .inl 0, []) ::
  (72, .iadd, 1, 0, 0, 0, .inl 0, []) ::
  (73, .iaload, 1, 0, 0, 0, .inl 0, []) ::
  (74, .isub, 1, 0, 0, 0, .inl 0, []) ::
  (75, .iastore, 1, 0, 0, 0, .inl 0, []) ::
  (76, .aload_n 1, 1, 1, 0, 0, .inl 0, []) ::
  (77, .iload_n 2, 1, 2, 0, 0, .inl 0, []) ::
  (78, .sipush 278, 3, 0, 0, 0, .inl (nI 278), []) ::
  (81, .iadd, 1, 0, 0, 0, .inl 0, []) ::
  (82, .iload 6, 2, 6, 0, 0, .inl 0, []) ::
  (84, .iadd, 1, 0, 0, 0, .inl 0, []) ::
  (85, .dup2, 1, 0, 0, 0, .inl 0, []) ::
  (86, .iaload, 1, 0, 0, 0, .inl 0, []) ::
  (87, .aload_n 0, 1, 0, 0, 0, .inl 0, []) ::
  (88, .getfield 39, 3, 8, 22, 3, .inr (.inr (16, 278, 10)), [1218]) ::
  (91, .bipush 38, 2, 0, 0, 0, .inl (nI 38), []) ::
  (93, .iload 7, 2, 7, 0, 0, .inl 0, []) ::
  (95, .iadd, 1, 0, 0, 0, .inl 0, []) ::
  (96, .iaload, 1, 0, 0, 0, .inl 0, []) ::
  (97, .iadd, 1, 0, 0, 0, .inl 0, []) ::
  (98, .iastore, 1, 0, 0, 0, .inl 0, []) ::
  (99, .aload_n 1, 1, 1, 0, 0, .inl 0, []) ::
  (100, .iload_n 2, 1, 2, 0, 0, .inl 0, []) ::
  (101, .iconst 2, 1, 0, 0, 0, .inl (nI 2), []) ::
  (102, .iadd, 1, 0, 0, 0, .inl 0, []) ::
  (103, .iload 7, 2, 7, 0, 0, .inl 0, []) ::
  (105, .iadd, 1, 0, 0, 0, .inl 0, []) ::
  (106, .iaload, 1, 0, 0, 0, .inl 0, []) ::
  (107, .ifCond .ne 13, 3, 120, 0, 0, .inl 0, []) ::
  (110, .aload_n 1, 1, 1, 0, 0, .inl 0, []) ::
  (111, .iload_n 2, 1, 2, 0, 0, .inl 0, []) ::
  (112, .bipush 50, 2, 0, 0, 0, .inl (nI 50), []) ::
  (114, .iadd, 1, 0, 0, 0, .inl 0, []) ::
  (115, .iload 7, 2, 7, 0, 0, .inl 0, []) ::
  (117, .iadd, 1, 0, 0, 0, .inl 0, []) ::
  (118, .iconst 0, 1, 0, 0, 0, .inl (nI 0), []) ::
  (119, .iastore, 1, 0, 0, 0, .inl 0, []) :: s_X9_goes_120) ls st μ := by rw [s_X9_goes_41]
theorem v_X9_goes_41 : vc X P m_X9_goes h K k_X9_goes S (n + 1) 41 ls st μ = if 41 ∈ S then mAt X m_X9_goes h K 41 ls st μ else bb X P m_X9_goes h K (vc X P m_X9_goes h K k_X9_goes S n) s_X9_goes_41 ls st μ := by rw [vc_s, t_X9_goes_41]
theorem w_X9_goes_120 : bb X P m_X9_goes h K J s_X9_goes_120 ls st μ = bb X P m_X9_goes h K J ((120, .iinc 6 1, 3, 6, 0, 0, .inl (nI 1), []) ::
  (123, .goto (-117), 3, 6, 0, 0, .inl 0, []) :: s_X9_goes_126) ls st μ := by rw [s_X9_goes_120]
theorem v_X9_goes_120 : vc X P m_X9_goes h K k_X9_goes S (n + 1) 120 ls st μ = if 120 ∈ S then mAt X m_X9_goes h K 120 ls st μ else bb X P m_X9_goes h K (vc X P m_X9_goes h K k_X9_goes S n) s_X9_goes_120 ls st μ := by rw [vc_s, t_X9_goes_120]
theorem w_X9_goes_126 : bb X P m_X9_goes h K J s_X9_goes_126 ls st μ = bb X P m_X9_goes h K J ((126, .iconst 0, 1, 0, 0, 0, .inl (nI 0), []) ::
  (127, .istore 6, 2, 6, 0, 0, .inl 0, []) :: s_X9_goes_129) ls st μ := by rw [s_X9_goes_126]
theorem v_X9_goes_126 : vc X P m_X9_goes h K k_X9_goes S (n + 1) 126 ls st μ = if 126 ∈ S then mAt X m_X9_goes h K 126 ls st μ else bb X P m_X9_goes h K (vc X P m_X9_goes h K k_X9_goes S n) s_X9_goes_126 ls st μ := by rw [vc_s, t_X9_goes_126]
theorem w_X9_goes_129 : bb X P m_X9_goes h K J s_X9_goes_129 ls st μ = bb X P m_X9_goes h K J ((129, .iload 6, 2, 6, 0, 0, .inl 0, []) ::
  (131, .aload_n 0, 1, 0, 0, 0, .inl 0, []) ::
  (132, .getfield 39, 3, 8, 22, 3, .inr (.inr (16, 278, 10)), [1218]) ::
  (135, .iconst 0, 1, 0, 0, 0, .inl (nI 0), []) ::
  (136, .iaload, 1, 0, 0, 0, .inl 0, []) ::
  (137, .if_icmp .ge 90, 3, 227, 0, 0, .inl 0, []) ::
  (140, .aload_n 0, 1, 0, 0, 0, .inl 0, []) ::
  (141, .getfield 39, 3, 8, 22, 3, .inr (.inr (16, 278, 10)), [1218]) ::
  (144, .sipush 182, 3, 0, 0, 0, .inl (nI 182), []) ::
  (147, .iload_n 3, 1, 3, 0, 0, .inl 0, []) ::
  (148, .iload 6, 2, 6, 0, 0, .inl 0, []) ::
  (150, .invokestatic 182, 3, 148, 2, 1, .inl 0, [1437]) ::
  (153, .iadd, 1, 0, 0, 0, .inl 0, []) ::
  (154, .iaload, 1, 0, 0, 0, .inl 0, []) ::
  (155, .istore 7, 2, 7, 0, 0, .inl 0, []) ::
  (157, .iload 7, 2, 7, 0, 0, .inl 0, []) ::
  (159, .ifCond .ne 6, 3, 165, 0, 0, .inl 0, []) ::
  (162, .goto 59, 3, 221, 0, 0, .inl 0, []) :: s_X9_goes_165) ls st μ := by rw [s_X9_goes_129]
theorem v_X9_goes_129 : vc X P m_X9_goes h K k_X9_goes S (n + 1) 129 ls st μ = if 129 ∈ S then mAt X m_X9_goes h K 129 ls st μ else bb X P m_X9_goes h K (vc X P m_X9_goes h K k_X9_goes S n) s_X9_goes_129 ls st μ := by rw [vc_s, t_X9_goes_129]
theorem w_X9_goes_165 : bb X P m_X9_goes h K J s_X9_goes_165 ls st μ = bb X P m_X9_goes h K J ((165, .aload_n 0, 1, 0, 0, 0, .inl 0, []) ::
  (166, .getfield 45, 3, 8, 24, 3, .inr (.inr (16, 6, 12)), [1220]) ::
  (169, .iload 6, 2, 6, 0, 0, .inl 0, []) ::
  (171, .dup2, 1, 0, 0, 0, .inl 0, []) ::
  (172, .iaload, 1, 0, 0, 0, .inl 0, []) ::
  (173, .iload 7, 2, 7, 0, 0, .inl 0, []) ::
  (175, .iadd, 1, 0, 0, 0, .inl 0, []) ::
  (176, .iastore, 1, 0, 0, 0, .inl 0, []) ::
  (177, .aload_n 1, 1, 1, 0, 0, .inl 0, []) ::
  (178, .iload_n 2, 1, 2, 0, 0, .inl 0, []) ::
  (179, .sipush 272, 3, 0, 0, 0, .inl (nI 272), []) ::
  (182, .iadd, 1, 0, 0, 0, .inl 0, []) ::
  (183, .iload 6, 2, 6, 0, 0, .inl 0, []) ::
  (185, .iadd, 1, 0, 0, 0, .inl 0, []) ::
  (186, .dup2, 1, 0, 0, 0, .inl 0, []) ::
  (187, .iaload, 1, 0, 0, 0, .inl 0, []) ::
  (188, .iload 7, 2, 7, 0, 0, .inl 0, []) ::
  (190, .iadd, 1, 0, 0, 0, .inl 0, []) ::
  (191, .iastore, 1, 0, 0, 0, .inl 0, []) ::
  (192, .aload_n 0, 1, 0, 0, 0, .inl 0, []) ::
  (193, .getfield 48, 3, 8, 25, 3, .inr (.inr (16, 6, 13)), [1221]) ::
  (196, .iload 6, 2, 6, 0, 0, .inl 0, []) ::
  (198, .dup2, 1, 0, 0, 0, .inl 0, []) ::
  (199, .iaload, 1, 0, 0, 0, .inl 0, []) ::
  (200, .iload 5, 2, 5, 0, 0, .inl 0, []) ::
  (202, .iconst 1, 1, 0, 0, 0, .inl (nI 1), []) ::
  (203, .iload_n 3, 1, 3, 0, 0, .inl 0, []) ::
  (204, .ishl, 1, 0, 0, 0, .inl 0, []) ::
  (205, .ior, 1, 0, 0, 0, .inl 0, []) ::
  (206, .ior, 1, 0, 0, 0, .inl 0, []) ::
  (207, .iastore, 1, 0, 0, 0, .inl 0, []) ::
  (208, .aload_n 0, 1, 0, 0, 0, .inl 0, []) ::
  (209, .getfield 51, 3, 8, 26, 3, .inr (.inr (16, 6, 14)), [1222]) ::
  (212, .iload 6, 2, 6, 0, 0, .inl 0, []) ::
  (214, .dup2, 1, 0, 0, 0, .inl 0, []) ::
  (215, .iaload, 1, 0, 0, 0, .inl 0, []) ::
  (216, .iconst 1, 1, 0, 0, 0, .inl (nI 1), []) ::
  (217, .iload_n 3, 1, 3, 0, 0, .inl 0, []) ::
  (218, .ishl, 1, 0, 0, 0, .inl 0, []) ::
  (219, .ior, 1, 0, 0, 0, .inl 0, []) ::
  (220, .iastore, 1, 0, 0, 0, .inl 0, []) :: s_X9_goes_221) ls st μ := by rw [s_X9_goes_165]
theorem v_X9_goes_165 : vc X P m_X9_goes h K k_X9_goes S (n + 1) 165 ls st μ = if 165 ∈ S then mAt X m_X9_goes h K 165 ls st μ else bb X P m_X9_goes h K (vc X P m_X9_goes h K k_X9_goes S n) s_X9_goes_165 ls st μ := by rw [vc_s, t_X9_goes_165]
theorem w_X9_goes_221 : bb X P m_X9_goes h K J s_X9_goes_221 ls st μ = bb X P m_X9_goes h K J ((221, .iinc 6 1, 3, 6, 0, 0, .inl (nI 1), []) ::
  (224, .goto (-95), 3, 129, 0, 0, .inl 0, []) :: s_X9_goes_227) ls st μ := by rw [s_X9_goes_221]
theorem v_X9_goes_221 : vc X P m_X9_goes h K k_X9_goes S (n + 1) 221 ls st μ = if 221 ∈ S then mAt X m_X9_goes h K 221 ls st μ else bb X P m_X9_goes h K (vc X P m_X9_goes h K k_X9_goes S n) s_X9_goes_221 ls st μ := by rw [vc_s, t_X9_goes_221]
theorem w_X9_goes_227 : bb X P m_X9_goes h K J s_X9_goes_227 ls st μ = bb X P m_X9_goes h K J ((227, .aload_n 1, 1, 1, 0, 0, .inl 0, []) ::
  (228, .iload_n 2, 1, 2, 0, 0, .inl 0, []) ::
  (229, .sipush 236, 3, 0, 0, 0, .inl (nI 236), []) ::
  (232, .iadd, 1, 0, 0, 0, .inl 0, []) ::
  (233, .iload_n 3, 1, 3, 0, 0, .inl 0, []) ::
  (234, .iadd, 1, 0, 0, 0, .inl 0, []) ::
  (235, .dup2, 1, 0, 0, 0, .inl 0, []) ::
  (236, .iaload, 1, 0, 0, 0, .inl 0, []) ::
  (237, .iload 5, 2, 5, 0, 0, .inl 0, []) ::
  (239, .ior, 1, 0, 0, 0, .inl 0, []) ::
  (240, .iastore, 1, 0, 0, 0, .inl 0, []) ::
  (241, .aload_n 1, 1, 1, 0, 0, .inl 0, []) ::
  (242, .iload_n 2, 1, 2, 0, 0, .inl 0, []) ::
  (243, .sipush 212, 3, 0, 0, 0, .inl (nI 212), []) ::
  (246, .iadd, 1, 0, 0, 0, .inl 0, []) ::
  (247, .iload_n 3, 1, 3, 0, 0, .inl 0, []) ::
  (248, .iadd, 1, 0, 0, 0, .inl 0, []) ::
  (249, .dup2, 1, 0, 0, 0, .inl 0, []) ::
  (250, .iaload, 1, 0, 0, 0, .inl 0, []) ::
  (251, .iconst 1, 1, 0, 0, 0, .inl (nI 1), []) ::
  (252, .iadd, 1, 0, 0, 0, .inl 0, []) ::
  (253, .iastore, 1, 0, 0, 0, .inl 0, []) ::
  (254, .aload_n 1, 1, 1, 0, 0, .inl 0, []) ::
  (255, .iload_n 2, 1, 2, 0, 0, .inl 0, []) ::
  (256, .sipush 228, 3, 0, 0, 0, .inl (nI 228), []) ::
  (259, .iadd, 1, 0, 0, 0, .inl 0, []) ::
  (260, .iload_n 3, 1, 3, 0, 0, .inl 0, []) ::
  (261, .iadd, 1, 0, 0, 0, .inl 0, []) ::
  (262, .dup2, 1, 0, 0, 0, .inl 0, []) ::
  (263, .iaload, 1, 0, 0, 0, .inl 0, []) ::
  (264, .aload_n 0, 1, 0, 0, 0, .inl 0, []) ::
  (265, .getfield 39, 3, 8, 22, 3, .inr (.inr (16, 278, 10)), [1218]) ::
  (268, .bipush 30, 2, 0, 0, 0, .inl (nI 30), []) ::
  (270, .iload_n 3, 1, 3, 0, 0, .inl 0, []) ::
  (271, .iadd, 1, 0, 0, 0, .inl 0, []) ::
  (272, .iaload, 1, 0, 0, 0, .inl 0, []) ::
  (273, .iadd, 1, 0, 0, 0, .inl 0, []) ::
  (274, .iastore, 1, 0, 0, 0, .inl 0, []) ::
  (275, .aload_n 1, 1, 1, 0, 0, .inl 0, []) ::
  (276, .iload_n 2, 1, 2, 0, 0, .inl 0, []) ::
  (277, .sipush 244, 3, 0, 0, 0, .inl (nI 244), []) ::
  (280, .iadd, 1, 0, 0, 0, .inl 0, []) ::
  (281, .iload_n 3, 1, 3, 0, 0, .inl 0, []) ::
  (282, .iadd, 1, 0, 0, 0, .inl 0, []) ::
  (283, .iload 4, 2, 4, 0, 0, .inl 0, []) ::
  (285, .iastore, 1, 0, 0, 0, .inl 0, []) ::
  (286, .return_, 1, 0, 0, 0, .inl 0, []) :: []) ls st μ := by rw [s_X9_goes_227]
theorem v_X9_goes_227 : vc X P m_X9_goes h K k_X9_goes S (n + 1) 227 ls st μ = if 227 ∈ S then mAt X m_X9_goes h K 227 ls st μ else bb X P m_X9_goes h K (vc X P m_X9_goes h K k_X9_goes S n) s_X9_goes_227 ls st μ := by rw [vc_s, t_X9_goes_227]
end
section
variable {X : mC} {P : mP} {h : Nat} {K : MV → Mem → Prop} {J : mJ} {ls : List (Nat × MV)} {st : List MV} {μ : Mem} {S : List Nat} {n : Nat}
theorem w_X9_goes__0 : bb X P m_X9_goes_ h K J s_X9_goes__0 ls st μ = bb X P m_X9_goes_ h K J ((0, .aload_n 0, 1, 0, 0, 0, .inl 0, []) ::
  (1, .iconst 0, 1, 0, 0, 0, .inl (nI 0), []) ::
  (2, .putfield 76, 3, 8, 0, 0, .inl 0, [1196]) ::
  (5, .aload_n 0, 1, 0, 0, 0, .inl 0, []) ::
  (6, .iload_n 1, 1, 1, 0, 0, .inl 0, []) ::
  (7, .invokevirtual 225, 3, 190, 2, 1, .inl 0, [1468, 8]) ::
  (10, .ifCond .eq 13, 3, 23, 0, 0, .inl 0, []) ::
  (13, .iload_n 2, 1, 2, 0, 0, .inl 0, []) ::
  (14, .iconst 0, 1, 0, 0, 0, .inl (nI 0), []) ::
  (15, .bipush 15, 2, 0, 0, 0, .inl (nI 15), []) ::
  (17, .invokestatic 143, 3, 177, 3, 1, .inl 0, [1414]) ::
  (20, .ifCond .ne 5, 3, 25, 0, 0, .inl 0, []) :: s_X9_goes__23) ls st μ := by rw [s_X9_goes__0]
theorem v_X9_goes__0 : vc X P m_X9_goes_ h K k_X9_goes_ S (n + 1) 0 ls st μ = if 0 ∈ S then mAt X m_X9_goes_ h K 0 ls st μ else bb X P m_X9_goes_ h K (vc X P m_X9_goes_ h K k_X9_goes_ S n) s_X9_goes__0 ls st μ := by rw [vc_s, t_X9_goes__0]
theorem w_X9_goes__23 : bb X P m_X9_goes_ h K J s_X9_goes__23 ls st μ = bb X P m_X9_goes_ h K J ((23, .iconst (-1), 1, 0, 0, 0, .inl (-1), []) ::
  (24, .ireturn, 1, 0, 0, 0, .inl 0, []) :: s_X9_goes__25) ls st μ := by rw [s_X9_goes__23]
theorem v_X9_goes__23 : vc X P m_X9_goes_ h K k_X9_goes_ S (n + 1) 23 ls st μ = if 23 ∈ S then mAt X m_X9_goes_ h K 23 ls st μ else bb X P m_X9_goes_ h K (vc X P m_X9_goes_ h K k_X9_goes_ S n) s_X9_goes__23 ls st μ := by rw [vc_s, t_X9_goes__23]
theorem w_X9_goes__25 : bb X P m_X9_goes_ h K J s_X9_goes__25 ls st μ = bb X P m_X9_goes_ h K J ((25, .aload_n 0, 1, 0, 0, 0, .inl 0, []) ::
  (26, .invokevirtual 285, 3, 196, 1, 0, .inl 0, [1504, 8]) ::
  (29, .aload_n 0, 1, 0, 0, 0, .inl 0, []) ::
  (30, .aload_n 0, 1, 0, 0, 0, .inl 0, []) ::
  (31, .getfield 42, 3, 8, 23, 3, .inr (.inr (16, 296, 11)), [1219]) ::
  (34, .iconst 0, 1, 0, 0, 0, .inl (nI 0), []) ::
  (35, .invokevirtual 274, 3, 242, 3, 0, .inl 0, [1508, 8]) ::
  (38, .iconst 0, 1, 0, 0, 0, .inl (nI 0), []) ::
  (39, .istore_n 3, 1, 3, 0, 0, .inl 0, []) ::
  (40, .iconst 0, 1, 0, 0, 0, .inl (nI 0), []) ::
  (41, .istore 4, 2, 4, 0, 0, .inl 0, []) :: s_X9_goes__43) ls st μ := by rw [s_X9_goes__25]
theorem v_X9_goes__25 : vc X P m_X9_goes_ h K k_X9_goes_ S (n + 1) 25 ls st μ = if 25 ∈ S then mAt X m_X9_goes_ h K 25 ls st μ else bb X P m_X9_goes_ h K (vc X P m_X9_goes_ h K k_X9_goes_ S n) s_X9_goes__25 ls st μ := by rw [vc_s, t_X9_goes__25]
theorem w_X9_goes__43 : bb X P m_X9_goes_ h K J s_X9_goes__43 ls st μ = bb X P m_X9_goes_ h K J ((43, .iload 4, 2, 4, 0, 0, .inl 0, []) ::
  (45, .bipush 12, 2, 0, 0, 0, .inl (nI 12), []) ::
  (47, .iload_n 2, 1, 2, 0, 0, .inl 0, []) ::
  (48, .imul, 1, 0, 0, 0, .inl 0, []) ::
  (49, .bipush 12, 2, 0, 0, 0, .inl (nI 12), []) ::
  (51, .iadd, 1, 0, 0, 0, .inl 0, []) ::
  (52, .if_icmp .ge 52, 3, 104, 0, 0, .inl 0, []) ::
  (55, .aload_n 0, 1, 0, 0, 0, .inl 0, []) ::
  (56, .aload_n 0, 1, 0, 0, 0, .inl 0, []) ::
  (57, .getfield 42, 3, 8, 23, 3, .inr (.inr (16, 296, 11)), [1219]) ::
  (60, .iconst 0, 1, 0, 0, 0, .inl (nI 0), []) ::
  (61, .invokevirtual 278, 3, 171, 3, 0, .inl 0, [1520, 8]) ::
  (64, .iload 4, 2, 4, 0, 0, .inl 0, []) ::
  (66, .bipush 12, 2, 0, 0, 0, .inl (nI 12), []) ::
  (68, .iload_n 2, 1, 2, 0, 0, .inl 0, []) ::
  (69, .imul, 1, 0, 0, 0, .inl 0, []) ::
  (70, .if_icmp .lt 28, 3, 98, 0, 0, .inl 0, []) ::
  (73, .aload_n 0, 1, 0, 0, 0, .inl 0, []) ::
  (74, .getfield 42, 3, 8, 23, 3, .inr (.inr (16, 296, 11)), [1219]) ::
  (77, .sipush 252, 3, 0, 0, 0, .inl (nI 252), []) ::
  (80, .iload_n 1, 1, 1, 0, 0, .inl 0, []) ::
  (81, .iadd, 1, 0, 0, 0, .inl 0, []) ::
  (82, .iaload, 1, 0, 0, 0, .inl 0, []) ::
  (83, .ifCond .le 15, 3, 98, 0, 0, .inl 0, []) ::
  (86, .iload_n 3, 1, 3, 0, 0, .inl 0, []) ::
  (87, .iconst 1, 1, 0, 0, 0, .inl (nI 1), []) ::
  (88, .iload 4, 2, 4, 0, 0, .inl 0, []) ::
  (90, .bipush 12, 2, 0, 0, 0, .inl (nI 12), []) ::
  (92, .iload_n 2, 1, 2, 0, 0, .inl 0, []) ::
  (93, .imul, 1, 0, 0, 0, .inl 0, []) ::
  (94, .isub, 1, 0, 0, 0, .inl 0, []) ::
  (95, .ishl, 1, 0, 0, 0, .inl 0, []) ::
  (96, .ior, 1, 0, 0, 0, .inl 0, []) ::
  (97, .istore_n 3, 1, 3, 0, 0, .inl 0, []) :: s_X9_goes__98) ls st μ := by rw [s_X9_goes__43]
theorem v_X9_goes__43 : vc X P m_X9_goes_ h K k_X9_goes_ S (n + 1) 43 ls st μ = if 43 ∈ S then mAt X m_X9_goes_ h K 43 ls st μ else bb X P m_X9_goes_ h K (vc X P m_X9_goes_ h K k_X9_goes_ S n) s_X9_goes__43 ls st μ := by rw [vc_s, t_X9_goes__43]
theorem w_X9_goes__98 : bb X P m_X9_goes_ h K J s_X9_goes__98 ls st μ = bb X P m_X9_goes_ h K J ((98, .iinc 4 1, 3, 4, 0, 0, .inl (nI 1), []) ::
  (101, .goto (-58), 3, 43, 0, 0, .inl 0, []) :: s_X9_goes__104) ls st μ := by rw [s_X9_goes__98]
theorem v_X9_goes__98 : vc X P m_X9_goes_ h K k_X9_goes_ S (n + 1) 98 ls st μ = if 98 ∈ S then mAt X m_X9_goes_ h K 98 ls st μ else bb X P m_X9_goes_ h K (vc X P m_X9_goes_ h K k_X9_goes_ S n) s_X9_goes__98 ls st μ := by rw [vc_s, t_X9_goes__98]
theorem w_X9_goes__104 : bb X P m_X9_goes_ h K J s_X9_goes__104 ls st μ = bb X P m_X9_goes_ h K J ((104, .iload_n 3, 1, 3, 0, 0, .inl 0, []) ::
  (105, .ireturn, 1, 0, 0, 0, .inl 0, []) :: []) ls st μ := by rw [s_X9_goes__104]
theorem v_X9_goes__104 : vc X P m_X9_goes_ h K k_X9_goes_ S (n + 1) 104 ls st μ = if 104 ∈ S then mAt X m_X9_goes_ h K 104 ls st μ else bb X P m_X9_goes_ h K (vc X P m_X9_goes_ h K k_X9_goes_ S n) s_X9_goes__104 ls st μ := by rw [vc_s, t_X9_goes__104]
end
section
variable {X : mC} {P : mP} {h : Nat} {K : MV → Mem → Prop} {J : mJ} {ls : List (Nat × MV)} {st : List MV} {μ : Mem} {S : List Nat} {n : Nat}
theorem w_X9_goods_0 : bb X P m_X9_goods h K J s_X9_goods_0 ls st μ = bb X P m_X9_goods h K J ((0, .aload_n 0, 1, 0, 0, 0, .inl 0, []) ::
  (1, .getfield 13, 3, 8, 14, 3, .inr (.inr (16, 925, 2)), [1210]) ::
  (4, .iconst 0, 1, 0, 0, 0, .inl (nI 0), []) ::
  (5, .iaload, 1, 0, 0, 0, .inl 0, []) ::
  (6, .ireturn, 1, 0, 0, 0, .inl 0, []) :: []) ls st μ := by rw [s_X9_goods_0]
theorem v_X9_goods_0 : vc X P m_X9_goods h K k_X9_goods S (n + 1) 0 ls st μ = if 0 ∈ S then mAt X m_X9_goods h K 0 ls st μ else bb X P m_X9_goods h K (vc X P m_X9_goods h K k_X9_goods S n) s_X9_goods_0 ls st μ := by rw [vc_s, t_X9_goods_0]
end
section
variable {X : mC} {P : mP} {h : Nat} {K : MV → Mem → Prop} {J : mJ} {ls : List (Nat × MV)} {st : List MV} {μ : Mem} {S : List Nat} {n : Nat}
theorem w_X9_goodsIn_0 : bb X P m_X9_goodsIn h K J s_X9_goodsIn_0 ls st μ = bb X P m_X9_goodsIn h K J ((0, .iconst 0, 1, 0, 0, 0, .inl (nI 0), []) ::
  (1, .istore_n 3, 1, 3, 0, 0, .inl 0, []) ::
  (2, .iconst 0, 1, 0, 0, 0, .inl (nI 0), []) ::
  (3, .istore 4, 2, 4, 0, 0, .inl 0, []) :: s_X9_goodsIn_5) ls st μ := by rw [s_X9_goodsIn_0]
theorem v_X9_goodsIn_0 : vc X P m_X9_goodsIn h K k_X9_goodsIn S (n + 1) 0 ls st μ = if 0 ∈ S then mAt X m_X9_goodsIn h K 0 ls st μ else bb X P m_X9_goodsIn h K (vc X P m_X9_goodsIn h K k_X9_goodsIn S n) s_X9_goodsIn_0 ls st μ := by rw [vc_s, t_X9_goodsIn_0]
theorem w_X9_goodsIn_5 : bb X P m_X9_goodsIn h K J s_X9_goodsIn_5 ls st μ = bb X P m_X9_goodsIn h K J ((5, .iload 4, 2, 4, 0, 0, .inl 0, []) ::
  (7, .aload_n 0, 1, 0, 0, 0, .inl 0, []) ::
  (8, .invokevirtual 222, 3, 165, 1, 1, .inl 0, [1484, 8]) ::
  (11, .if_icmp .ge 32, 3, 43, 0, 0, .inl 0, []) ::
  (14, .aload_n 0, 1, 0, 0, 0, .inl 0, []) ::
  (15, .getfield 13, 3, 8, 14, 3, .inr (.inr (16, 925, 2)), [1210]) ::
  (18, .iload_n 1, 1, 1, 0, 0, .inl 0, []) ::
  (19, .iload_n 2, 1, 2, 0, 0, .inl 0, []) ::
  (20, .iload 4, 2, 4, 0, 0, .inl 0, []) ::
  (22, .invokestatic 182, 3, 148, 2, 1, .inl 0, [1437]) ::
  (25, .iadd, 1, 0, 0, 0, .inl 0, []) ::
  (26, .iaload, 1, 0, 0, 0, .inl 0, []) ::
  (27, .ifCond .le 10, 3, 37, 0, 0, .inl 0, []) ::
  (30, .iload_n 3, 1, 3, 0, 0, .inl 0, []) ::
  (31, .iconst 1, 1, 0, 0, 0, .inl (nI 1), []) ::
  (32, .iload 4, 2, 4, 0, 0, .inl 0, []) ::
  (34, .ishl, 1, 0, 0, 0, .inl 0, []) ::
  (35, .ior, 1, 0, 0, 0, .inl 0, []) ::
  (36, .istore_n 3, 1, 3, 0, 0, .inl 0, []) :: s_X9_goodsIn_37) ls st μ := by rw [s_X9_goodsIn_5]
theorem v_X9_goodsIn_5 : vc X P m_X9_goodsIn h K k_X9_goodsIn S (n + 1) 5 ls st μ = if 5 ∈ S then mAt X m_X9_goodsIn h K 5 ls st μ else bb X P m_X9_goodsIn h K (vc X P m_X9_goodsIn h K k_X9_goodsIn S n) s_X9_goodsIn_5 ls st μ := by rw [vc_s, t_X9_goodsIn_5]
theorem w_X9_goodsIn_37 : bb X P m_X9_goodsIn h K J s_X9_goodsIn_37 ls st μ = bb X P m_X9_goodsIn h K J ((37, .iinc 4 1, 3, 4, 0, 0, .inl (nI 1), []) ::
  (40, .goto (-35), 3, 5, 0, 0, .inl 0, []) :: s_X9_goodsIn_43) ls st μ := by rw [s_X9_goodsIn_37]
theorem v_X9_goodsIn_37 : vc X P m_X9_goodsIn h K k_X9_goodsIn S (n + 1) 37 ls st μ = if 37 ∈ S then mAt X m_X9_goodsIn h K 37 ls st μ else bb X P m_X9_goodsIn h K (vc X P m_X9_goodsIn h K k_X9_goodsIn S n) s_X9_goodsIn_37 ls st μ := by rw [vc_s, t_X9_goodsIn_37]
theorem w_X9_goodsIn_43 : bb X P m_X9_goodsIn h K J s_X9_goodsIn_43 ls st μ = bb X P m_X9_goodsIn h K J ((43, .iload_n 3, 1, 3, 0, 0, .inl 0, []) ::
  (44, .ireturn, 1, 0, 0, 0, .inl 0, []) :: []) ls st μ := by rw [s_X9_goodsIn_43]
theorem v_X9_goodsIn_43 : vc X P m_X9_goodsIn h K k_X9_goodsIn S (n + 1) 43 ls st μ = if 43 ∈ S then mAt X m_X9_goodsIn h K 43 ls st μ else bb X P m_X9_goodsIn h K (vc X P m_X9_goodsIn h K k_X9_goodsIn S n) s_X9_goodsIn_43 ls st μ := by rw [vc_s, t_X9_goodsIn_43]
end
section
variable {X : mC} {P : mP} {h : Nat} {K : MV → Mem → Prop} {J : mJ} {ls : List (Nat × MV)} {st : List MV} {μ : Mem} {S : List Nat} {n : Nat}
theorem w_X9_greatest_0 : bb X P m_X9_greatest h K J s_X9_greatest_0 ls st μ = bb X P m_X9_greatest h K J ((0, .aload_n 0, 1, 0, 0, 0, .inl 0, []) ::
  (1, .iconst 0, 1, 0, 0, 0, .inl (nI 0), []) ::
  (2, .putfield 76, 3, 8, 0, 0, .inl 0, [1196]) ::
  (5, .aload_n 0, 1, 0, 0, 0, .inl 0, []) ::
  (6, .iload_n 1, 1, 1, 0, 0, .inl 0, []) ::
  (7, .invokevirtual 300, 3, 181, 2, 1, .inl 0, [1610, 8]) ::
  (10, .ifCond .eq 11, 3, 21, 0, 0, .inl 0, []) ::
  (13, .aload_n 0, 1, 0, 0, 0, .inl 0, []) ::
  (14, .iload_n 1, 1, 1, 0, 0, .inl 0, []) ::
  (15, .invokevirtual 333, 3, 168, 2, 1, .inl 0, [1675, 8]) ::
  (18, .goto 4, 3, 22, 0, 0, .inl 0, []) :: s_X9_greatest_21) ls st μ := by rw [s_X9_greatest_0]
theorem v_X9_greatest_0 : vc X P m_X9_greatest h K k_X9_greatest S (n + 1) 0 ls st μ = if 0 ∈ S then mAt X m_X9_greatest h K 0 ls st μ else bb X P m_X9_greatest h K (vc X P m_X9_greatest h K k_X9_greatest S n) s_X9_greatest_0 ls st μ := by rw [vc_s, t_X9_greatest_0]
theorem w_X9_greatest_21 : bb X P m_X9_greatest h K J s_X9_greatest_21 ls st μ = bb X P m_X9_greatest h K J ((21, .iconst (-1), 1, 0, 0, 0, .inl (-1), []) :: s_X9_greatest_22) ls st μ := by rw [s_X9_greatest_21]
theorem v_X9_greatest_21 : vc X P m_X9_greatest h K k_X9_greatest S (n + 1) 21 ls st μ = if 21 ∈ S then mAt X m_X9_greatest h K 21 ls st μ else bb X P m_X9_greatest h K (vc X P m_X9_greatest h K k_X9_greatest S n) s_X9_greatest_21 ls st μ := by rw [vc_s, t_X9_greatest_21]
theorem w_X9_greatest_22 : bb X P m_X9_greatest h K J s_X9_greatest_22 ls st μ = bb X P m_X9_greatest h K J ((22, .ireturn, 1, 0, 0, 0, .inl 0, []) :: []) ls st μ := by rw [s_X9_greatest_22]
theorem v_X9_greatest_22 : vc X P m_X9_greatest h K k_X9_greatest S (n + 1) 22 ls st μ = if 22 ∈ S then mAt X m_X9_greatest h K 22 ls st μ else bb X P m_X9_greatest h K (vc X P m_X9_greatest h K k_X9_greatest S n) s_X9_greatest_22 ls st μ := by rw [vc_s, t_X9_greatest_22]
end
section
variable {X : mC} {P : mP} {h : Nat} {K : MV → Mem → Prop} {J : mJ} {ls : List (Nat × MV)} {st : List MV} {μ : Mem} {S : List Nat} {n : Nat}
theorem w_X9_greatestOf_0 : bb X P m_X9_greatestOf h K J s_X9_greatestOf_0 ls st μ = bb X P m_X9_greatestOf h K J ((0, .iconst 0, 1, 0, 0, 0, .inl (nI 0), []) ::
  (1, .istore_n 2, 1, 2, 0, 0, .inl 0, []) ::
  (2, .iconst 1, 1, 0, 0, 0, .inl (nI 1), []) ::
  (3, .istore_n 3, 1, 3, 0, 0, .inl 0, []) :: s_X9_greatestOf_4) ls st μ := by rw [s_X9_greatestOf_0]
theorem v_X9_greatestOf_0 : vc X P m_X9_greatestOf h K k_X9_greatestOf S (n + 1) 0 ls st μ = if 0 ∈ S then mAt X m_X9_greatestOf h K 0 ls st μ else bb X P m_X9_greatestOf h K (vc X P m_X9_greatestOf h K k_X9_greatestOf S n) s_X9_greatestOf_0 ls st μ := by rw [vc_s, t_X9_greatestOf_0]
theorem w_X9_greatestOf_4 : bb X P m_X9_greatestOf h K J s_X9_greatestOf_4 ls st μ = bb X P m_X9_greatestOf h K J ((4, .aload_n 0, 1, 0, 0, 0, .inl 0, []) ::
  (5, .iload_n 3, 1, 3, 0, 0, .inl 0, []) ::
  (6, .invokevirtual 300, 3, 181, 2, 1, .inl 0, [1610, 8]) ::
  (9, .ifCond .eq 38, 3, 47, 0, 0, .inl 0, []) ::
  (12, .iload_n 3, 1, 3, 0, 0, .inl 0, []) ::
  (13, .iload_n 1, 1, 1, 0, 0, .inl 0, []) ::
  (14, .iconst (-1), 1, 0, 0, 0, .inl (-1), []) ::
  (15, .ixor, 1, 0, 0, 0, .inl 0, []) ::
  (16, .iand, 1, 0, 0, 0, .inl 0, []) ::
  (17, .ifCond .ne 24, 3, 41, 0, 0, .inl 0, []) ::
  (20, .iload_n 3, 1, 3, 0, 0, .inl 0, []) ::
  (21, .invokestatic 324, 3, 143, 1, 1, .inl 0, [1644]) ::
  (24, .iload_n 2, 1, 2, 0, 0, .inl 0, []) ::
  (25, .invokestatic 324, 3, 143, 1, 1, .inl 0, [1644]) ::
  (28, .if_icmp .le 13, 3, 41, 0, 0, .inl 0, []) ::
  (31, .aload_n 0, 1, 0, 0, 0, .inl 0, []) ::
  (32, .iload_n 3, 1, 3, 0, 0, .inl 0, []) ::
  (33, .invokevirtual 331, 3, 184, 2, 1, .inl 0, [1659, 8]) ::
  (36, .ifCond .eq 5, 3, 41, 0, 0, .inl 0, []) ::
  (39, .iload_n 3, 1, 3, 0, 0, .inl 0, []) ::
  (40, .istore_n 2, 1, 2, 0, 0, .inl 0, []) :: s_X9_greatestOf_41) ls st μ := by rw [s_X9_greatestOf_4]
theorem v_X9_greatestOf_4 : vc X P m_X9_greatestOf h K k_X9_greatestOf S (n + 1) 4 ls st μ = if 4 ∈ S then mAt X m_X9_greatestOf h K 4 ls st μ else bb X P m_X9_greatestOf h K (vc X P m_X9_greatestOf h K k_X9_greatestOf S n) s_X9_greatestOf_4 ls st μ := by rw [vc_s, t_X9_greatestOf_4]
theorem w_X9_greatestOf_41 : bb X P m_X9_greatestOf h K J s_X9_greatestOf_41 ls st μ = bb X P m_X9_greatestOf h K J ((41, .iinc 3 1, 3, 3, 0, 0, .inl (nI 1), []) ::
  (44, .goto (-40), 3, 4, 0, 0, .inl 0, []) :: s_X9_greatestOf_47) ls st μ := by rw [s_X9_greatestOf_41]
theorem v_X9_greatestOf_41 : vc X P m_X9_greatestOf h K k_X9_greatestOf S (n + 1) 41 ls st μ = if 41 ∈ S then mAt X m_X9_greatestOf h K 41 ls st μ else bb X P m_X9_greatestOf h K (vc X P m_X9_greatestOf h K k_X9_greatestOf S n) s_X9_greatestOf_41 ls st μ := by rw [vc_s, t_X9_greatestOf_41]
theorem w_X9_greatestOf_47 : bb X P m_X9_greatestOf h K J s_X9_greatestOf_47 ls st μ = bb X P m_X9_greatestOf h K J ((47, .iload_n 2, 1, 2, 0, 0, .inl 0, []) ::
  (48, .ireturn, 1, 0, 0, 0, .inl 0, []) :: []) ls st μ := by rw [s_X9_greatestOf_47]
theorem v_X9_greatestOf_47 : vc X P m_X9_greatestOf h K k_X9_greatestOf S (n + 1) 47 ls st μ = if 47 ∈ S then mAt X m_X9_greatestOf h K 47 ls st μ else bb X P m_X9_greatestOf h K (vc X P m_X9_greatestOf h K k_X9_greatestOf S n) s_X9_greatestOf_47 ls st μ := by rw [vc_s, t_X9_greatestOf_47]
end
section
variable {X : mC} {P : mP} {h : Nat} {K : MV → Mem → Prop} {J : mJ} {ls : List (Nat × MV)} {st : List MV} {μ : Mem} {S : List Nat} {n : Nat}
theorem w_X9_has_0 : bb X P m_X9_has h K J s_X9_has_0 ls st μ = bb X P m_X9_has h K J ((0, .iload_n 0, 1, 0, 0, 0, .inl 0, []) ::
  (1, .iload_n 1, 1, 1, 0, 0, .inl 0, []) ::
  (2, .ishr, 1, 0, 0, 0, .inl 0, []) ::
  (3, .iconst 1, 1, 0, 0, 0, .inl (nI 1), []) ::
  (4, .iand, 1, 0, 0, 0, .inl 0, []) ::
  (5, .iconst 1, 1, 0, 0, 0, .inl (nI 1), []) ::
  (6, .if_icmp .ne 7, 3, 13, 0, 0, .inl 0, []) ::
  (9, .iconst 1, 1, 0, 0, 0, .inl (nI 1), []) ::
  (10, .goto 4, 3, 14, 0, 0, .inl 0, []) :: s_X9_has_13) ls st μ := by rw [s_X9_has_0]
theorem v_X9_has_0 : vc X P m_X9_has h K k_X9_has S (n + 1) 0 ls st μ = if 0 ∈ S then mAt X m_X9_has h K 0 ls st μ else bb X P m_X9_has h K (vc X P m_X9_has h K k_X9_has S n) s_X9_has_0 ls st μ := by rw [vc_s, t_X9_has_0]
theorem w_X9_has_13 : bb X P m_X9_has h K J s_X9_has_13 ls st μ = bb X P m_X9_has h K J ((13, .iconst 0, 1, 0, 0, 0, .inl (nI 0), []) :: s_X9_has_14) ls st μ := by rw [s_X9_has_13]
theorem v_X9_has_13 : vc X P m_X9_has h K k_X9_has S (n + 1) 13 ls st μ = if 13 ∈ S then mAt X m_X9_has h K 13 ls st μ else bb X P m_X9_has h K (vc X P m_X9_has h K k_X9_has S n) s_X9_has_13 ls st μ := by rw [vc_s, t_X9_has_13]
theorem w_X9_has_14 : bb X P m_X9_has h K J s_X9_has_14 ls st μ = bb X P m_X9_has h K J ((14, .ireturn, 1, 1, 0, 0, .inl 0, []) :: []) ls st μ := by rw [s_X9_has_14]
theorem v_X9_has_14 : vc X P m_X9_has h K k_X9_has S (n + 1) 14 ls st μ = if 14 ∈ S then mAt X m_X9_has h K 14 ls st μ else bb X P m_X9_has h K (vc X P m_X9_has h K k_X9_has S n) s_X9_has_14 ls st μ := by rw [vc_s, t_X9_has_14]
end
section
variable {X : mC} {P : mP} {h : Nat} {K : MV → Mem → Prop} {J : mJ} {ls : List (Nat × MV)} {st : List MV} {μ : Mem} {S : List Nat} {n : Nat}
theorem w_X9_holds_0 : bb X P m_X9_holds h K J s_X9_holds_0 ls st μ = bb X P m_X9_holds h K J ((0, .sipush 381, 3, 0, 0, 0, .inl (nI 381), []) ::
  (3, .iconst 4, 1, 0, 0, 0, .inl (nI 4), []) ::
  (4, .iload_n 1, 1, 1, 0, 0, .inl 0, []) ::
  (5, .imul, 1, 0, 0, 0, .inl 0, []) ::
  (6, .iadd, 1, 0, 0, 0, .inl 0, []) ::
  (7, .istore_n 3, 1, 3, 0, 0, .inl 0, []) ::
  (8, .aload_n 0, 1, 0, 0, 0, .inl 0, []) ::
  (9, .getfield 13, 3, 8, 14, 3, .inr (.inr (16, 925, 2)), [1210]) ::
  (12, .iload_n 3, 1, 3, 0, 0, .inl 0, []) ::
  (13, .iconst 1, 1, 0, 0, 0, .inl (nI 1), []) ::
  (14, .iadd, 1, 0, 0, 0, .inl 0, []) ::
  (15, .iaload, 1, 0, 0, 0, .inl 0, []) ::
  (16, .istore 4, 2, 4, 0, 0, .inl 0, []) ::
  (18, .aload_n 0, 1, 0, 0, 0, .inl 0, []) ::
  (19, .getfield 13, 3, 8, 14, 3, .inr (.inr (16, 925, 2)), [1210]) ::
  (22, .iload_n 3, 1, 3, 0, 0, .inl 0, []) ::
  (23, .iconst 2, 1, 0, 0, 0, .inl (nI 2), []) ::
  (24, .iadd, 1, 0, 0, 0, .inl 0, []) ::
  (25, .iaload, 1, 0, 0, 0, .inl 0, []) ::
  (26, .istore 5, 2, 5, 0, 0, .inl 0, []) ::
  (28, .aload_n 0, 1, 0, 0, 0, .inl 0, []) ::
  (29, .getfield 13, 3, 8, 14, 3, .inr (.inr (16, 925, 2)), [1210]) ::
  (32, .iload_n 3, 1, 3, 0, 0, .inl 0, []) ::
  (33, .iaload, 1, 0, 0, 0, .inl 0, []) ::
  (34, .lookupswitch 189 #[(1, 58), (2, 74), (3, 100), (62, 126), (63, 149), (64, 173)], 58, 223, 0, 0, .inl 0, [1, 92, 2, 108, 3, 134, 62, 160, 63, 183, 64, 207]) :: s_X9_holds_92) ls st μ := by rw [s_X9_holds_0]
theorem v_X9_holds_0 : vc X P m_X9_holds h K k_X9_holds S (n + 1) 0 ls st μ = if 0 ∈ S then mAt X m_X9_holds h K 0 ls st μ else bb X P m_X9_holds h K (vc X P m_X9_holds h K k_X9_holds S n) s_X9_holds_0 ls st μ := by rw [vc_s, t_X9_holds_0]
theorem w_X9_holds_92 : bb X P m_X9_holds h K J s_X9_holds_92 ls st μ = bb X P m_X9_holds h K J ((92, .aload_n 0, 1, 0, 0, 0, .inl 0, []) ::
  (93, .iload 4, 2, 4, 0, 0, .inl 0, []) ::
  (95, .iload_n 2, 1, 2, 0, 0, .inl 0, []) ::
  (96, .invokevirtual 399, 3, 170, 3, 1, .inl 0, [1791, 8]) ::
  (99, .ifCond .ne 7, 3, 106, 0, 0, .inl 0, []) ::
  (102, .iconst 1, 1, 0, 0, 0, .inl (nI 1), []) ::
  (103, .goto 4, 3, 107, 0, 0, .inl 0, []) :: s_X9_holds_106) ls st μ := by rw [s_X9_holds_92]
theorem v_X9_holds_92 : vc X P m_X9_holds h K k_X9_holds S (n + 1) 92 ls st μ = if 92 ∈ S then mAt X m_X9_holds h K 92 ls st μ else bb X P m_X9_holds h K (vc X P m_X9_holds h K k_X9_holds S n) s_X9_holds_92 ls st μ := by rw [vc_s, t_X9_holds_92]
theorem w_X9_holds_106 : bb X P m_X9_holds h K J s_X9_holds_106 ls st μ = bb X P m_X9_holds h K J ((106, .iconst 0, 1, 0, 0, 0, .inl (nI 0), []) :: s_X9_holds_107) ls st μ := by rw [s_X9_holds_106]
theorem v_X9_holds_106 : vc X P m_X9_holds h K k_X9_holds S (n + 1) 106 ls st μ = if 106 ∈ S then mAt X m_X9_holds h K 106 ls st μ else bb X P m_X9_holds h K (vc X P m_X9_holds h K k_X9_holds S n) s_X9_holds_106 ls st μ := by rw [vc_s, t_X9_holds_106]
theorem w_X9_holds_107 : bb X P m_X9_holds h K J s_X9_holds_107 ls st μ = bb X P m_X9_holds h K J ((107, .ireturn, 1, 1, 0, 0, .inl 0, []) :: s_X9_holds_108) ls st μ := by rw [s_X9_holds_107]
theorem v_X9_holds_107 : vc X P m_X9_holds h K k_X9_holds S (n + 1) 107 ls st μ = if 107 ∈ S then mAt X m_X9_holds h K 107 ls st μ else bb X P m_X9_holds h K (vc X P m_X9_holds h K k_X9_holds S n) s_X9_holds_107 ls st μ := by rw [vc_s, t_X9_holds_107]
theorem w_X9_holds_108 : bb X P m_X9_holds h K J s_X9_holds_108 ls st μ = bb X P m_X9_holds h K J ((108, .aload_n 0, 1, 0, 0, 0, .inl 0, []) ::
  (109, .iload 4, 2, 4, 0, 0, .inl 0, []) ::
  (111, .iload_n 2, 1, 2, 0, 0, .inl 0, []) ::
  (112, .invokevirtual 399, 3, 170, 3, 1, .inl 0, [1791, 8]) ::
  (115, .ifCond .eq 17, 3, 132, 0, 0, .inl 0, []) ::
  (118, .aload_n 0, 1, 0, 0, 0, .inl 0, []) ::
  (119, .iload 5, 2, 5, 0, 0, .inl 0, []) ::
  (121, .iload_n 2, 1, 2, 0, 0, .inl 0, []) ::
  (122, .invokevirtual 399, 3, 170, 3, 1, .inl 0, [1791, 8]) ::
  (125, .ifCond .eq 7, 3, 132, 0, 0, .inl 0, []) ::
  (128, .iconst 1, 1, 0, 0, 0, .inl (nI 1), []) ::
  (129, .goto 4, 3, 133, 0, 0, .inl 0, []) :: s_X9_holds_132) ls st μ := by rw [s_X9_holds_108]
theorem v_X9_holds_108 : vc X P m_X9_holds h K k_X9_holds S (n + 1) 108 ls st μ = if 108 ∈ S then mAt X m_X9_holds h K 108 ls st μ else bb X P m_X9_holds h K (vc X P m_X9_holds h K k_X9_holds S n) s_X9_holds_108 ls st μ := by rw [vc_s, t_X9_holds_108]
theorem w_X9_holds_132 : bb X P m_X9_holds h K J s_X9_holds_132 ls st μ = bb X P m_X9_holds h K J ((132, .iconst 0, 1, 0, 0, 0, .inl (nI 0), []) :: s_X9_holds_133) ls st μ := by rw [s_X9_holds_132]
theorem v_X9_holds_132 : vc X P m_X9_holds h K k_X9_holds S (n + 1) 132 ls st μ = if 132 ∈ S then mAt X m_X9_holds h K 132 ls st μ else bb X P m_X9_holds h K (vc X P m_X9_holds h K k_X9_holds S n) s_X9_holds_132 ls st μ := by rw [vc_s, t_X9_holds_132]
theorem w_X9_holds_133 : bb X P m_X9_holds h K J s_X9_holds_133 ls st μ = bb X P m_X9_holds h K J ((133, .ireturn, 1, 1, 0, 0, .inl 0, []) :: s_X9_holds_134) ls st μ := by rw [s_X9_holds_133]
theorem v_X9_holds_133 : vc X P m_X9_holds h K k_X9_holds S (n + 1) 133 ls st μ = if 133 ∈ S then mAt X m_X9_holds h K 133 ls st μ else bb X P m_X9_holds h K (vc X P m_X9_holds h K k_X9_holds S n) s_X9_holds_133 ls st μ := by rw [vc_s, t_X9_holds_133]
theorem w_X9_holds_134 : bb X P m_X9_holds h K J s_X9_holds_134 ls st μ = bb X P m_X9_holds h K J ((134, .aload_n 0, 1, 0, 0, 0, .inl 0, []) ::
  (135, .iload 4, 2, 4, 0, 0, .inl 0, []) ::
  (137, .iload_n 2, 1, 2, 0, 0, .inl 0, []) ::
  (138, .invokevirtual 399, 3, 170, 3, 1, .inl 0, [1791, 8]) ::
  (141, .ifCond .ne 13, 3, 154, 0, 0, .inl 0, []) ::
  (144, .aload_n 0, 1, 0, 0, 0, .inl 0, []) ::
  (145, .iload 5, 2, 5, 0, 0, .inl 0, []) ::
  (147, .iload_n 2, 1, 2, 0, 0, .inl 0, []) ::
  (148, .invokevirtual 399, 3, 170, 3, 1, .inl 0, [1791, 8]) ::
  (151, .ifCond .eq 7, 3, 158, 0, 0, .inl 0, []) :: s_X9_holds_154) ls st μ := by rw [s_X9_holds_134]
theorem v_X9_holds_134 : vc X P m_X9_holds h K k_X9_holds S (n + 1) 134 ls st μ = if 134 ∈ S then mAt X m_X9_holds h K 134 ls st μ else bb X P m_X9_holds h K (vc X P m_X9_holds h K k_X9_holds S n) s_X9_holds_134 ls st μ := by rw [vc_s, t_X9_holds_134]
theorem w_X9_holds_154 : bb X P m_X9_holds h K J s_X9_holds_154 ls st μ = bb X P m_X9_holds h K J ((154, .iconst 1, 1, 0, 0, 0, .inl (nI 1), []) ::
  (155, .goto 4, 3, 159, 0, 0, .inl 0, []) :: s_X9_holds_158) ls st μ := by rw [s_X9_holds_154]
theorem v_X9_holds_154 : vc X P m_X9_holds h K k_X9_holds S (n + 1) 154 ls st μ = if 154 ∈ S then mAt X m_X9_holds h K 154 ls st μ else bb X P m_X9_holds h K (vc X P m_X9_holds h K k_X9_holds S n) s_X9_holds_154 ls st μ := by rw [vc_s, t_X9_holds_154]
theorem w_X9_holds_158 : bb X P m_X9_holds h K J s_X9_holds_158 ls st μ = bb X P m_X9_holds h K J ((158, .iconst 0, 1, 0, 0, 0, .inl (nI 0), []) :: s_X9_holds_159) ls st μ := by rw [s_X9_holds_158]
theorem v_X9_holds_158 : vc X P m_X9_holds h K k_X9_holds S (n + 1) 158 ls st μ = if 158 ∈ S then mAt X m_X9_holds h K 158 ls st μ else bb X P m_X9_holds h K (vc X P m_X9_holds h K k_X9_holds S n) s_X9_holds_158 ls st μ := by rw [vc_s, t_X9_holds_158]
theorem w_X9_holds_159 : bb X P m_X9_holds h K J s_X9_holds_159 ls st μ = bb X P m_X9_holds h K J ((159, .ireturn, 1, 1, 0, 0, .inl 0, []) :: s_X9_holds_160) ls st μ := by rw [s_X9_holds_159]
theorem v_X9_holds_159 : vc X P m_X9_holds h K k_X9_holds S (n + 1) 159 ls st μ = if 159 ∈ S then mAt X m_X9_holds h K 159 ls st μ else bb X P m_X9_holds h K (vc X P m_X9_holds h K k_X9_holds S n) s_X9_holds_159 ls st μ := by rw [vc_s, t_X9_holds_159]
theorem w_X9_holds_160 : bb X P m_X9_holds h K J s_X9_holds_160 ls st μ = bb X P m_X9_holds h K J ((160, .aload_n 0, 1, 0, 0, 0, .inl 0, []) ::
  (161, .getfield 13, 3, 8, 14, 3, .inr (.inr (16, 925, 2)), [1210]) ::
  (164, .bipush 38, 2, 0, 0, 0, .inl (nI 38), []) ::
  (166, .iload_n 2, 1, 2, 0, 0, .inl 0, []) ::
  (167, .iload 4, 2, 4, 0, 0, .inl 0, []) ::
  (169, .invokestatic 182, 3, 148, 2, 1, .inl 0, [1437]) ::
  (172, .iadd, 1, 0, 0, 0, .inl 0, []) ::
  (173, .iaload, 1, 0, 0, 0, .inl 0, []) ::
  (174, .ifCond .le 7, 3, 181, 0, 0, .inl 0, []) ::
  (177, .iconst 1, 1, 0, 0, 0, .inl (nI 1), []) ::
  (178, .goto 4, 3, 182, 0, 0, .inl 0, []) :: s_X9_holds_181) ls st μ := by rw [s_X9_holds_160]
theorem v_X9_holds_160 : vc X P m_X9_holds h K k_X9_holds S (n + 1) 160 ls st μ = if 160 ∈ S then mAt X m_X9_holds h K 160 ls st μ else bb X P m_X9_holds h K (vc X P m_X9_holds h K k_X9_holds S n) s_X9_holds_160 ls st μ := by rw [vc_s, t_X9_holds_160]
theorem w_X9_holds_181 : bb X P m_X9_holds h K J s_X9_holds_181 ls st μ = bb X P m_X9_holds h K J ((181, .iconst 0, 1, 0, 0, 0, .inl (nI 0), []) :: s_X9_holds_182) ls st μ := by rw [s_X9_holds_181]
theorem v_X9_holds_181 : vc X P m_X9_holds h K k_X9_holds S (n + 1) 181 ls st μ = if 181 ∈ S then mAt X m_X9_holds h K 181 ls st μ else bb X P m_X9_holds h K (vc X P m_X9_holds h K k_X9_holds S n) s_X9_holds_181 ls st μ := by rw [vc_s, t_X9_holds_181]
theorem w_X9_holds_182 : bb X P m_X9_holds h K J s_X9_holds_182 ls st μ = bb X P m_X9_holds h K J ((182, .ireturn, 1, 1, 0, 0, .inl 0, []) :: s_X9_holds_183) ls st μ := by rw [s_X9_holds_182]
theorem v_X9_holds_182 : vc X P m_X9_holds h K k_X9_holds S (n + 1) 182 ls st μ = if 182 ∈ S then mAt X m_X9_holds h K 182 ls st μ else bb X P m_X9_holds h K (vc X P m_X9_holds h K k_X9_holds S n) s_X9_holds_182 ls st μ := by rw [vc_s, t_X9_holds_182]
theorem w_X9_holds_183 : bb X P m_X9_holds h K J s_X9_holds_183 ls st μ = bb X P m_X9_holds h K J ((183, .aload_n 0, 1, 0, 0, 0, .inl 0, []) ::
  (184, .getfield 13, 3, 8, 14, 3, .inr (.inr (16, 925, 2)), [1210]) ::
  (187, .sipush 182, 3, 0, 0, 0, .inl (nI 182), []) ::
  (190, .iload_n 2, 1, 2, 0, 0, .inl 0, []) ::
  (191, .iload 4, 2, 4, 0, 0, .inl 0, []) ::
  (193, .invokestatic 182, 3, 148, 2, 1, .inl 0, [1437]) ::
  (196, .iadd, 1, 0, 0, 0, .inl 0, []) ::
  (197, .iaload, 1, 0, 0, 0, .inl 0, []) ::
  (198, .ifCond .le 7, 3, 205, 0, 0, .inl 0, []) ::
  (201, .iconst 1, 1, 0, 0, 0, .inl (nI 1), []) ::
  (202, .goto 4, 3, 206, 0, 0, .inl 0, []) :: s_X9_holds_205) ls st μ := by rw [s_X9_holds_183]
theorem v_X9_holds_183 : vc X P m_X9_holds h K k_X9_holds S (n + 1) 183 ls st μ = if 183 ∈ S then mAt X m_X9_holds h K 183 ls st μ else bb X P m_X9_holds h K (vc X P m_X9_holds h K k_X9_holds S n) s_X9_holds_183 ls st μ := by rw [vc_s, t_X9_holds_183]
theorem w_X9_holds_205 : bb X P m_X9_holds h K J s_X9_holds_205 ls st μ = bb X P m_X9_holds h K J ((205, .iconst 0, 1, 0, 0, 0, .inl (nI 0), []) :: s_X9_holds_206) ls st μ := by rw [s_X9_holds_205]
theorem v_X9_holds_205 : vc X P m_X9_holds h K k_X9_holds S (n + 1) 205 ls st μ = if 205 ∈ S then mAt X m_X9_holds h K 205 ls st μ else bb X P m_X9_holds h K (vc X P m_X9_holds h K k_X9_holds S n) s_X9_holds_205 ls st μ := by rw [vc_s, t_X9_holds_205]
theorem w_X9_holds_206 : bb X P m_X9_holds h K J s_X9_holds_206 ls st μ = bb X P m_X9_holds h K J ((206, .ireturn, 1, 1, 0, 0, .inl 0, []) :: s_X9_holds_207) ls st μ := by rw [s_X9_holds_206]
theorem v_X9_holds_206 : vc X P m_X9_holds h K k_X9_holds S (n + 1) 206 ls st μ = if 206 ∈ S then mAt X m_X9_holds h K 206 ls st μ else bb X P m_X9_holds h K (vc X P m_X9_holds h K k_X9_holds S n) s_X9_holds_206 ls st μ := by rw [vc_s, t_X9_holds_206]
theorem w_X9_holds_207 : bb X P m_X9_holds h K J s_X9_holds_207 ls st μ = bb X P m_X9_holds h K J ((207, .aload_n 0, 1, 0, 0, 0, .inl 0, []) ::
  (208, .getfield 13, 3, 8, 14, 3, .inr (.inr (16, 925, 2)), [1210]) ::
  (211, .sipush 857, 3, 0, 0, 0, .inl (nI 857), []) ::
  (214, .iload_n 2, 1, 2, 0, 0, .inl 0, []) ::
  (215, .iadd, 1, 0, 0, 0, .inl 0, []) ::
  (216, .iaload, 1, 0, 0, 0, .inl 0, []) ::
  (217, .iload 4, 2, 4, 0, 0, .inl 0, []) ::
  (219, .invokestatic 250, 3, 169, 2, 1, .inl 0, [1543]) ::
  (222, .ireturn, 1, 1, 0, 0, .inl 0, []) :: s_X9_holds_223) ls st μ := by rw [s_X9_holds_207]
theorem v_X9_holds_207 : vc X P m_X9_holds h K k_X9_holds S (n + 1) 207 ls st μ = if 207 ∈ S then mAt X m_X9_holds h K 207 ls st μ else bb X P m_X9_holds h K (vc X P m_X9_holds h K k_X9_holds S n) s_X9_holds_207 ls st μ := by rw [vc_s, t_X9_holds_207]
theorem w_X9_holds_223 : bb X P m_X9_holds h K J s_X9_holds_223 ls st μ = bb X P m_X9_holds h K J ((223, .aload_n 0, 1, 0, 0, 0, .inl 0, []) ::
  (224, .getfield 13, 3, 8, 14, 3, .inr (.inr (16, 925, 2)), [1210]) ::
  (227, .iload_n 3, 1, 3, 0, 0, .inl 0, []) ::
  (228, .iaload, 1, 0, 0, 0, .inl 0, []) ::
  (229, .bipush 50, 2, 0, 0, 0, .inl (nI 50), []) ::
  (231, .isub, 1, 0, 0, 0, .inl 0, []) ::
  (232, .istore 6, 2, 6, 0, 0, .inl 0, []) ::
  (234, .iload 6, 2, 6, 0, 0, .inl 0, []) ::
  (236, .bipush 18, 2, 0, 0, 0, .inl (nI 18), []) ::
  (238, .if_icmp .ne 7, 3, 245, 0, 0, .inl 0, []) ::
  (241, .iload_n 2, 1, 2, 0, 0, .inl 0, []) ::
  (242, .goto 43, 3, 285, 0, 0, .inl 0, []) :: s_X9_holds_245) ls st μ := by rw [s_X9_holds_223]
theorem v_X9_holds_223 : vc X P m_X9_holds h K k_X9_holds S (n + 1) 223 ls st μ = if 223 ∈ S then mAt X m_X9_holds h K 223 ls st μ else bb X P m_X9_holds h K (vc X P m_X9_holds h K k_X9_holds S n) s_X9_holds_223 ls st μ := by rw [vc_s, t_X9_holds_223]
theorem w_X9_holds_245 : bb X P m_X9_holds h K J s_X9_holds_245 ls st μ = bb X P m_X9_holds h K J ((245, .aload_n 0, 1, 0, 0, 0, .inl 0, []) ::
  (246, .getfield 13, 3, 8, 14, 3, .inr (.inr (16, 925, 2)), [1210]) ::
  (249, .sipush 621, 3, 0, 0, 0, .inl (nI 621), []) ::
  (252, .iload 6, 2, 6, 0, 0, .inl 0, []) ::
  (254, .bipush 15, 2, 0, 0, 0, .inl (nI 15), []) ::
  (256, .if_icmp .ne 9, 3, 265, 0, 0, .inl 0, []) ::
  (259, .sipush 212, 3, 0, 0, 0, .inl (nI 212), []) ::
  (262, .goto 19, 3, 281, 0, 0, .inl 0, []) :: s_X9_holds_265) ls st μ := by rw [s_X9_holds_245]
theorem v_X9_holds_245 : vc X P m_X9_holds h K k_X9_holds S (n + 1) 245 ls st μ = if 245 ∈ S then mAt X m_X9_holds h K 245 ls st μ else bb X P m_X9_holds h K (vc X P m_X9_holds h K k_X9_holds S n) s_X9_holds_245 ls st μ := by rw [vc_s, t_X9_holds_245]
theorem w_X9_holds_265 : bb X P m_X9_holds h K J s_X9_holds_265 ls st μ = bb X P m_X9_holds h K J ((265, .iload 6, 2, 6, 0, 0, .inl 0, []) ::
  (267, .bipush 16, 2, 0, 0, 0, .inl (nI 16), []) ::
  (269, .if_icmp .ne 9, 3, 278, 0, 0, .inl 0, []) ::
  (272, .sipush 220, 3, 0, 0, 0, .inl (nI 220), []) ::
  (275, .goto 6, 3, 281, 0, 0, .inl 0, []) :: s_X9_holds_278) ls st μ := by rw [s_X9_holds_265]
theorem v_X9_holds_265 : vc X P m_X9_holds h K k_X9_holds S (n + 1) 265 ls st μ = if 265 ∈ S then mAt X m_X9_holds h K 265 ls st μ else bb X P m_X9_holds h K (vc X P m_X9_holds h K k_X9_holds S n) s_X9_holds_265 ls st μ := by rw [vc_s, t_X9_holds_265]
theorem w_X9_holds_278 : bb X P m_X9_holds h K J s_X9_holds_278 ls st μ = bb X P m_X9_holds h K J ((278, .sipush 228, 3, 0, 0, 0, .inl (nI 228), []) :: s_X9_holds_281) ls st μ := by rw [s_X9_holds_278]
theorem v_X9_holds_278 : vc X P m_X9_holds h K k_X9_holds S (n + 1) 278 ls st μ = if 278 ∈ S then mAt X m_X9_holds h K 278 ls st μ else bb X P m_X9_holds h K (vc X P m_X9_holds h K k_X9_holds S n) s_X9_holds_278 ls st μ := by rw [vc_s, t_X9_holds_278]
theorem w_X9_holds_281 : bb X P m_X9_holds h K J s_X9_holds_281 ls st μ = bb X P m_X9_holds h K J ((281, .iadd, 1, 0, 0, 0, .inl 0, []) ::
  (282, .iload_n 2, 1, 2, 0, 0, .inl 0, []) ::
  (283, .iadd, 1, 0, 0, 0, .inl 0, []) ::
  (284, .iaload, 1, 0, 0, 0, .inl 0, []) :: s_X9_holds_285) ls st μ := by rw [s_X9_holds_281]
theorem v_X9_holds_281 : vc X P m_X9_holds h K k_X9_holds S (n + 1) 281 ls st μ = if 281 ∈ S then mAt X m_X9_holds h K 281 ls st μ else bb X P m_X9_holds h K (vc X P m_X9_holds h K k_X9_holds S n) s_X9_holds_281 ls st μ := by rw [vc_s, t_X9_holds_281]
theorem w_X9_holds_285 : bb X P m_X9_holds h K J s_X9_holds_285 ls st μ = bb X P m_X9_holds h K J ((285, .istore 7, 2, 7, 0, 0, .inl 0, []) ::
  (287, .aload_n 0, 1, 0, 0, 0, .inl 0, []) ::
  (288, .getfield 13, 3, 8, 14, 3, .inr (.inr (16, 925, 2)), [1210]) ::
  (291, .iload_n 3, 1, 3, 0, 0, .inl 0, []) ::
  (292, .iconst 3, 1, 0, 0, 0, .inl (nI 3), []) ::
  (293, .iadd, 1, 0, 0, 0, .inl 0, []) ::
  (294, .iaload, 1, 0, 0, 0, .inl 0, []) ::
  (295, .bipush 60, 2, 0, 0, 0, .inl (nI 60), []) ::
  (297, .if_icmp .ne 18, 3, 315, 0, 0, .inl 0, []) ::
  (300, .iload 7, 2, 7, 0, 0, .inl 0, []) ::
  (302, .iload 5, 2, 5, 0, 0, .inl 0, []) ::
  (304, .if_icmp .ge 7, 3, 311, 0, 0, .inl 0, []) ::
  (307, .iconst 1, 1, 0, 0, 0, .inl (nI 1), []) ::
  (308, .goto 47, 3, 355, 0, 0, .inl 0, []) :: s_X9_holds_311) ls st μ := by rw [s_X9_holds_285]
theorem v_X9_holds_285 : vc X P m_X9_holds h K k_X9_holds S (n + 1) 285 ls st μ = if 285 ∈ S then mAt X m_X9_holds h K 285 ls st μ else bb X P m_X9_holds h K (vc X P m_X9_holds h K k_X9_holds S n) s_X9_holds_285 ls st μ := by rw [vc_s, t_X9_holds_285]
theorem w_X9_holds_311 : bb X P m_X9_holds h K J s_X9_holds_311 ls st μ = bb X P m_X9_holds h K J ((311, .iconst 0, 1, 0, 0, 0, .inl (nI 0), []) ::
  (312, .goto 43, 3, 355, 0, 0, .inl 0, []) :: s_X9_holds_315) ls st μ := by rw [s_X9_holds_311]
theorem v_X9_holds_311 : vc X P m_X9_holds h K k_X9_holds S (n + 1) 311 ls st μ = if 311 ∈ S then mAt X m_X9_holds h K 311 ls st μ else bb X P m_X9_holds h K (vc X P m_X9_holds h K k_X9_holds S n) s_X9_holds_311 ls st μ := by rw [vc_s, t_X9_holds_311]
theorem w_X9_holds_315 : bb X P m_X9_holds h K J s_X9_holds_315 ls st μ = bb X P m_X9_holds h K J ((315, .aload_n 0, 1, 0, 0, 0, .inl 0, []) ::
  (316, .getfield 13, 3, 8, 14, 3, .inr (.inr (16, 925, 2)), [1210]) ::
  (319, .iload_n 3, 1, 3, 0, 0, .inl 0, []) ::
  (320, .iconst 3, 1, 0, 0, 0, .inl (nI 3), []) ::
  (321, .iadd, 1, 0, 0, 0, .inl 0, []) ::
  (322, .iaload, 1, 0, 0, 0, .inl 0, []) ::
  (323, .bipush 61, 2, 0, 0, 0, .inl (nI 61), []) ::
  (325, .if_icmp .ne 18, 3, 343, 0, 0, .inl 0, []) ::
  (328, .iload 7, 2, 7, 0, 0, .inl 0, []) ::
  (330, .iload 5, 2, 5, 0, 0, .inl 0, []) ::
  (332, .if_icmp .ne 7, 3, 339, 0, 0, .inl 0, []) ::
  (335, .iconst 1, 1, 0, 0, 0, .inl (nI 1), []) ::
  (336, .goto 19, 3, 355, 0, 0, .inl 0, []) :: s_X9_holds_339) ls st μ := by rw [s_X9_holds_315]
theorem v_X9_holds_315 : vc X P m_X9_holds h K k_X9_holds S (n + 1) 315 ls st μ = if 315 ∈ S then mAt X m_X9_holds h K 315 ls st μ else bb X P m_X9_holds h K (vc X P m_X9_holds h K k_X9_holds S n) s_X9_holds_315 ls st μ := by rw [vc_s, t_X9_holds_315]
theorem w_X9_holds_339 : bb X P m_X9_holds h K J s_X9_holds_339 ls st μ = bb X P m_X9_holds h K J ((339, .iconst 0, 1, 0, 0, 0, .inl (nI 0), []) ::
  (340, .goto 15, 3, 355, 0, 0, .inl 0, []) :: s_X9_holds_343) ls st μ := by rw [s_X9_holds_339]
theorem v_X9_holds_339 : vc X P m_X9_holds h K k_X9_holds S (n + 1) 339 ls st μ = if 339 ∈ S then mAt X m_X9_holds h K 339 ls st μ else bb X P m_X9_holds h K (vc X P m_X9_holds h K k_X9_holds S n) s_X9_holds_339 ls st μ := by rw [vc_s, t_X9_holds_339]
theorem w_X9_holds_343 : bb X P m_X9_holds h K J s_X9_holds_343 ls st μ = bb X P m_X9_holds h K J ((343, .iload 7, 2, 7, 0, 0, .inl 0, []) ::
  (345, .iload 5, 2, 5, 0, 0, .inl 0, []) ::
  (347, .if_icmp .le 7, 3, 354, 0, 0, .inl 0, []) ::
  (350, .iconst 1, 1, 0, 0, 0, .inl (nI 1), []) ::
  (351, .goto 4, 3, 355, 0, 0, .inl 0, []) :: s_X9_holds_354) ls st μ := by rw [s_X9_holds_343]
theorem v_X9_holds_343 : vc X P m_X9_holds h K k_X9_holds S (n + 1) 343 ls st μ = if 343 ∈ S then mAt X m_X9_holds h K 343 ls st μ else bb X P m_X9_holds h K (vc X P m_X9_holds h K k_X9_holds S n) s_X9_holds_343 ls st μ := by rw [vc_s, t_X9_holds_343]
theorem w_X9_holds_354 : bb X P m_X9_holds h K J s_X9_holds_354 ls st μ = bb X P m_X9_holds h K J ((354, .iconst 0, 1, 0, 0, 0, .inl (nI 0), []) :: s_X9_holds_355) ls st μ := by rw [s_X9_holds_354]
theorem v_X9_holds_354 : vc X P m_X9_holds h K k_X9_holds S (n + 1) 354 ls st μ = if 354 ∈ S then mAt X m_X9_holds h K 354 ls st μ else bb X P m_X9_holds h K (vc X P m_X9_holds h K k_X9_holds S n) s_X9_holds_354 ls st μ := by rw [vc_s, t_X9_holds_354]
theorem w_X9_holds_355 : bb X P m_X9_holds h K J s_X9_holds_355 ls st μ = bb X P m_X9_holds h K J ((355, .ireturn, 1, 1, 0, 0, .inl 0, []) :: []) ls st μ := by rw [s_X9_holds_355]
theorem v_X9_holds_355 : vc X P m_X9_holds h K k_X9_holds S (n + 1) 355 ls st μ = if 355 ∈ S then mAt X m_X9_holds h K 355 ls st μ else bb X P m_X9_holds h K (vc X P m_X9_holds h K k_X9_holds S n) s_X9_holds_355 ls st μ := by rw [vc_s, t_X9_holds_355]
end
section
variable {X : mC} {P : mP} {h : Nat} {K : MV → Mem → Prop} {J : mJ} {ls : List (Nat × MV)} {st : List MV} {μ : Mem} {S : List Nat} {n : Nat}
theorem w_X9_hour_0 : bb X P m_X9_hour h K J s_X9_hour_0 ls st μ = bb X P m_X9_hour h K J ((0, .aload_n 1, 1, 1, 0, 0, .inl 0, []) ::
  (1, .iload_n 2, 1, 2, 0, 0, .inl 0, []) ::
  (2, .iconst 1, 1, 0, 0, 0, .inl (nI 1), []) ::
  (3, .iadd, 1, 0, 0, 0, .inl 0, []) ::
  (4, .iaload, 1, 0, 0, 0, .inl 0, []) ::
  (5, .istore_n 3, 1, 3, 0, 0, .inl 0, []) ::
  (6, .aload_n 0, 1, 0, 0, 0, .inl 0, []) ::
  (7, .getfield 39, 3, 8, 22, 3, .inr (.inr (16, 278, 10)), [1218]) ::
  (10, .iconst 1, 1, 0, 0, 0, .inl (nI 1), []) ::
  (11, .iaload, 1, 0, 0, 0, .inl 0, []) ::
  (12, .istore 4, 2, 4, 0, 0, .inl 0, []) ::
  (14, .aload_n 0, 1, 0, 0, 0, .inl 0, []) ::
  (15, .getfield 243, 3, 8, 29, 2, .inl 0, [1225]) ::
  (18, .ifCond .eq 10, 3, 28, 0, 0, .inl 0, []) ::
  (21, .aload_n 0, 1, 0, 0, 0, .inl 0, []) ::
  (22, .aload_n 1, 1, 1, 0, 0, .inl 0, []) ::
  (23, .iload_n 2, 1, 2, 0, 0, .inl 0, []) ::
  (24, .iload_n 3, 1, 3, 0, 0, .inl 0, []) ::
  (25, .invokevirtual 256, 3, 144, 4, 0, .inl 0, [1524, 8]) :: s_X9_hour_28) ls st μ := by rw [s_X9_hour_0]
theorem v_X9_hour_0 : vc X P m_X9_hour h K k_X9_hour S (n + 1) 0 ls st μ = if 0 ∈ S then mAt X m_X9_hour h K 0 ls st μ else bb X P m_X9_hour h K (vc X P m_X9_hour h K k_X9_hour S n) s_X9_hour_0 ls st μ := by rw [vc_s, t_X9_hour_0]
theorem w_X9_hour_28 : bb X P m_X9_hour h K J s_X9_hour_28 ls st μ = bb X P m_X9_hour h K J ((28, .iconst 0, 1, 0, 0, 0, .inl (nI 0), []) ::
  (29, .istore 5, 2, 5, 0, 0, .inl 0, []) :: s_X9_hour_31) ls st μ := by rw [s_X9_hour_28]
theorem v_X9_hour_28 : vc X P m_X9_hour h K k_X9_hour S (n + 1) 28 ls st μ = if 28 ∈ S then mAt X m_X9_hour h K 28 ls st μ else bb X P m_X9_hour h K (vc X P m_X9_hour h K k_X9_hour S n) s_X9_hour_28 ls st μ := by rw [vc_s, t_X9_hour_28]
theorem w_X9_hour_31 : bb X P m_X9_hour h K J s_X9_hour_31 ls st μ = bb X P m_X9_hour h K J ((31, .iload 5, 2, 5, 0, 0, .inl 0, []) ::
  (33, .aload_n 0, 1, 0, 0, 0, .inl 0, []) ::
  (34, .getfield 39, 3, 8, 22, 3, .inr (.inr (16, 278, 10)), [1218]) ::
  (37, .iconst 0, 1, 0, 0, 0, .inl (nI 0), []) ::
  (38, .iaload, 1, 0, 0, 0, .inl 0, []) ::
  (39, .if_icmp .ge 77, 3, 116, 0, 0, .inl 0, []) ::
  (42, .aload_n 0, 1, 0, 0, 0, .inl 0, []) ::
  (43, .getfield 45, 3, 8, 24, 3, .inr (.inr (16, 6, 12)), [1220]) ::
  (46, .iload 5, 2, 5, 0, 0, .inl 0, []) ::
  (48, .aload_n 1, 1, 1, 0, 0, .inl 0, []) ::
  (49, .iload_n 2, 1, 2, 0, 0, .inl 0, []) ::
  (50, .sipush 194, 3, 0, 0, 0, .inl (nI 194), []) ::
  (53, .iadd, 1, 0, 0, 0, .inl 0, []) ::
  (54, .iload 5, 2, 5, 0, 0, .inl 0, []) ::
  (56, .iadd, 1, 0, 0, 0, .inl 0, []) ::
  (57, .iaload, 1, 0, 0, 0, .inl 0, []) ::
  (58, .iastore, 1, 0, 0, 0, .inl 0, []) ::
  (59, .aload_n 0, 1, 0, 0, 0, .inl 0, []) ::
  (60, .getfield 48, 3, 8, 25, 3, .inr (.inr (16, 6, 13)), [1221]) ::
  (63, .iload 5, 2, 5, 0, 0, .inl 0, []) ::
  (65, .aload_n 1, 1, 1, 0, 0, .inl 0, []) ::
  (66, .iload_n 2, 1, 2, 0, 0, .inl 0, []) ::
  (67, .sipush 200, 3, 0, 0, 0, .inl (nI 200), []) ::
  (70, .iadd, 1, 0, 0, 0, .inl 0, []) ::
  (71, .iload 5, 2, 5, 0, 0, .inl 0, []) ::
  (73, .iadd, 1, 0, 0, 0, .inl 0, []) ::
  (74, .iaload, 1, 0, 0, 0, .inl 0, []) ::
  (75, .iastore, 1, 0, 0, 0, .inl 0, []) ::
  (76, .aload_n 0, 1, 0, 0, 0, .inl 0, []) ::
  (77, .getfield 51, 3, 8, 26, 3, .inr (.inr (16, 6, 14)), [1222]) ::
  (80, .iload 5, 2, 5, 0, 0, .inl 0, []) ::
  (82, .aload_n 1, 1, 1, 0, 0, .inl 0, []) ::
  (83, .iload_n 2, 1, 2, 0, 0, .inl 0, []) ::
  (84, .sipush 206, 3, 0, 0, 0, .inl (nI 206), []) ::
  (87, .iadd, 1, 0, 0, 0, .inl 0, []) ::
  (88, .iload 5, 2, 5, 0, 0, .inl 0, []) ::
  (90, .iadd, 1, 0, 0, 0, .inl 0, []) ::
  (91, .iaload, 1, 0, 0, 0, .inl 0, []) ::
  (92, .iastore, 1, 0, 0, 0, .inl 0, []) ::
  (93, .aload_n 0, 1, 0, 0, 0, .inl 0, []) ::
  (94, .getfield 39, 3, 8, 22, 3, .inr (.inr (16, 278, 10)), [1218]) ::
  (97, .iconst 2, 1, 0, 0, 0, .inl (nI 2), []) ::
  (98, .iaload, 1, 0, 0, 0, .inl 0, []) ::
  (99, .ifCond .le 11, 3, 110, 0, 0, .inl 0, []) ::
  (102, .aload_n 0, 1, 0, 0, 0, .inl 0, []) ::
  (103, .aload_n 1, 1, 1, 0, 0, .inl 0, []) ::
  (104, .iload_n 2, 1, 2, 0, 0, .inl 0, []) ::
  (105, .iload 5, 2, 5, 0, 0, .inl 0, []) ::
  (107, .invokevirtual 260, 3, 201, 4, 0, .inl 0, [1531, 8]) :: s_X9_hour_110) ls st μ := by rw [s_X9_hour_31]
theorem v_X9_hour_31 : vc X P m_X9_hour h K k_X9_hour S (n + 1) 31 ls st μ = if 31 ∈ S then mAt X m_X9_hour h K 31 ls st μ else bb X P m_X9_hour h K (vc X P m_X9_hour h K k_X9_hour S n) s_X9_hour_31 ls st μ := by rw [vc_s, t_X9_hour_31]
theorem w_X9_hour_110 : bb X P m_X9_hour h K J s_X9_hour_110 ls st μ = bb X P m_X9_hour h K J ((110, .iinc 5 1, 3, 5, 0, 0, .inl (nI 1), []) ::
  (113, .goto (-82), 3, 31, 0, 0, .inl 0, []) :: s_X9_hour_116) ls st μ := by rw [s_X9_hour_110]
theorem v_X9_hour_110 : vc X P m_X9_hour h K k_X9_hour S (n + 1) 110 ls st μ = if 110 ∈ S then mAt X m_X9_hour h K 110 ls st μ else bb X P m_X9_hour h K (vc X P m_X9_hour h K k_X9_hour S n) s_X9_hour_110 ls st μ := by rw [vc_s, t_X9_hour_110]
theorem w_X9_hour_116 : bb X P m_X9_hour h K J s_X9_hour_116 ls st μ = bb X P m_X9_hour h K J ((116, .iconst 0, 1, 0, 0, 0, .inl (nI 0), []) ::
  (117, .istore 5, 2, 5, 0, 0, .inl 0, []) :: s_X9_hour_119) ls st μ := by rw [s_X9_hour_116]
theorem v_X9_hour_116 : vc X P m_X9_hour h K k_X9_hour S (n + 1) 116 ls st μ = if 116 ∈ S then mAt X m_X9_hour h K 116 ls st μ else bb X P m_X9_hour h K (vc X P m_X9_hour h K k_X9_hour S n) s_X9_hour_116 ls st μ := by rw [vc_s, t_X9_hour_116]
theorem w_X9_hour_119 : bb X P m_X9_hour h K J s_X9_hour_119 ls st μ = bb X P m_X9_hour h K J ((119, .iload 5, 2, 5, 0, 0, .inl 0, []) ::
  (121, .iload 4, 2, 4, 0, 0, .inl 0, []) ::
  (123, .if_icmp .ge 138, 3, 261, 0, 0, .inl 0, []) ::
  (126, .iconst 0, 1, 0, 0, 0, .inl (nI 0), []) ::
  (127, .istore 6, 2, 6, 0, 0, .inl 0, []) :: s_X9_hour_129) ls st μ := by rw [s_X9_hour_119]
theorem v_X9_hour_119 : vc X P m_X9_hour h K k_X9_hour S (n + 1) 119 ls st μ = if 119 ∈ S then mAt X m_X9_hour h K 119 ls st μ else bb X P m_X9_hour h K (vc X P m_X9_hour h K k_X9_hour S n) s_X9_hour_119 ls st μ := by rw [vc_s, t_X9_hour_119]
theorem w_X9_hour_129 : bb X P m_X9_hour h K J s_X9_hour_129 ls st μ = bb X P m_X9_hour h K J ((129, .iload 6, 2, 6, 0, 0, .inl 0, []) ::
  (131, .aload_n 0, 1, 0, 0, 0, .inl 0, []) ::
  (132, .getfield 39, 3, 8, 22, 3, .inr (.inr (16, 278, 10)), [1218]) ::
  (135, .iconst 0, 1, 0, 0, 0, .inl (nI 0), []) ::
  (136, .iaload, 1, 0, 0, 0, .inl 0, []) ::
  (137, .if_icmp .ge 19, 3, 156, 0, 0, .inl 0, []) ::
  (140, .aload_n 0, 1, 0, 0, 0, .inl 0, []) ::
  (141, .aload_n 1, 1, 1, 0, 0, .inl 0, []) ::
  (142, .iload_n 2, 1, 2, 0, 0, .inl 0, []) ::
  (143, .iload 5, 2, 5, 0, 0, .inl 0, []) ::
  (145, .iload 6, 2, 6, 0, 0, .inl 0, []) ::
  (147, .invokevirtual 263, 3, 160, 5, 0, .inl 0, [1535, 8]) ::
  (150, .iinc 6 1, 3, 6, 0, 0, .inl (nI 1), []) ::
  (153, .goto (-24), 3, 129, 0, 0, .inl 0, []) :: s_X9_hour_156) ls st μ := by rw [s_X9_hour_129]
theorem v_X9_hour_129 : vc X P m_X9_hour h K k_X9_hour S (n + 1) 129 ls st μ = if 129 ∈ S then mAt X m_X9_hour h K 129 ls st μ else bb X P m_X9_hour h K (vc X P m_X9_hour h K k_X9_hour S n) s_X9_hour_129 ls st μ := by rw [vc_s, t_X9_hour_129]
theorem w_X9_hour_156 : bb X P m_X9_hour h K J s_X9_hour_156 ls st μ = bb X P m_X9_hour h K J ((156, .aload_n 0, 1, 0, 0, 0, .inl 0, []) ::
  (157, .aload_n 1, 1, 1, 0, 0, .inl 0, []) ::
  (158, .iload_n 2, 1, 2, 0, 0, .inl 0, []) ::
  (159, .iload 5, 2, 5, 0, 0, .inl 0, []) ::
  (161, .iload_n 3, 1, 3, 0, 0, .inl 0, []) ::
  (162, .invokevirtual 267, 3, 206, 5, 1, .inl 0, [1539, 8]) ::
  (165, .istore 6, 2, 6, 0, 0, .inl 0, []) ::
  (167, .aload_n 1, 1, 1, 0, 0, .inl 0, []) ::
  (168, .iload_n 2, 1, 2, 0, 0, .inl 0, []) ::
  (169, .sipush 252, 3, 0, 0, 0, .inl (nI 252), []) ::
  (172, .iadd, 1, 0, 0, 0, .inl 0, []) ::
  (173, .iload 5, 2, 5, 0, 0, .inl 0, []) ::
  (175, .iadd, 1, 0, 0, 0, .inl 0, []) ::
  (176, .iload 6, 2, 6, 0, 0, .inl 0, []) ::
  (178, .ifCond .eq 7, 3, 185, 0, 0, .inl 0, []) ::
  (181, .iconst 1, 1, 0, 0, 0, .inl (nI 1), []) ::
  (182, .goto 4, 3, 186, 0, 0, .inl 0, []) :: s_X9_hour_185) ls st μ := by rw [s_X9_hour_156]
theorem v_X9_hour_156 : vc X P m_X9_hour h K k_X9_hour S (n + 1) 156 ls st μ = if 156 ∈ S then mAt X m_X9_hour h K 156 ls st μ else bb X P m_X9_hour h K (vc X P m_X9_hour h K k_X9_hour S n) s_X9_hour_156 ls st μ := by rw [vc_s, t_X9_hour_156]
theorem w_X9_hour_185 : bb X P m_X9_hour h K J s_X9_hour_185 ls st μ = bb X P m_X9_hour h K J ((185, .iconst 0, 1, 0, 0, 0, .inl (nI 0), []) :: s_X9_hour_186) ls st μ := by rw [s_X9_hour_185]
theorem v_X9_hour_185 : vc X P m_X9_hour h K k_X9_hour S (n + 1) 185 ls st μ = if 185 ∈ S then mAt X m_X9_hour h K 185 ls st μ else bb X P m_X9_hour h K (vc X P m_X9_hour h K k_X9_hour S n) s_X9_hour_185 ls st μ := by rw [vc_s, t_X9_hour_185]
theorem w_X9_hour_186 : bb X P m_X9_hour h K J s_X9_hour_186 ls st μ = bb X P m_X9_hour h K J ((186, .iastore, 1, 0, 0, 0, .inl 0, []) ::
  (187, .iload 6, 2, 6, 0, 0, .inl 0, []) ::
  (189, .ifCond .eq 15, 3, 204, 0, 0, .inl 0, []) ::
  (192, .aload_n 0, 1, 0, 0, 0, .inl 0, []) ::
  (193, .aload_n 1, 1, 1, 0, 0, .inl 0, []) ::
  (194, .iload_n 2, 1, 2, 0, 0, .inl 0, []) ::
  (195, .iload 5, 2, 5, 0, 0, .inl 0, []) ::
  (197, .iload_n 3, 1, 3, 0, 0, .inl 0, []) ::
  (198, .invokevirtual 271, 3, 163, 5, 0, .inl 0, [1550, 8]) ::
  (201, .goto 17, 3, 218, 0, 0, .inl 0, []) :: s_X9_hour_204) ls st μ := by rw [s_X9_hour_186]
theorem v_X9_hour_186 : vc X P m_X9_hour h K k_X9_hour S (n + 1) 186 ls st μ = if 186 ∈ S then mAt X m_X9_hour h K 186 ls st μ else bb X P m_X9_hour h K (vc X P m_X9_hour h K k_X9_hour S n) s_X9_hour_186 ls st μ := by rw [vc_s, t_X9_hour_186]
theorem w_X9_hour_204 : bb X P m_X9_hour h K J s_X9_hour_204 ls st μ = bb X P m_X9_hour h K J ((204, .aload_n 1, 1, 1, 0, 0, .inl 0, []) ::
  (205, .iload_n 2, 1, 2, 0, 0, .inl 0, []) ::
  (206, .sipush 220, 3, 0, 0, 0, .inl (nI 220), []) ::
  (209, .iadd, 1, 0, 0, 0, .inl 0, []) ::
  (210, .iload 5, 2, 5, 0, 0, .inl 0, []) ::
  (212, .iadd, 1, 0, 0, 0, .inl 0, []) ::
  (213, .dup2, 1, 0, 0, 0, .inl 0, []) ::
  (214, .iaload, 1, 0, 0, 0, .inl 0, []) ::
  (215, .iconst 1, 1, 0, 0, 0, .inl (nI 1), []) ::
  (216, .iadd, 1, 0, 0, 0, .inl 0, []) ::
  (217, .iastore, 1, 0, 0, 0, .inl 0, []) :: s_X9_hour_218) ls st μ := by rw [s_X9_hour_204]
theorem v_X9_hour_204 : vc X P m_X9_hour h K k_X9_hour S (n + 1) 204 ls st μ = if 204 ∈ S then mAt X m_X9_hour h K 204 ls st μ else bb X P m_X9_hour h K (vc X P m_X9_hour h K k_X9_hour S n) s_X9_hour_204 ls st μ := by rw [vc_s, t_X9_hour_204]
theorem w_X9_hour_218 : bb X P m_X9_hour h K J s_X9_hour_218 ls st μ = bb X P m_X9_hour h K J ((218, .iconst 0, 1, 0, 0, 0, .inl (nI 0), []) ::
  (219, .istore 7, 2, 7, 0, 0, .inl 0, []) :: s_X9_hour_221) ls st μ := by rw [s_X9_hour_218]
theorem v_X9_hour_218 : vc X P m_X9_hour h K k_X9_hour S (n + 1) 218 ls st μ = if 218 ∈ S then mAt X m_X9_hour h K 218 ls st μ else bb X P m_X9_hour h K (vc X P m_X9_hour h K k_X9_hour S n) s_X9_hour_218 ls st μ := by rw [vc_s, t_X9_hour_218]
theorem w_X9_hour_221 : bb X P m_X9_hour h K J s_X9_hour_221 ls st μ = bb X P m_X9_hour h K J ((221, .iload 7, 2, 7, 0, 0, .inl 0, []) ::
  (223, .aload_n 0, 1, 0, 0, 0, .inl 0, []) ::
  (224, .getfield 39, 3, 8, 22, 3, .inr (.inr (16, 278, 10)), [1218]) ::
  (227, .iconst 0, 1, 0, 0, 0, .inl (nI 0), []) ::
  (228, .iaload, 1, 0, 0, 0, .inl 0, []) ::
  (229, .if_icmp .ge 26, 3, 255, 0, 0, .inl 0, []) ::
  (232, .iload 5, 2, 5, 0, 0, .inl 0, []) ::
  (234, .iload 4, 2, 4, 0, 0, .inl 0, []) ::
  (236, .iconst 1, 1, 0, 0, 0, .inl (nI 1), []) ::
  (237, .isub, 1, 0, 0, 0, .inl 0, []) ::
  (238, .if_icmp .ge 17, 3, 255, 0, 0, .inl 0, []) ::
  (241, .aload_n 0, 1, 0, 0, 0, .inl 0, []) ::
  (242, .aload_n 1, 1, 1, 0, 0, .inl 0, []) ::
  (243, .iload_n 2, 1, 2, 0, 0, .inl 0, []) ::
  (244, .iload 7, 2, 7, 0, 0, .inl 0, []) ::
  (246, .invokevirtual 260, 3, 201, 4, 0, .inl 0, [1531, 8]) ::
  (249, .iinc 7 1, 3, 7, 0, 0, .inl (nI 1), []) ::
  (252, .goto (-31), 3, 221, 0, 0, .inl 0, []) :: s_X9_hour_255) ls st μ := by rw [s_X9_hour_221]
theorem v_X9_hour_221 : vc X P m_X9_hour h K k_X9_hour S (n + 1) 221 ls st μ = if 221 ∈ S then mAt X m_X9_hour h K 221 ls st μ else bb X P m_X9_hour h K (vc X P m_X9_hour h K k_X9_hour S n) s_X9_hour_221 ls st μ := by rw [vc_s, t_X9_hour_221]
theorem w_X9_hour_255 : bb X P m_X9_hour h K J s_X9_hour_255 ls st μ = bb X P m_X9_hour h K J ((255, .iinc 5 1, 3, 5, 0, 0, .inl (nI 1), []) ::
  (258, .goto (-139), 3, 119, 0, 0, .inl 0, []) :: s_X9_hour_261) ls st μ := by rw [s_X9_hour_255]
theorem v_X9_hour_255 : vc X P m_X9_hour h K k_X9_hour S (n + 1) 255 ls st μ = if 255 ∈ S then mAt X m_X9_hour h K 255 ls st μ else bb X P m_X9_hour h K (vc X P m_X9_hour h K k_X9_hour S n) s_X9_hour_255 ls st μ := by rw [vc_s, t_X9_hour_255]
theorem w_X9_hour_261 : bb X P m_X9_hour h K J s_X9_hour_261 ls st μ = bb X P m_X9_hour h K J ((261, .iconst 0, 1, 0, 0, 0, .inl (nI 0), []) ::
  (262, .istore 5, 2, 5, 0, 0, .inl 0, []) :: s_X9_hour_264) ls st μ := by rw [s_X9_hour_261]
theorem v_X9_hour_261 : vc X P m_X9_hour h K k_X9_hour S (n + 1) 261 ls st μ = if 261 ∈ S then mAt X m_X9_hour h K 261 ls st μ else bb X P m_X9_hour h K (vc X P m_X9_hour h K k_X9_hour S n) s_X9_hour_261 ls st μ := by rw [vc_s, t_X9_hour_261]
theorem w_X9_hour_264 : bb X P m_X9_hour h K J s_X9_hour_264 ls st μ = bb X P m_X9_hour h K J ((264, .iload 5, 2, 5, 0, 0, .inl 0, []) ::
  (266, .aload_n 0, 1, 0, 0, 0, .inl 0, []) ::
  (267, .getfield 39, 3, 8, 22, 3, .inr (.inr (16, 278, 10)), [1218]) ::
  (270, .iconst 0, 1, 0, 0, 0, .inl (nI 0), []) ::
  (271, .iaload, 1, 0, 0, 0, .inl 0, []) ::
  (272, .if_icmp .ge 128, 3, 400, 0, 0, .inl 0, []) ::
  (275, .aload_n 0, 1, 0, 0, 0, .inl 0, []) ::
  (276, .getfield 39, 3, 8, 22, 3, .inr (.inr (16, 278, 10)), [1218]) ::
  (279, .iconst 2, 1, 0, 0, 0, .inl (nI 2), []) ::
  (280, .iaload, 1, 0, 0, 0, .inl 0, []) ::
  (281, .ifCond .le 7, 3, 288, 0, 0, .inl 0, []) ::
  (284, .iconst 1, 1, 0, 0, 0, .inl (nI 1), []) ::
  (285, .goto 4, 3, 289, 0, 0, .inl 0, []) :: s_X9_hour_288) ls st μ := by rw [s_X9_hour_264]
theorem v_X9_hour_264 : vc X P m_X9_hour h K k_X9_hour S (n + 1) 264 ls st μ = if 264 ∈ S then mAt X m_X9_hour h K 264 ls st μ else bb X P m_X9_hour h K (vc X P m_X9_hour h K k_X9_hour S n) s_X9_hour_264 ls st μ := by rw [vc_s, t_X9_hour_264]
theorem w_X9_hour_288 : bb X P m_X9_hour h K J s_X9_hour_288 ls st μ = bb X P m_X9_hour h K J ((288, .iconst 0, 1, 0, 0, 0, .inl (nI 0), []) :: s_X9_hour_289) ls st μ := by rw [s_X9_hour_288]
theorem v_X9_hour_288 : vc X P m_X9_hour h K k_X9_hour S (n + 1) 288 ls st μ = if 288 ∈ S then mAt X m_X9_hour h K 288 ls st μ else bb X P m_X9_hour h K (vc X P m_X9_hour h K k_X9_hour S n) s_X9_hour_288 ls st μ := by rw [vc_s, t_X9_hour_288]
theorem w_X9_hour_289 : bb X P m_X9_hour h K J s_X9_hour_289 ls st μ = bb X P m_X9_hour h K J ((289, .istore 6, 2, 6, 0, 0, .inl 0, []) ::
  (291, .iload 6, 2, 6, 0, 0, .inl 0, []) ::
  (293, .ifCond .ne 23, 3, 316, 0, 0, .inl 0, []) ::
  (296, .aload_n 1, 1, 1, 0, 0, .inl 0, []) ::
  (297, .iload_n 2, 1, 2, 0, 0, .inl 0, []) ::
  (298, .sipush 290, 3, 0, 0, 0, .inl (nI 290), []) ::
  (301, .iadd, 1, 0, 0, 0, .inl 0, []) ::
  (302, .iload 5, 2, 5, 0, 0, .inl 0, []) ::
  (304, .iadd, 1, 0, 0, 0, .inl 0, []) ::
  (305, .dup2, 1, 0, 0, 0, .inl 0, []) ::
  (306, .iaload, 1, 0, 0, 0, .inl 0, []) ::
  (307, .aload_n 0, 1, 0, 0, 0, .inl 0, []) ::
  (308, .getfield 45, 3, 8, 24, 3, .inr (.inr (16, 6, 12)), [1220]) ::
  (311, .iload 5, 2, 5, 0, 0, .inl 0, []) ::
  (313, .iaload, 1, 0, 0, 0, .inl 0, []) ::
  (314, .iadd, 1, 0, 0, 0, .inl 0, []) ::
  (315, .iastore, 1, 0, 0, 0, .inl 0, []) :: s_X9_hour_316) ls st μ := by rw [s_X9_hour_289]
theorem v_X9_hour_289 : vc X P m_X9_hour h K k_X9_hour S (n + 1) 289 ls st μ = if 289 ∈ S then mAt X m_X9_hour h K 289 ls st μ else bb X P m_X9_hour h K (vc X P m_X9_hour h K k_X9_hour S n) s_X9_hour_289 ls st μ := by rw [vc_s, t_X9_hour_289]
theorem w_X9_hour_316 : bb X P m_X9_hour h K J s_X9_hour_316 ls st μ = bb X P m_X9_hour h K J ((316, .aload_n 1, 1, 1, 0, 0, .inl 0, []) ::
  (317, .iload_n 2, 1, 2, 0, 0, .inl 0, []) ::
  (318, .sipush 194, 3, 0, 0, 0, .inl (nI 194), []) ::
  (321, .iadd, 1, 0, 0, 0, .inl 0, []) ::
  (322, .iload 5, 2, 5, 0, 0, .inl 0, []) ::
  (324, .iadd, 1, 0, 0, 0, .inl 0, []) ::
  (325, .iload 6, 2, 6, 0, 0, .inl 0, []) ::
  (327, .ifCond .eq 13, 3, 340, 0, 0, .inl 0, []) ::
  (330, .aload_n 0, 1, 0, 0, 0, .inl 0, []) ::
  (331, .getfield 45, 3, 8, 24, 3, .inr (.inr (16, 6, 12)), [1220]) ::
  (334, .iload 5, 2, 5, 0, 0, .inl 0, []) ::
  (336, .iaload, 1, 0, 0, 0, .inl 0, []) ::
  (337, .goto 4, 3, 341, 0, 0, .inl 0, []) :: s_X9_hour_340) ls st μ := by rw [s_X9_hour_316]
theorem v_X9_hour_316 : vc X P m_X9_hour h K k_X9_hour S (n + 1) 316 ls st μ = if 316 ∈ S then mAt X m_X9_hour h K 316 ls st μ else bb X P m_X9_hour h K (vc X P m_X9_hour h K k_X9_hour S n) s_X9_hour_316 ls st μ := by rw [vc_s, t_X9_hour_316]
theorem w_X9_hour_340 : bb X P m_X9_hour h K J s_X9_hour_340 ls st μ = bb X P m_X9_hour h K J ((340, .iconst 0, 1, 0, 0, 0, .inl (nI 0), []) :: s_X9_hour_341) ls st μ := by rw [s_X9_hour_340]
theorem v_X9_hour_340 : vc X P m_X9_hour h K k_X9_hour S (n + 1) 340 ls st μ = if 340 ∈ S then mAt X m_X9_hour h K 340 ls st μ else bb X P m_X9_hour h K (vc X P m_X9_hour h K k_X9_hour S n) s_X9_hour_340 ls st μ := by rw [vc_s, t_X9_hour_340]
theorem w_X9_hour_341 : bb X P m_X9_hour h K J s_X9_hour_341 ls st μ = bb X P m_X9_hour h K J ((341, .iastore, 1, 0, 0, 0, .inl 0, []) ::
  (342, .aload_n 1, 1, 1, 0, 0, .inl 0, []) ::
  (343, .iload_n 2, 1, 2, 0, 0, .inl 0, []) ::
  (344, .sipush 200, 3, 0, 0, 0, .inl (nI 200), []) ::
  (347, .iadd, 1, 0, 0, 0, .inl 0, []) ::
  (348, .iload 5, 2, 5, 0, 0, .inl 0, []) ::
  (350, .iadd, 1, 0, 0, 0, .inl 0, []) ::
  (351, .iload 6, 2, 6, 0, 0, .inl 0, []) ::
  (353, .ifCond .eq 13, 3, 366, 0, 0, .inl 0, []) ::
  (356, .aload_n 0, 1, 0, 0, 0, .inl 0, []) ::
  (357, .getfield 48, 3, 8, 25, 3, .inr (.inr (16, 6, 13)), [1221]) ::
  (360, .iload 5, 2, 5, 0, 0, .inl 0, []) ::
  (362, .iaload, 1, 0, 0, 0, .inl 0, []) ::
  (363, .goto 4, 3, 367, 0, 0, .inl 0, []) :: s_X9_hour_366) ls st μ := by rw [s_X9_hour_341]
theorem v_X9_hour_341 : vc X P m_X9_hour h K k_X9_hour S (n + 1) 341 ls st μ = if 341 ∈ S then mAt X m_X9_hour h K 341 ls st μ else bb X P m_X9_hour h K (vc X P m_X9_hour h K k_X9_hour S n) s_X9_hour_341 ls st μ := by rw [vc_s, t_X9_hour_341]
theorem w_X9_hour_366 : bb X P m_X9_hour h K J s_X9_hour_366 ls st μ = bb X P m_X9_hour h K J ((366, .iconst 0, 1, 0, 0, 0, .inl (nI 0), []) :: s_X9_hour_367) ls st μ := by rw [s_X9_hour_366]
theorem v_X9_hour_366 : vc X P m_X9_hour h K k_X9_hour S (n + 1) 366 ls st μ = if 366 ∈ S then mAt X m_X9_hour h K 366 ls st μ else bb X P m_X9_hour h K (vc X P m_X9_hour h K k_X9_hour S n) s_X9_hour_366 ls st μ := by rw [vc_s, t_X9_hour_366]
theorem w_X9_hour_367 : bb X P m_X9_hour h K J s_X9_hour_367 ls st μ = bb X P m_X9_hour h K J ((367, .iastore, 1, 0, 0, 0, .inl 0, []) ::
  (368, .aload_n 1, 1, 1, 0, 0, .inl 0, []) ::
  (369, .iload_n 2, 1, 2, 0, 0, .inl 0, []) ::
  (370, .sipush 206, 3, 0, 0, 0, .inl (nI 206), []) ::
  (373, .iadd, 1, 0, 0, 0, .inl 0, []) ::
  (374, .iload 5, 2, 5, 0, 0, .inl 0, []) ::
  (376, .iadd, 1, 0, 0, 0, .inl 0, []) ::
  (377, .iload 6, 2, 6, 0, 0, .inl 0, []) ::
  (379, .ifCond .eq 13, 3, 392, 0, 0, .inl 0, []) ::
  (382, .aload_n 0, 1, 0, 0, 0, .inl 0, []) ::
  (383, .getfield 51, 3, 8, 26, 3, .inr (.inr (16, 6, 14)), [1222]) ::
  (386, .iload 5, 2, 5, 0, 0, .inl 0, []) ::
  (388, .iaload, 1, 0, 0, 0, .inl 0, []) ::
  (389, .goto 4, 3, 393, 0, 0, .inl 0, []) :: s_X9_hour_392) ls st μ := by rw [s_X9_hour_367]
theorem v_X9_hour_367 : vc X P m_X9_hour h K k_X9_hour S (n + 1) 367 ls st μ = if 367 ∈ S then mAt X m_X9_hour h K 367 ls st μ else bb X P m_X9_hour h K (vc X P m_X9_hour h K k_X9_hour S n) s_X9_hour_367 ls st μ := by rw [vc_s, t_X9_hour_367]
theorem w_X9_hour_392 : bb X P m_X9_hour h K J s_X9_hour_392 ls st μ = bb X P m_X9_hour h K J ((392, .iconst 0, 1, 0, 0, 0, .inl (nI 0), []) :: s_X9_hour_393) ls st μ := by rw [s_X9_hour_392]
theorem v_X9_hour_392 : vc X P m_X9_hour h K k_X9_hour S (n + 1) 392 ls st μ = if 392 ∈ S then mAt X m_X9_hour h K 392 ls st μ else bb X P m_X9_hour h K (vc X P m_X9_hour h K k_X9_hour S n) s_X9_hour_392 ls st μ := by rw [vc_s, t_X9_hour_392]
theorem w_X9_hour_393 : bb X P m_X9_hour h K J s_X9_hour_393 ls st μ = bb X P m_X9_hour h K J ((393, .iastore, 1, 0, 0, 0, .inl 0, []) ::
  (394, .iinc 5 1, 3, 5, 0, 0, .inl (nI 1), []) ::
  (397, .goto (-133), 3, 264, 0, 0, .inl 0, []) :: s_X9_hour_400) ls st μ := by rw [s_X9_hour_393]
theorem v_X9_hour_393 : vc X P m_X9_hour h K k_X9_hour S (n + 1) 393 ls st μ = if 393 ∈ S then mAt X m_X9_hour h K 393 ls st μ else bb X P m_X9_hour h K (vc X P m_X9_hour h K k_X9_hour S n) s_X9_hour_393 ls st μ := by rw [vc_s, t_X9_hour_393]
theorem w_X9_hour_400 : bb X P m_X9_hour h K J s_X9_hour_400 ls st μ = bb X P m_X9_hour h K J ((400, .aload_n 1, 1, 1, 0, 0, .inl 0, []) ::
  (401, .iload_n 2, 1, 2, 0, 0, .inl 0, []) ::
  (402, .iconst 1, 1, 0, 0, 0, .inl (nI 1), []) ::
  (403, .iadd, 1, 0, 0, 0, .inl 0, []) ::
  (404, .dup2, 1, 0, 0, 0, .inl 0, []) ::
  (405, .iaload, 1, 0, 0, 0, .inl 0, []) ::
  (406, .iconst 1, 1, 0, 0, 0, .inl (nI 1), []) ::
  (407, .iadd, 1, 0, 0, 0, .inl 0, []) ::
  (408, .iastore, 1, 0, 0, 0, .inl 0, []) ::
  (409, .return_, 1, 0, 0, 0, .inl 0, []) :: []) ls st μ := by rw [s_X9_hour_400]
theorem v_X9_hour_400 : vc X P m_X9_hour h K k_X9_hour S (n + 1) 400 ls st μ = if 400 ∈ S then mAt X m_X9_hour h K 400 ls st μ else bb X P m_X9_hour h K (vc X P m_X9_hour h K k_X9_hour S n) s_X9_hour_400 ls st μ := by rw [vc_s, t_X9_hour_400]
end
section
variable {X : mC} {P : mP} {h : Nat} {K : MV → Mem → Prop} {J : mJ} {ls : List (Nat × MV)} {st : List MV} {μ : Mem} {S : List Nat} {n : Nat}
theorem w_X9_hour__0 : bb X P m_X9_hour_ h K J s_X9_hour__0 ls st μ = bb X P m_X9_hour_ h K J ((0, .aload_n 0, 1, 0, 0, 0, .inl 0, []) ::
  (1, .iconst 0, 1, 0, 0, 0, .inl (nI 0), []) ::
  (2, .putfield 76, 3, 8, 0, 0, .inl 0, [1196]) ::
  (5, .aload_n 0, 1, 0, 0, 0, .inl 0, []) ::
  (6, .invokevirtual 288, 3, 180, 1, 1, .inl 0, [1516, 8]) ::
  (9, .ifCond .eq 14, 3, 23, 0, 0, .inl 0, []) ::
  (12, .aload_n 0, 1, 0, 0, 0, .inl 0, []) ::
  (13, .getfield 13, 3, 8, 14, 3, .inr (.inr (16, 925, 2)), [1210]) ::
  (16, .sipush 622, 3, 0, 0, 0, .inl (nI 622), []) ::
  (19, .iaload, 1, 0, 0, 0, .inl 0, []) ::
  (20, .goto 4, 3, 24, 0, 0, .inl 0, []) :: s_X9_hour__23) ls st μ := by rw [s_X9_hour__0]
theorem v_X9_hour__0 : vc X P m_X9_hour_ h K k_X9_hour_ S (n + 1) 0 ls st μ = if 0 ∈ S then mAt X m_X9_hour_ h K 0 ls st μ else bb X P m_X9_hour_ h K (vc X P m_X9_hour_ h K k_X9_hour_ S n) s_X9_hour__0 ls st μ := by rw [vc_s, t_X9_hour__0]
theorem w_X9_hour__23 : bb X P m_X9_hour_ h K J s_X9_hour__23 ls st μ = bb X P m_X9_hour_ h K J ((23, .iconst (-1), 1, 0, 0, 0, .inl (-1), []) :: s_X9_hour__24) ls st μ := by rw [s_X9_hour__23]
theorem v_X9_hour__23 : vc X P m_X9_hour_ h K k_X9_hour_ S (n + 1) 23 ls st μ = if 23 ∈ S then mAt X m_X9_hour_ h K 23 ls st μ else bb X P m_X9_hour_ h K (vc X P m_X9_hour_ h K k_X9_hour_ S n) s_X9_hour__23 ls st μ := by rw [vc_s, t_X9_hour__23]
theorem w_X9_hour__24 : bb X P m_X9_hour_ h K J s_X9_hour__24 ls st μ = bb X P m_X9_hour_ h K J ((24, .ireturn, 1, 0, 0, 0, .inl 0, []) :: []) ls st μ := by rw [s_X9_hour__24]
theorem v_X9_hour__24 : vc X P m_X9_hour_ h K k_X9_hour_ S (n + 1) 24 ls st μ = if 24 ∈ S then mAt X m_X9_hour_ h K 24 ls st μ else bb X P m_X9_hour_ h K (vc X P m_X9_hour_ h K k_X9_hour_ S n) s_X9_hour__24 ls st μ := by rw [vc_s, t_X9_hour__24]
end
section
variable {X : mC} {P : mP} {h : Nat} {K : MV → Mem → Prop} {J : mJ} {ls : List (Nat × MV)} {st : List MV} {μ : Mem} {S : List Nat} {n : Nat}
theorem w_X9_image_0 : bb X P m_X9_image h K J s_X9_image_0 ls st μ = bb X P m_X9_image h K J ((0, .aload_n 0, 1, 0, 0, 0, .inl 0, []) ::
  (1, .iconst 0, 1, 0, 0, 0, .inl (nI 0), []) ::
  (2, .putfield 76, 3, 8, 0, 0, .inl 0, [1196]) ::
  (5, .iload_n 1, 1, 1, 0, 0, .inl 0, []) ::
  (6, .iconst 0, 1, 0, 0, 0, .inl (nI 0), []) ::
  (7, .iconst 1, 1, 0, 0, 0, .inl (nI 1), []) ::
  (8, .invokestatic 143, 3, 177, 3, 1, .inl 0, [1414]) ::
  (11, .ifCond .ne 5, 3, 16, 0, 0, .inl 0, []) ::
  (14, .iconst 0, 1, 0, 0, 0, .inl (nI 0), []) ::
  (15, .ireturn, 1, 1, 0, 0, .inl 0, []) :: s_X9_image_16) ls st μ := by rw [s_X9_image_0]
theorem v_X9_image_0 : vc X P m_X9_image h K k_X9_image S (n + 1) 0 ls st μ = if 0 ∈ S then mAt X m_X9_image h K 0 ls st μ else bb X P m_X9_image h K (vc X P m_X9_image h K k_X9_image S n) s_X9_image_0 ls st μ := by rw [vc_s, t_X9_image_0]
theorem w_X9_image_16 : bb X P m_X9_image h K J s_X9_image_16 ls st μ = bb X P m_X9_image h K J ((16, .iconst 0, 1, 0, 0, 0, .inl (nI 0), []) ::
  (17, .istore_n 2, 1, 2, 0, 0, .inl 0, []) :: s_X9_image_18) ls st μ := by rw [s_X9_image_16]
theorem v_X9_image_16 : vc X P m_X9_image h K k_X9_image S (n + 1) 16 ls st μ = if 16 ∈ S then mAt X m_X9_image h K 16 ls st μ else bb X P m_X9_image h K (vc X P m_X9_image h K k_X9_image S n) s_X9_image_16 ls st μ := by rw [vc_s, t_X9_image_16]
theorem w_X9_image_18 : bb X P m_X9_image h K J s_X9_image_18 ls st μ = bb X P m_X9_image h K J ((18, .iload_n 2, 1, 2, 0, 0, .inl 0, []) ::
  (19, .sipush 925, 3, 0, 0, 0, .inl (nI 925), []) ::
  (22, .if_icmp .ge 27, 3, 49, 0, 0, .inl 0, []) ::
  (25, .aload_n 0, 1, 0, 0, 0, .inl 0, []) ::
  (26, .getfield 22, 3, 8, 17, 3, .inr (.inr (16, 1850, 5)), [1213]) ::
  (29, .sipush 925, 3, 0, 0, 0, .inl (nI 925), []) ::
  (32, .iload_n 1, 1, 1, 0, 0, .inl 0, []) ::
  (33, .imul, 1, 0, 0, 0, .inl 0, []) ::
  (34, .iload_n 2, 1, 2, 0, 0, .inl 0, []) ::
  (35, .iadd, 1, 0, 0, 0, .inl 0, []) ::
  (36, .aload_n 0, 1, 0, 0, 0, .inl 0, []) ::
  (37, .getfield 13, 3, 8, 14, 3, .inr (.inr (16, 925, 2)), [1210]) ::
  (40, .iload_n 2, 1, 2, 0, 0, .inl 0, []) ::
  (41, .iaload, 1, 0, 0, 0, .inl 0, []) ::
  (42, .iastore, 1, 0, 0, 0, .inl 0, []) ::
  (43, .iinc 2 1, 3, 2, 0, 0, .inl (nI 1), []) ::
  (46, .goto (-28), 3, 18, 0, 0, .inl 0, []) :: s_X9_image_49) ls st μ := by rw [s_X9_image_18]
theorem v_X9_image_18 : vc X P m_X9_image h K k_X9_image S (n + 1) 18 ls st μ = if 18 ∈ S then mAt X m_X9_image h K 18 ls st μ else bb X P m_X9_image h K (vc X P m_X9_image h K k_X9_image S n) s_X9_image_18 ls st μ := by rw [vc_s, t_X9_image_18]
theorem w_X9_image_49 : bb X P m_X9_image h K J s_X9_image_49 ls st μ = bb X P m_X9_image h K J ((49, .iconst 0, 1, 0, 0, 0, .inl (nI 0), []) ::
  (50, .istore_n 2, 1, 2, 0, 0, .inl 0, []) :: s_X9_image_51) ls st μ := by rw [s_X9_image_49]
theorem v_X9_image_49 : vc X P m_X9_image h K k_X9_image S (n + 1) 49 ls st μ = if 49 ∈ S then mAt X m_X9_image h K 49 ls st μ else bb X P m_X9_image h K (vc X P m_X9_image h K k_X9_image S n) s_X9_image_49 ls st μ := by rw [vc_s, t_X9_image_49]
theorem w_X9_image_51 : bb X P m_X9_image h K J s_X9_image_51 ls st μ = bb X P m_X9_image h K J ((51, .iload_n 2, 1, 2, 0, 0, .inl 0, []) ::
  (52, .bipush 14, 2, 0, 0, 0, .inl (nI 14), []) ::
  (54, .if_icmp .ge 26, 3, 80, 0, 0, .inl 0, []) ::
  (57, .aload_n 0, 1, 0, 0, 0, .inl 0, []) ::
  (58, .getfield 32, 3, 8, 20, 3, .inr (.inr (17, 28, 8)), [1216]) ::
  (61, .bipush 14, 2, 0, 0, 0, .inl (nI 14), []) ::
  (63, .iload_n 1, 1, 1, 0, 0, .inl 0, []) ::
  (64, .imul, 1, 0, 0, 0, .inl 0, []) ::
  (65, .iload_n 2, 1, 2, 0, 0, .inl 0, []) ::
  (66, .iadd, 1, 0, 0, 0, .inl 0, []) ::
  (67, .aload_n 0, 1, 0, 0, 0, .inl 0, []) ::
  (68, .getfield 25, 3, 8, 18, 3, .inr (.inr (17, 14, 6)), [1214]) ::
  (71, .iload_n 2, 1, 2, 0, 0, .inl 0, []) ::
  (72, .laload, 1, 0, 0, 0, .inl 0, []) ::
  (73, .lastore, 1, 0, 0, 0, .inl 0, []) ::
  (74, .iinc 2 1, 3, 2, 0, 0, .inl (nI 1), []) ::
  (77, .goto (-26), 3, 51, 0, 0, .inl 0, []) :: s_X9_image_80) ls st μ := by rw [s_X9_image_51]
theorem v_X9_image_51 : vc X P m_X9_image h K k_X9_image S (n + 1) 51 ls st μ = if 51 ∈ S then mAt X m_X9_image h K 51 ls st μ else bb X P m_X9_image h K (vc X P m_X9_image h K k_X9_image S n) s_X9_image_51 ls st μ := by rw [vc_s, t_X9_image_51]
theorem w_X9_image_80 : bb X P m_X9_image h K J s_X9_image_80 ls st μ = bb X P m_X9_image h K J ((80, .aload_n 0, 1, 0, 0, 0, .inl 0, []) ::
  (81, .getfield 35, 3, 8, 21, 3, .inr (.inr (18, 2, 9)), [1217]) ::
  (84, .iload_n 1, 1, 1, 0, 0, .inl 0, []) ::
  (85, .iconst 1, 1, 0, 0, 0, .inl (nI 1), []) ::
  (86, .bastore, 1, 0, 0, 0, .inl 0, []) ::
  (87, .iconst 1, 1, 0, 0, 0, .inl (nI 1), []) ::
  (88, .ireturn, 1, 1, 0, 0, .inl 0, []) :: []) ls st μ := by rw [s_X9_image_80]
theorem v_X9_image_80 : vc X P m_X9_image h K k_X9_image S (n + 1) 80 ls st μ = if 80 ∈ S then mAt X m_X9_image h K 80 ls st μ else bb X P m_X9_image h K (vc X P m_X9_image h K k_X9_image S n) s_X9_image_80 ls st μ := by rw [vc_s, t_X9_image_80]
end
section
variable {X : mC} {P : mP} {h : Nat} {K : MV → Mem → Prop} {J : mJ} {ls : List (Nat × MV)} {st : List MV} {μ : Mem} {S : List Nat} {n : Nat}
theorem w_X9_isDigit_0 : bb X P m_X9_isDigit h K J s_X9_isDigit_0 ls st μ = bb X P m_X9_isDigit h K J ((0, .iload_n 0, 1, 0, 0, 0, .inl 0, []) ::
  (1, .bipush 48, 2, 0, 0, 0, .inl (nI 48), []) ::
  (3, .if_icmp .lt 13, 3, 16, 0, 0, .inl 0, []) ::
  (6, .iload_n 0, 1, 0, 0, 0, .inl 0, []) ::
  (7, .bipush 57, 2, 0, 0, 0, .inl (nI 57), []) ::
  (9, .if_icmp .gt 7, 3, 16, 0, 0, .inl 0, []) ::
  (12, .iconst 1, 1, 0, 0, 0, .inl (nI 1), []) ::
  (13, .goto 4, 3, 17, 0, 0, .inl 0, []) :: s_X9_isDigit_16) ls st μ := by rw [s_X9_isDigit_0]
theorem v_X9_isDigit_0 : vc X P m_X9_isDigit h K k_X9_isDigit S (n + 1) 0 ls st μ = if 0 ∈ S then mAt X m_X9_isDigit h K 0 ls st μ else bb X P m_X9_isDigit h K (vc X P m_X9_isDigit h K k_X9_isDigit S n) s_X9_isDigit_0 ls st μ := by rw [vc_s, t_X9_isDigit_0]
theorem w_X9_isDigit_16 : bb X P m_X9_isDigit h K J s_X9_isDigit_16 ls st μ = bb X P m_X9_isDigit h K J ((16, .iconst 0, 1, 0, 0, 0, .inl (nI 0), []) :: s_X9_isDigit_17) ls st μ := by rw [s_X9_isDigit_16]
theorem v_X9_isDigit_16 : vc X P m_X9_isDigit h K k_X9_isDigit S (n + 1) 16 ls st μ = if 16 ∈ S then mAt X m_X9_isDigit h K 16 ls st μ else bb X P m_X9_isDigit h K (vc X P m_X9_isDigit h K k_X9_isDigit S n) s_X9_isDigit_16 ls st μ := by rw [vc_s, t_X9_isDigit_16]
theorem w_X9_isDigit_17 : bb X P m_X9_isDigit h K J s_X9_isDigit_17 ls st μ = bb X P m_X9_isDigit h K J ((17, .ireturn, 1, 1, 0, 0, .inl 0, []) :: []) ls st μ := by rw [s_X9_isDigit_17]
theorem v_X9_isDigit_17 : vc X P m_X9_isDigit h K k_X9_isDigit S (n + 1) 17 ls st μ = if 17 ∈ S then mAt X m_X9_isDigit h K 17 ls st μ else bb X P m_X9_isDigit h K (vc X P m_X9_isDigit h K k_X9_isDigit S n) s_X9_isDigit_17 ls st μ := by rw [vc_s, t_X9_isDigit_17]
end
section
variable {X : mC} {P : mP} {h : Nat} {K : MV → Mem → Prop} {J : mJ} {ls : List (Nat × MV)} {st : List MV} {μ : Mem} {S : List Nat} {n : Nat}
theorem w_X9_isGood_0 : bb X P m_X9_isGood h K J s_X9_isGood_0 ls st μ = bb X P m_X9_isGood h K J ((0, .iload_n 1, 1, 1, 0, 0, .inl 0, []) ::
  (1, .ifCond .lt 15, 3, 16, 0, 0, .inl 0, []) ::
  (4, .iload_n 1, 1, 1, 0, 0, .inl 0, []) ::
  (5, .aload_n 0, 1, 0, 0, 0, .inl 0, []) ::
  (6, .invokevirtual 222, 3, 165, 1, 1, .inl 0, [1484, 8]) ::
  (9, .if_icmp .ge 7, 3, 16, 0, 0, .inl 0, []) ::
  (12, .iconst 1, 1, 0, 0, 0, .inl (nI 1), []) ::
  (13, .goto 4, 3, 17, 0, 0, .inl 0, []) :: s_X9_isGood_16) ls st μ := by rw [s_X9_isGood_0]
theorem v_X9_isGood_0 : vc X P m_X9_isGood h K k_X9_isGood S (n + 1) 0 ls st μ = if 0 ∈ S then mAt X m_X9_isGood h K 0 ls st μ else bb X P m_X9_isGood h K (vc X P m_X9_isGood h K k_X9_isGood S n) s_X9_isGood_0 ls st μ := by rw [vc_s, t_X9_isGood_0]
theorem w_X9_isGood_16 : bb X P m_X9_isGood h K J s_X9_isGood_16 ls st μ = bb X P m_X9_isGood h K J ((16, .iconst 0, 1, 0, 0, 0, .inl (nI 0), []) :: s_X9_isGood_17) ls st μ := by rw [s_X9_isGood_16]
theorem v_X9_isGood_16 : vc X P m_X9_isGood h K k_X9_isGood S (n + 1) 16 ls st μ = if 16 ∈ S then mAt X m_X9_isGood h K 16 ls st μ else bb X P m_X9_isGood h K (vc X P m_X9_isGood h K k_X9_isGood S n) s_X9_isGood_16 ls st μ := by rw [vc_s, t_X9_isGood_16]
theorem w_X9_isGood_17 : bb X P m_X9_isGood h K J s_X9_isGood_17 ls st μ = bb X P m_X9_isGood h K J ((17, .ireturn, 1, 1, 0, 0, .inl 0, []) :: []) ls st μ := by rw [s_X9_isGood_17]
theorem v_X9_isGood_17 : vc X P m_X9_isGood h K k_X9_isGood S (n + 1) 17 ls st μ = if 17 ∈ S then mAt X m_X9_isGood h K 17 ls st μ else bb X P m_X9_isGood h K (vc X P m_X9_isGood h K k_X9_isGood S n) s_X9_isGood_17 ls st μ := by rw [vc_s, t_X9_isGood_17]
end
section
variable {X : mC} {P : mP} {h : Nat} {K : MV → Mem → Prop} {J : mJ} {ls : List (Nat × MV)} {st : List MV} {μ : Mem} {S : List Nat} {n : Nat}
theorem w_X9_isHours_0 : bb X P m_X9_isHours h K J s_X9_isHours_0 ls st μ = bb X P m_X9_isHours h K J ((0, .iload_n 0, 1, 0, 0, 0, .inl 0, []) ::
  (1, .iconst 1, 1, 0, 0, 0, .inl (nI 1), []) ::
  (2, .sipush 200, 3, 0, 0, 0, .inl (nI 200), []) ::
  (5, .invokestatic 143, 3, 177, 3, 1, .inl 0, [1414]) ::
  (8, .ireturn, 1, 1, 0, 0, .inl 0, []) :: []) ls st μ := by rw [s_X9_isHours_0]
theorem v_X9_isHours_0 : vc X P m_X9_isHours h K k_X9_isHours S (n + 1) 0 ls st μ = if 0 ∈ S then mAt X m_X9_isHours h K 0 ls st μ else bb X P m_X9_isHours h K (vc X P m_X9_isHours h K k_X9_isHours S n) s_X9_isHours_0 ls st μ := by rw [vc_s, t_X9_isHours_0]
end
section
variable {X : mC} {P : mP} {h : Nat} {K : MV → Mem → Prop} {J : mJ} {ls : List (Nat × MV)} {st : List MV} {μ : Mem} {S : List Nat} {n : Nat}
theorem w_X9_isIn_0 : bb X P m_X9_isIn h K J s_X9_isIn_0 ls st μ = bb X P m_X9_isIn h K J ((0, .iload_n 0, 1, 0, 0, 0, .inl 0, []) ::
  (1, .iload_n 1, 1, 1, 0, 0, .inl 0, []) ::
  (2, .if_icmp .lt 12, 3, 14, 0, 0, .inl 0, []) ::
  (5, .iload_n 0, 1, 0, 0, 0, .inl 0, []) ::
  (6, .iload_n 2, 1, 2, 0, 0, .inl 0, []) ::
  (7, .if_icmp .gt 7, 3, 14, 0, 0, .inl 0, []) ::
  (10, .iconst 1, 1, 0, 0, 0, .inl (nI 1), []) ::
  (11, .goto 4, 3, 15, 0, 0, .inl 0, []) :: s_X9_isIn_14) ls st μ := by rw [s_X9_isIn_0]
theorem v_X9_isIn_0 : vc X P m_X9_isIn h K k_X9_isIn S (n + 1) 0 ls st μ = if 0 ∈ S then mAt X m_X9_isIn h K 0 ls st μ else bb X P m_X9_isIn h K (vc X P m_X9_isIn h K k_X9_isIn S n) s_X9_isIn_0 ls st μ := by rw [vc_s, t_X9_isIn_0]
theorem w_X9_isIn_14 : bb X P m_X9_isIn h K J s_X9_isIn_14 ls st μ = bb X P m_X9_isIn h K J ((14, .iconst 0, 1, 0, 0, 0, .inl (nI 0), []) :: s_X9_isIn_15) ls st μ := by rw [s_X9_isIn_14]
theorem v_X9_isIn_14 : vc X P m_X9_isIn h K k_X9_isIn S (n + 1) 14 ls st μ = if 14 ∈ S then mAt X m_X9_isIn h K 14 ls st μ else bb X P m_X9_isIn h K (vc X P m_X9_isIn h K k_X9_isIn S n) s_X9_isIn_14 ls st μ := by rw [vc_s, t_X9_isIn_14]
theorem w_X9_isIn_15 : bb X P m_X9_isIn h K J s_X9_isIn_15 ls st μ = bb X P m_X9_isIn h K J ((15, .ireturn, 1, 1, 0, 0, .inl 0, []) :: []) ls st μ := by rw [s_X9_isIn_15]
theorem v_X9_isIn_15 : vc X P m_X9_isIn h K k_X9_isIn S (n + 1) 15 ls st μ = if 15 ∈ S then mAt X m_X9_isIn h K 15 ls st μ else bb X P m_X9_isIn h K (vc X P m_X9_isIn h K k_X9_isIn S n) s_X9_isIn_15 ls st μ := by rw [vc_s, t_X9_isIn_15]
end
section
variable {X : mC} {P : mP} {h : Nat} {K : MV → Mem → Prop} {J : mJ} {ls : List (Nat × MV)} {st : List MV} {μ : Mem} {S : List Nat} {n : Nat}
theorem w_X9_isLetter_0 : bb X P m_X9_isLetter h K J s_X9_isLetter_0 ls st μ = bb X P m_X9_isLetter h K J ((0, .iload_n 0, 1, 0, 0, 0, .inl 0, []) ::
  (1, .bipush 97, 2, 0, 0, 0, .inl (nI 97), []) ::
  (3, .if_icmp .lt 13, 3, 16, 0, 0, .inl 0, []) ::
  (6, .iload_n 0, 1, 0, 0, 0, .inl 0, []) ::
  (7, .bipush 122, 2, 0, 0, 0, .inl (nI 122), []) ::
  (9, .if_icmp .gt 7, 3, 16, 0, 0, .inl 0, []) ::
  (12, .iconst 1, 1, 0, 0, 0, .inl (nI 1), []) ::
  (13, .goto 4, 3, 17, 0, 0, .inl 0, []) :: s_X9_isLetter_16) ls st μ := by rw [s_X9_isLetter_0]
theorem v_X9_isLetter_0 : vc X P m_X9_isLetter h K k_X9_isLetter S (n + 1) 0 ls st μ = if 0 ∈ S then mAt X m_X9_isLetter h K 0 ls st μ else bb X P m_X9_isLetter h K (vc X P m_X9_isLetter h K k_X9_isLetter S n) s_X9_isLetter_0 ls st μ := by rw [vc_s, t_X9_isLetter_0]
theorem w_X9_isLetter_16 : bb X P m_X9_isLetter h K J s_X9_isLetter_16 ls st μ = bb X P m_X9_isLetter h K J ((16, .iconst 0, 1, 0, 0, 0, .inl (nI 0), []) :: s_X9_isLetter_17) ls st μ := by rw [s_X9_isLetter_16]
theorem v_X9_isLetter_16 : vc X P m_X9_isLetter h K k_X9_isLetter S (n + 1) 16 ls st μ = if 16 ∈ S then mAt X m_X9_isLetter h K 16 ls st μ else bb X P m_X9_isLetter h K (vc X P m_X9_isLetter h K k_X9_isLetter S n) s_X9_isLetter_16 ls st μ := by rw [vc_s, t_X9_isLetter_16]
theorem w_X9_isLetter_17 : bb X P m_X9_isLetter h K J s_X9_isLetter_17 ls st μ = bb X P m_X9_isLetter h K J ((17, .ireturn, 1, 1, 0, 0, .inl 0, []) :: []) ls st μ := by rw [s_X9_isLetter_17]
theorem v_X9_isLetter_17 : vc X P m_X9_isLetter h K k_X9_isLetter S (n + 1) 17 ls st μ = if 17 ∈ S then mAt X m_X9_isLetter h K 17 ls st μ else bb X P m_X9_isLetter h K (vc X P m_X9_isLetter h K k_X9_isLetter S n) s_X9_isLetter_17 ls st μ := by rw [vc_s, t_X9_isLetter_17]
end
section
variable {X : mC} {P : mP} {h : Nat} {K : MV → Mem → Prop} {J : mJ} {ls : List (Nat × MV)} {st : List MV} {μ : Mem} {S : List Nat} {n : Nat}
theorem w_X9_isName_0 : bb X P m_X9_isName h K J s_X9_isName_0 ls st μ = bb X P m_X9_isName h K J ((0, .aload_n 0, 1, 0, 0, 0, .inl 0, []) ::
  (1, .getfield 98, 3, 8, 7, 0, .inl 0, [1203]) ::
  (4, .iconst 2, 1, 0, 0, 0, .inl (nI 2), []) ::
  (5, .if_icmp .eq 5, 3, 10, 0, 0, .inl 0, []) ::
  (8, .iconst 0, 1, 0, 0, 0, .inl (nI 0), []) ::
  (9, .ireturn, 1, 1, 0, 0, .inl 0, []) :: s_X9_isName_10) ls st μ := by rw [s_X9_isName_0]
theorem v_X9_isName_0 : vc X P m_X9_isName h K k_X9_isName S (n + 1) 0 ls st μ = if 0 ∈ S then mAt X m_X9_isName h K 0 ls st μ else bb X P m_X9_isName h K (vc X P m_X9_isName h K k_X9_isName S n) s_X9_isName_0 ls st μ := by rw [vc_s, t_X9_isName_0]
theorem w_X9_isName_10 : bb X P m_X9_isName h K J s_X9_isName_10 ls st μ = bb X P m_X9_isName h K J ((10, .iconst 0, 1, 0, 0, 0, .inl (nI 0), []) ::
  (11, .istore_n 1, 1, 1, 0, 0, .inl 0, []) :: s_X9_isName_12) ls st μ := by rw [s_X9_isName_10]
theorem v_X9_isName_10 : vc X P m_X9_isName h K k_X9_isName S (n + 1) 10 ls st μ = if 10 ∈ S then mAt X m_X9_isName h K 10 ls st μ else bb X P m_X9_isName h K (vc X P m_X9_isName h K k_X9_isName S n) s_X9_isName_10 ls st μ := by rw [vc_s, t_X9_isName_10]
theorem w_X9_isName_12 : bb X P m_X9_isName h K J s_X9_isName_12 ls st μ = bb X P m_X9_isName h K J ((12, .iload_n 1, 1, 1, 0, 0, .inl 0, []) ::
  (13, .bipush 18, 2, 0, 0, 0, .inl (nI 18), []) ::
  (15, .if_icmp .gt 23, 3, 38, 0, 0, .inl 0, []) ::
  (18, .aload_n 0, 1, 0, 0, 0, .inl 0, []) ::
  (19, .getfield 111, 3, 8, 12, 1, .inl 0, [1208]) ::
  (22, .iload_n 1, 1, 1, 0, 0, .inl 0, []) ::
  (23, .invokestatic 130, 3, 251, 1, 2, .inl 0, [1385]) ::
  (26, .lcmp, 1, 0, 0, 0, .inl 0, []) ::
  (27, .ifCond .ne 5, 3, 32, 0, 0, .inl 0, []) ::
  (30, .iconst 0, 1, 0, 0, 0, .inl (nI 0), []) ::
  (31, .ireturn, 1, 1, 0, 0, .inl 0, []) :: s_X9_isName_32) ls st μ := by rw [s_X9_isName_12]
theorem v_X9_isName_12 : vc X P m_X9_isName h K k_X9_isName S (n + 1) 12 ls st μ = if 12 ∈ S then mAt X m_X9_isName h K 12 ls st μ else bb X P m_X9_isName h K (vc X P m_X9_isName h K k_X9_isName S n) s_X9_isName_12 ls st μ := by rw [vc_s, t_X9_isName_12]
theorem w_X9_isName_32 : bb X P m_X9_isName h K J s_X9_isName_32 ls st μ = bb X P m_X9_isName h K J ((32, .iinc 1 1, 3, 1, 0, 0, .inl (nI 1), []) ::
  (35, .goto (-23), 3, 12, 0, 0, .inl 0, []) :: s_X9_isName_38) ls st μ := by rw [s_X9_isName_32]
theorem v_X9_isName_32 : vc X P m_X9_isName h K k_X9_isName S (n + 1) 32 ls st μ = if 32 ∈ S then mAt X m_X9_isName h K 32 ls st μ else bb X P m_X9_isName h K (vc X P m_X9_isName h K k_X9_isName S n) s_X9_isName_32 ls st μ := by rw [vc_s, t_X9_isName_32]
theorem w_X9_isName_38 : bb X P m_X9_isName h K J s_X9_isName_38 ls st μ = bb X P m_X9_isName h K J ((38, .iconst 1, 1, 0, 0, 0, .inl (nI 1), []) ::
  (39, .ireturn, 1, 1, 0, 0, .inl 0, []) :: []) ls st μ := by rw [s_X9_isName_38]
theorem v_X9_isName_38 : vc X P m_X9_isName h K k_X9_isName S (n + 1) 38 ls st μ = if 38 ∈ S then mAt X m_X9_isName h K 38 ls st μ else bb X P m_X9_isName h K (vc X P m_X9_isName h K k_X9_isName S n) s_X9_isName_38 ls st μ := by rw [vc_s, t_X9_isName_38]
end
section
variable {X : mC} {P : mP} {h : Nat} {K : MV → Mem → Prop} {J : mJ} {ls : List (Nat × MV)} {st : List MV} {μ : Mem} {S : List Nat} {n : Nat}
theorem w_X9_isRun_0 : bb X P m_X9_isRun h K J s_X9_isRun_0 ls st μ = bb X P m_X9_isRun h K J ((0, .aload_n 0, 1, 0, 0, 0, .inl 0, []) ::
  (1, .getfield 13, 3, 8, 14, 3, .inr (.inr (16, 925, 2)), [1210]) ::
  (4, .sipush 621, 3, 0, 0, 0, .inl (nI 621), []) ::
  (7, .iaload, 1, 0, 0, 0, .inl 0, []) ::
  (8, .ifCond .le 7, 3, 15, 0, 0, .inl 0, []) ::
  (11, .iconst 1, 1, 0, 0, 0, .inl (nI 1), []) ::
  (12, .goto 4, 3, 16, 0, 0, .inl 0, []) :: s_X9_isRun_15) ls st μ := by rw [s_X9_isRun_0]
theorem v_X9_isRun_0 : vc X P m_X9_isRun h K k_X9_isRun S (n + 1) 0 ls st μ = if 0 ∈ S then mAt X m_X9_isRun h K 0 ls st μ else bb X P m_X9_isRun h K (vc X P m_X9_isRun h K k_X9_isRun S n) s_X9_isRun_0 ls st μ := by rw [vc_s, t_X9_isRun_0]
theorem w_X9_isRun_15 : bb X P m_X9_isRun h K J s_X9_isRun_15 ls st μ = bb X P m_X9_isRun h K J ((15, .iconst 0, 1, 0, 0, 0, .inl (nI 0), []) :: s_X9_isRun_16) ls st μ := by rw [s_X9_isRun_15]
theorem v_X9_isRun_15 : vc X P m_X9_isRun h K k_X9_isRun S (n + 1) 15 ls st μ = if 15 ∈ S then mAt X m_X9_isRun h K 15 ls st μ else bb X P m_X9_isRun h K (vc X P m_X9_isRun h K k_X9_isRun S n) s_X9_isRun_15 ls st μ := by rw [vc_s, t_X9_isRun_15]
theorem w_X9_isRun_16 : bb X P m_X9_isRun h K J s_X9_isRun_16 ls st μ = bb X P m_X9_isRun h K J ((16, .ireturn, 1, 1, 0, 0, .inl 0, []) :: []) ls st μ := by rw [s_X9_isRun_16]
theorem v_X9_isRun_16 : vc X P m_X9_isRun h K k_X9_isRun S (n + 1) 16 ls st μ = if 16 ∈ S then mAt X m_X9_isRun h K 16 ls st μ else bb X P m_X9_isRun h K (vc X P m_X9_isRun h K k_X9_isRun S n) s_X9_isRun_16 ls st μ := by rw [vc_s, t_X9_isRun_16]
end
section
variable {X : mC} {P : mP} {h : Nat} {K : MV → Mem → Prop} {J : mJ} {ls : List (Nat × MV)} {st : List MV} {μ : Mem} {S : List Nat} {n : Nat}
theorem w_X9_isSet_0 : bb X P m_X9_isSet h K J s_X9_isSet_0 ls st μ = bb X P m_X9_isSet h K J ((0, .iload_n 1, 1, 1, 0, 0, .inl 0, []) ::
  (1, .ifCond .lt 17, 3, 18, 0, 0, .inl 0, []) ::
  (4, .iload_n 1, 1, 1, 0, 0, .inl 0, []) ::
  (5, .iconst 1, 1, 0, 0, 0, .inl (nI 1), []) ::
  (6, .aload_n 0, 1, 0, 0, 0, .inl 0, []) ::
  (7, .invokevirtual 219, 3, 253, 1, 1, .inl 0, [1472, 8]) ::
  (10, .ishl, 1, 0, 0, 0, .inl 0, []) ::
  (11, .if_icmp .ge 7, 3, 18, 0, 0, .inl 0, []) ::
  (14, .iconst 1, 1, 0, 0, 0, .inl (nI 1), []) ::
  (15, .goto 4, 3, 19, 0, 0, .inl 0, []) :: s_X9_isSet_18) ls st μ := by rw [s_X9_isSet_0]
theorem v_X9_isSet_0 : vc X P m_X9_isSet h K k_X9_isSet S (n + 1) 0 ls st μ = if 0 ∈ S then mAt X m_X9_isSet h K 0 ls st μ else bb X P m_X9_isSet h K (vc X P m_X9_isSet h K k_X9_isSet S n) s_X9_isSet_0 ls st μ := by rw [vc_s, t_X9_isSet_0]
theorem w_X9_isSet_18 : bb X P m_X9_isSet h K J s_X9_isSet_18 ls st μ = bb X P m_X9_isSet h K J ((18, .iconst 0, 1, 0, 0, 0, .inl (nI 0), []) :: s_X9_isSet_19) ls st μ := by rw [s_X9_isSet_18]
theorem v_X9_isSet_18 : vc X P m_X9_isSet h K k_X9_isSet S (n + 1) 18 ls st μ = if 18 ∈ S then mAt X m_X9_isSet h K 18 ls st μ else bb X P m_X9_isSet h K (vc X P m_X9_isSet h K k_X9_isSet S n) s_X9_isSet_18 ls st μ := by rw [vc_s, t_X9_isSet_18]
theorem w_X9_isSet_19 : bb X P m_X9_isSet h K J s_X9_isSet_19 ls st μ = bb X P m_X9_isSet h K J ((19, .ireturn, 1, 1, 0, 0, .inl 0, []) :: []) ls st μ := by rw [s_X9_isSet_19]
theorem v_X9_isSet_19 : vc X P m_X9_isSet h K k_X9_isSet S (n + 1) 19 ls st μ = if 19 ∈ S then mAt X m_X9_isSet h K 19 ls st μ else bb X P m_X9_isSet h K (vc X P m_X9_isSet h K k_X9_isSet S n) s_X9_isSet_19 ls st μ := by rw [vc_s, t_X9_isSet_19]
end
section
variable {X : mC} {P : mP} {h : Nat} {K : MV → Mem → Prop} {J : mJ} {ls : List (Nat × MV)} {st : List MV} {μ : Mem} {S : List Nat} {n : Nat}
theorem w_X9_isSign_0 : bb X P m_X9_isSign h K J s_X9_isSign_0 ls st μ = bb X P m_X9_isSign h K J ((0, .aload_n 0, 1, 0, 0, 0, .inl 0, []) ::
  (1, .getfield 98, 3, 8, 7, 0, .inl 0, [1203]) ::
  (4, .iconst 4, 1, 0, 0, 0, .inl (nI 4), []) ::
  (5, .if_icmp .ne 15, 3, 20, 0, 0, .inl 0, []) ::
  (8, .aload_n 0, 1, 0, 0, 0, .inl 0, []) ::
  (9, .getfield 108, 3, 8, 9, 0, .inl 0, [1205]) ::
  (12, .iload_n 1, 1, 1, 0, 0, .inl 0, []) ::
  (13, .if_icmp .ne 7, 3, 20, 0, 0, .inl 0, []) ::
  (16, .iconst 1, 1, 0, 0, 0, .inl (nI 1), []) ::
  (17, .goto 4, 3, 21, 0, 0, .inl 0, []) :: s_X9_isSign_20) ls st μ := by rw [s_X9_isSign_0]
theorem v_X9_isSign_0 : vc X P m_X9_isSign h K k_X9_isSign S (n + 1) 0 ls st μ = if 0 ∈ S then mAt X m_X9_isSign h K 0 ls st μ else bb X P m_X9_isSign h K (vc X P m_X9_isSign h K k_X9_isSign S n) s_X9_isSign_0 ls st μ := by rw [vc_s, t_X9_isSign_0]
theorem w_X9_isSign_20 : bb X P m_X9_isSign h K J s_X9_isSign_20 ls st μ = bb X P m_X9_isSign h K J ((20, .iconst 0, 1, 0, 0, 0, .inl (nI 0), []) :: s_X9_isSign_21) ls st μ := by rw [s_X9_isSign_20]
theorem v_X9_isSign_20 : vc X P m_X9_isSign h K k_X9_isSign S (n + 1) 20 ls st μ = if 20 ∈ S then mAt X m_X9_isSign h K 20 ls st μ else bb X P m_X9_isSign h K (vc X P m_X9_isSign h K k_X9_isSign S n) s_X9_isSign_20 ls st μ := by rw [vc_s, t_X9_isSign_20]
theorem w_X9_isSign_21 : bb X P m_X9_isSign h K J s_X9_isSign_21 ls st μ = bb X P m_X9_isSign h K J ((21, .ireturn, 1, 1, 0, 0, .inl 0, []) :: []) ls st μ := by rw [s_X9_isSign_21]
theorem v_X9_isSign_21 : vc X P m_X9_isSign h K k_X9_isSign S (n + 1) 21 ls st μ = if 21 ∈ S then mAt X m_X9_isSign h K 21 ls st μ else bb X P m_X9_isSign h K (vc X P m_X9_isSign h K k_X9_isSign S n) s_X9_isSign_21 ls st μ := by rw [vc_s, t_X9_isSign_21]
end
section
variable {X : mC} {P : mP} {h : Nat} {K : MV → Mem → Prop} {J : mJ} {ls : List (Nat × MV)} {st : List MV} {μ : Mem} {S : List Nat} {n : Nat}
theorem w_X9_isSteady_0 : bb X P m_X9_isSteady h K J s_X9_isSteady_0 ls st μ = bb X P m_X9_isSteady h K J ((0, .iconst 0, 1, 0, 0, 0, .inl (nI 0), []) ::
  (1, .istore 5, 2, 5, 0, 0, .inl 0, []) :: s_X9_isSteady_3) ls st μ := by rw [s_X9_isSteady_0]
theorem v_X9_isSteady_0 : vc X P m_X9_isSteady h K k_X9_isSteady S (n + 1) 0 ls st μ = if 0 ∈ S then mAt X m_X9_isSteady h K 0 ls st μ else bb X P m_X9_isSteady h K (vc X P m_X9_isSteady h K k_X9_isSteady S n) s_X9_isSteady_0 ls st μ := by rw [vc_s, t_X9_isSteady_0]
theorem w_X9_isSteady_3 : bb X P m_X9_isSteady h K J s_X9_isSteady_3 ls st μ = bb X P m_X9_isSteady h K J ((3, .iload 5, 2, 5, 0, 0, .inl 0, []) ::
  (5, .aload_n 0, 1, 0, 0, 0, .inl 0, []) ::
  (6, .invokevirtual 222, 3, 165, 1, 1, .inl 0, [1484, 8]) ::
  (9, .if_icmp .ge 152, 3, 161, 0, 0, .inl 0, []) ::
  (12, .iconst 0, 1, 0, 0, 0, .inl (nI 0), []) ::
  (13, .istore 6, 2, 6, 0, 0, .inl 0, []) ::
  (15, .iconst 0, 1, 0, 0, 0, .inl (nI 0), []) ::
  (16, .istore 7, 2, 7, 0, 0, .inl 0, []) :: s_X9_isSteady_18) ls st μ := by rw [s_X9_isSteady_3]
theorem v_X9_isSteady_3 : vc X P m_X9_isSteady h K k_X9_isSteady S (n + 1) 3 ls st μ = if 3 ∈ S then mAt X m_X9_isSteady h K 3 ls st μ else bb X P m_X9_isSteady h K (vc X P m_X9_isSteady h K k_X9_isSteady S n) s_X9_isSteady_3 ls st μ := by rw [vc_s, t_X9_isSteady_3]
theorem w_X9_isSteady_18 : bb X P m_X9_isSteady h K J s_X9_isSteady_18 ls st μ = bb X P m_X9_isSteady h K J ((18, .iload 7, 2, 7, 0, 0, .inl 0, []) ::
  (20, .aload_n 0, 1, 0, 0, 0, .inl 0, []) ::
  (21, .invokevirtual 219, 3, 253, 1, 1, .inl 0, [1472, 8]) ::
  (24, .if_icmp .ge 131, 3, 155, 0, 0, .inl 0, []) ::
  (27, .iload 7, 2, 7, 0, 0, .inl 0, []) ::
  (29, .iload 5, 2, 5, 0, 0, .inl 0, []) ::
  (31, .invokestatic 182, 3, 148, 2, 1, .inl 0, [1437]) ::
  (34, .istore 8, 2, 8, 0, 0, .inl 0, []) ::
  (36, .iload 6, 2, 6, 0, 0, .inl 0, []) ::
  (38, .aload_n 0, 1, 0, 0, 0, .inl 0, []) ::
  (39, .getfield 13, 3, 8, 14, 3, .inr (.inr (16, 925, 2)), [1210]) ::
  (42, .sipush 230, 3, 0, 0, 0, .inl (nI 230), []) ::
  (45, .iload 8, 2, 8, 0, 0, .inl 0, []) ::
  (47, .iadd, 1, 0, 0, 0, .inl 0, []) ::
  (48, .iaload, 1, 0, 0, 0, .inl 0, []) ::
  (49, .iadd, 1, 0, 0, 0, .inl 0, []) ::
  (50, .istore 6, 2, 6, 0, 0, .inl 0, []) ::
  (52, .iload 7, 2, 7, 0, 0, .inl 0, []) ::
  (54, .iload_n 2, 1, 2, 0, 0, .inl 0, []) ::
  (55, .if_icmp .ne 16, 3, 71, 0, 0, .inl 0, []) ::
  (58, .iload 5, 2, 5, 0, 0, .inl 0, []) ::
  (60, .iload_n 3, 1, 3, 0, 0, .inl 0, []) ::
  (61, .if_icmp .ne 10, 3, 71, 0, 0, .inl 0, []) ::
  (64, .iload 6, 2, 6, 0, 0, .inl 0, []) ::
  (66, .iload 4, 2, 4, 0, 0, .inl 0, []) ::
  (68, .iadd, 1, 0, 0, 0, .inl 0, []) ::
  (69, .istore 6, 2, 6, 0, 0, .inl 0, []) :: s_X9_isSteady_71) ls st μ := by rw [s_X9_isSteady_18]
theorem v_X9_isSteady_18 : vc X P m_X9_isSteady h K k_X9_isSteady S (n + 1) 18 ls st μ = if 18 ∈ S then mAt X m_X9_isSteady h K 18 ls st μ else bb X P m_X9_isSteady h K (vc X P m_X9_isSteady h K k_X9_isSteady S n) s_X9_isSteady_18 ls st μ := by rw [vc_s, t_X9_isSteady_18]
theorem w_X9_isSteady_71 : bb X P m_X9_isSteady h K J s_X9_isSteady_71 ls st μ = bb X P m_X9_isSteady h K J ((71, .iload_n 1, 1, 1, 0, 0, .inl 0, []) ::
  (72, .iload 7, 2, 7, 0, 0, .inl 0, []) ::
  (74, .invokestatic 250, 3, 169, 2, 1, .inl 0, [1543]) ::
  (77, .ifCond .eq 41, 3, 118, 0, 0, .inl 0, []) ::
  (80, .iload 6, 2, 6, 0, 0, .inl 0, []) ::
  (82, .aload_n 0, 1, 0, 0, 0, .inl 0, []) ::
  (83, .getfield 13, 3, 8, 14, 3, .inr (.inr (16, 925, 2)), [1210]) ::
  (86, .bipush 38, 2, 0, 0, 0, .inl (nI 38), []) ::
  (88, .iload 8, 2, 8, 0, 0, .inl 0, []) ::
  (90, .iadd, 1, 0, 0, 0, .inl 0, []) ::
  (91, .iaload, 1, 0, 0, 0, .inl 0, []) ::
  (92, .isub, 1, 0, 0, 0, .inl 0, []) ::
  (93, .istore 6, 2, 6, 0, 0, .inl 0, []) ::
  (95, .iload 6, 2, 6, 0, 0, .inl 0, []) ::
  (97, .ifCond .ge 5, 3, 102, 0, 0, .inl 0, []) ::
  (100, .iconst 0, 1, 0, 0, 0, .inl (nI 0), []) ::
  (101, .ireturn, 1, 1, 0, 0, .inl 0, []) :: s_X9_isSteady_102) ls st μ := by rw [s_X9_isSteady_71]
theorem v_X9_isSteady_71 : vc X P m_X9_isSteady h K k_X9_isSteady S (n + 1) 71 ls st μ = if 71 ∈ S then mAt X m_X9_isSteady h K 71 ls st μ else bb X P m_X9_isSteady h K (vc X P m_X9_isSteady h K k_X9_isSteady S n) s_X9_isSteady_71 ls st μ := by rw [vc_s, t_X9_isSteady_71]
theorem w_X9_isSteady_102 : bb X P m_X9_isSteady h K J s_X9_isSteady_102 ls st μ = bb X P m_X9_isSteady h K J ((102, .iload 6, 2, 6, 0, 0, .inl 0, []) ::
  (104, .aload_n 0, 1, 0, 0, 0, .inl 0, []) ::
  (105, .getfield 13, 3, 8, 14, 3, .inr (.inr (16, 925, 2)), [1210]) ::
  (108, .sipush 182, 3, 0, 0, 0, .inl (nI 182), []) ::
  (111, .iload 8, 2, 8, 0, 0, .inl 0, []) ::
  (113, .iadd, 1, 0, 0, 0, .inl 0, []) ::
  (114, .iaload, 1, 0, 0, 0, .inl 0, []) ::
  (115, .iadd, 1, 0, 0, 0, .inl 0, []) ::
  (116, .istore 6, 2, 6, 0, 0, .inl 0, []) :: s_X9_isSteady_118) ls st μ := by rw [s_X9_isSteady_102]
theorem v_X9_isSteady_102 : vc X P m_X9_isSteady h K k_X9_isSteady S (n + 1) 102 ls st μ = if 102 ∈ S then mAt X m_X9_isSteady h K 102 ls st μ else bb X P m_X9_isSteady h K (vc X P m_X9_isSteady h K k_X9_isSteady S n) s_X9_isSteady_102 ls st μ := by rw [vc_s, t_X9_isSteady_102]
theorem w_X9_isSteady_118 : bb X P m_X9_isSteady h K J s_X9_isSteady_118 ls st μ = bb X P m_X9_isSteady h K J ((118, .iload 7, 2, 7, 0, 0, .inl 0, []) ::
  (120, .aload_n 0, 1, 0, 0, 0, .inl 0, []) ::
  (121, .invokevirtual 219, 3, 253, 1, 1, .inl 0, [1472, 8]) ::
  (124, .iconst 1, 1, 0, 0, 0, .inl (nI 1), []) ::
  (125, .isub, 1, 0, 0, 0, .inl 0, []) ::
  (126, .if_icmp .ge 23, 3, 149, 0, 0, .inl 0, []) ::
  (129, .iload 6, 2, 6, 0, 0, .inl 0, []) ::
  (131, .iload 6, 2, 6, 0, 0, .inl 0, []) ::
  (133, .aload_n 0, 1, 0, 0, 0, .inl 0, []) ::
  (134, .getfield 13, 3, 8, 14, 3, .inr (.inr (16, 925, 2)), [1210]) ::
  (137, .bipush 8, 2, 0, 0, 0, .inl (nI 8), []) ::
  (139, .iload 5, 2, 5, 0, 0, .inl 0, []) ::
  (141, .iadd, 1, 0, 0, 0, .inl 0, []) ::
  (142, .iaload, 1, 0, 0, 0, .inl 0, []) ::
  (143, .invokestatic 247, 3, 199, 2, 1, .inl 0, [1528]) ::
  (146, .isub, 1, 0, 0, 0, .inl 0, []) ::
  (147, .istore 6, 2, 6, 0, 0, .inl 0, []) :: s_X9_isSteady_149) ls st μ := by rw [s_X9_isSteady_118]
theorem v_X9_isSteady_118 : vc X P m_X9_isSteady h K k_X9_isSteady S (n + 1) 118 ls st μ = if 118 ∈ S then mAt X m_X9_isSteady h K 118 ls st μ else bb X P m_X9_isSteady h K (vc X P m_X9_isSteady h K k_X9_isSteady S n) s_X9_isSteady_118 ls st μ := by rw [vc_s, t_X9_isSteady_118]
theorem w_X9_isSteady_149 : bb X P m_X9_isSteady h K J s_X9_isSteady_149 ls st μ = bb X P m_X9_isSteady h K J ((149, .iinc 7 1, 3, 7, 0, 0, .inl (nI 1), []) ::
  (152, .goto (-134), 3, 18, 0, 0, .inl 0, []) :: s_X9_isSteady_155) ls st μ := by rw [s_X9_isSteady_149]
theorem v_X9_isSteady_149 : vc X P m_X9_isSteady h K k_X9_isSteady S (n + 1) 149 ls st μ = if 149 ∈ S then mAt X m_X9_isSteady h K 149 ls st μ else bb X P m_X9_isSteady h K (vc X P m_X9_isSteady h K k_X9_isSteady S n) s_X9_isSteady_149 ls st μ := by rw [vc_s, t_X9_isSteady_149]
theorem w_X9_isSteady_155 : bb X P m_X9_isSteady h K J s_X9_isSteady_155 ls st μ = bb X P m_X9_isSteady h K J ((155, .iinc 5 1, 3, 5, 0, 0, .inl (nI 1), []) ::
  (158, .goto (-155), 3, 3, 0, 0, .inl 0, []) :: s_X9_isSteady_161) ls st μ := by rw [s_X9_isSteady_155]
theorem v_X9_isSteady_155 : vc X P m_X9_isSteady h K k_X9_isSteady S (n + 1) 155 ls st μ = if 155 ∈ S then mAt X m_X9_isSteady h K 155 ls st μ else bb X P m_X9_isSteady h K (vc X P m_X9_isSteady h K k_X9_isSteady S n) s_X9_isSteady_155 ls st μ := by rw [vc_s, t_X9_isSteady_155]
theorem w_X9_isSteady_161 : bb X P m_X9_isSteady h K J s_X9_isSteady_161 ls st μ = bb X P m_X9_isSteady h K J ((161, .iconst 1, 1, 0, 0, 0, .inl (nI 1), []) ::
  (162, .ireturn, 1, 1, 0, 0, .inl 0, []) :: []) ls st μ := by rw [s_X9_isSteady_161]
theorem v_X9_isSteady_161 : vc X P m_X9_isSteady h K k_X9_isSteady S (n + 1) 161 ls st μ = if 161 ∈ S then mAt X m_X9_isSteady h K 161 ls st μ else bb X P m_X9_isSteady h K (vc X P m_X9_isSteady h K k_X9_isSteady S n) s_X9_isSteady_161 ls st μ := by rw [vc_s, t_X9_isSteady_161]
end
section
variable {X : mC} {P : mP} {h : Nat} {K : MV → Mem → Prop} {J : mJ} {ls : List (Nat × MV)} {st : List MV} {μ : Mem} {S : List Nat} {n : Nat}
theorem w_X9_isSteady__0 : bb X P m_X9_isSteady_ h K J s_X9_isSteady__0 ls st μ = bb X P m_X9_isSteady_ h K J ((0, .aload_n 0, 1, 0, 0, 0, .inl 0, []) ::
  (1, .iload_n 1, 1, 1, 0, 0, .inl 0, []) ::
  (2, .iconst (-1), 1, 0, 0, 0, .inl (-1), []) ::
  (3, .iconst (-1), 1, 0, 0, 0, .inl (-1), []) ::
  (4, .iconst 0, 1, 0, 0, 0, .inl (nI 0), []) ::
  (5, .invokevirtual 327, 3, 183, 5, 1, .inl 0, [1663, 8]) ::
  (8, .ireturn, 1, 1, 0, 0, .inl 0, []) :: []) ls st μ := by rw [s_X9_isSteady__0]
theorem v_X9_isSteady__0 : vc X P m_X9_isSteady_ h K k_X9_isSteady_ S (n + 1) 0 ls st μ = if 0 ∈ S then mAt X m_X9_isSteady_ h K 0 ls st μ else bb X P m_X9_isSteady_ h K (vc X P m_X9_isSteady_ h K k_X9_isSteady_ S n) s_X9_isSteady__0 ls st μ := by rw [vc_s, t_X9_isSteady__0]
end
section
variable {X : mC} {P : mP} {h : Nat} {K : MV → Mem → Prop} {J : mJ} {ls : List (Nat × MV)} {st : List MV} {μ : Mem} {S : List Nat} {n : Nat}
theorem w_X9_isStopped_0 : bb X P m_X9_isStopped h K J s_X9_isStopped_0 ls st μ = bb X P m_X9_isStopped h K J ((0, .iconst 0, 1, 0, 0, 0, .inl (nI 0), []) ::
  (1, .istore_n 3, 1, 3, 0, 0, .inl 0, []) :: s_X9_isStopped_2) ls st μ := by rw [s_X9_isStopped_0]
theorem v_X9_isStopped_0 : vc X P m_X9_isStopped h K k_X9_isStopped S (n + 1) 0 ls st μ = if 0 ∈ S then mAt X m_X9_isStopped h K 0 ls st μ else bb X P m_X9_isStopped h K (vc X P m_X9_isStopped h K k_X9_isStopped S n) s_X9_isStopped_0 ls st μ := by rw [vc_s, t_X9_isStopped_0]
theorem w_X9_isStopped_2 : bb X P m_X9_isStopped h K J s_X9_isStopped_2 ls st μ = bb X P m_X9_isStopped h K J ((2, .iload_n 3, 1, 3, 0, 0, .inl 0, []) ::
  (3, .aload_n 0, 1, 0, 0, 0, .inl 0, []) ::
  (4, .getfield 13, 3, 8, 14, 3, .inr (.inr (16, 925, 2)), [1210]) ::
  (7, .sipush 278, 3, 0, 0, 0, .inl (nI 278), []) ::
  (10, .iaload, 1, 0, 0, 0, .inl 0, []) ::
  (11, .if_icmp .ge 75, 3, 86, 0, 0, .inl 0, []) ::
  (14, .aload_n 0, 1, 0, 0, 0, .inl 0, []) ::
  (15, .getfield 243, 3, 8, 29, 2, .inl 0, [1225]) ::
  (18, .ifCond .eq 68, 3, 86, 0, 0, .inl 0, []) ::
  (21, .sipush 279, 3, 0, 0, 0, .inl (nI 279), []) ::
  (24, .iconst 5, 1, 0, 0, 0, .inl (nI 5), []) ::
  (25, .iload_n 3, 1, 3, 0, 0, .inl 0, []) ::
  (26, .imul, 1, 0, 0, 0, .inl 0, []) ::
  (27, .iadd, 1, 0, 0, 0, .inl 0, []) ::
  (28, .istore 4, 2, 4, 0, 0, .inl 0, []) ::
  (30, .aload_n 0, 1, 0, 0, 0, .inl 0, []) ::
  (31, .getfield 13, 3, 8, 14, 3, .inr (.inr (16, 925, 2)), [1210]) ::
  (34, .iload 4, 2, 4, 0, 0, .inl 0, []) ::
  (36, .iaload, 1, 0, 0, 0, .inl 0, []) ::
  (37, .ifCond .ne 43, 3, 80, 0, 0, .inl 0, []) ::
  (40, .aload_n 0, 1, 0, 0, 0, .inl 0, []) ::
  (41, .getfield 13, 3, 8, 14, 3, .inr (.inr (16, 925, 2)), [1210]) ::
  (44, .iload 4, 2, 4, 0, 0, .inl 0, []) ::
  (46, .iconst 1, 1, 0, 0, 0, .inl (nI 1), []) ::
  (47, .iadd, 1, 0, 0, 0, .inl 0, []) ::
  (48, .iaload, 1, 0, 0, 0, .inl 0, []) ::
  (49, .iload_n 1, 1, 1, 0, 0, .inl 0, []) ::
  (50, .if_icmp .ne 30, 3, 80, 0, 0, .inl 0, []) ::
  (53, .iload_n 2, 1, 2, 0, 0, .inl 0, []) ::
  (54, .aload_n 0, 1, 0, 0, 0, .inl 0, []) ::
  (55, .getfield 13, 3, 8, 14, 3, .inr (.inr (16, 925, 2)), [1210]) ::
  (58, .iload 4, 2, 4, 0, 0, .inl 0, []) ::
  (60, .iconst 2, 1, 0, 0, 0, .inl (nI 2), []) ::
  (61, .iadd, 1, 0, 0, 0, .inl 0, []) ::
  (62, .iaload, 1, 0, 0, 0, .inl 0, []) ::
  (63, .aload_n 0, 1, 0, 0, 0, .inl 0, []) ::
  (64, .getfield 13, 3, 8, 14, 3, .inr (.inr (16, 925, 2)), [1210]) ::
  (67, .iload 4, 2, 4, 0, 0, .inl 0, []) ::
  (69, .iconst 3, 1, 0, 0, 0, .inl (nI 3), []) ::
  (70, .iadd, 1, 0, 0, 0, .inl 0, []) ::
  (71, .iaload, 1, 0, 0, 0, .inl 0, []) ::
  (72, .invokestatic 143, 3, 177, 3, 1, .inl 0, [1414]) ::
  (75, .ifCond .eq 5, 3, 80, 0, 0, .inl 0, []) ::
  (78, .iconst 1, 1, 0, 0, 0, .inl (nI 1), []) ::
  (79, .ireturn, 1, 1, 0, 0, .inl 0, []) :: s_X9_isStopped_80) ls st μ := by rw [s_X9_isStopped_2]
theorem v_X9_isStopped_2 : vc X P m_X9_isStopped h K k_X9_isStopped S (n + 1) 2 ls st μ = if 2 ∈ S then mAt X m_X9_isStopped h K 2 ls st μ else bb X P m_X9_isStopped h K (vc X P m_X9_isStopped h K k_X9_isStopped S n) s_X9_isStopped_2 ls st μ := by rw [vc_s, t_X9_isStopped_2]
theorem w_X9_isStopped_80 : bb X P m_X9_isStopped h K J s_X9_isStopped_80 ls st μ = bb X P m_X9_isStopped h K J ((80, .iinc 3 1, 3, 3, 0, 0, .inl (nI 1), []) ::
  (83, .goto (-81), 3, 2, 0, 0, .inl 0, []) :: s_X9_isStopped_86) ls st μ := by rw [s_X9_isStopped_80]
theorem v_X9_isStopped_80 : vc X P m_X9_isStopped h K k_X9_isStopped S (n + 1) 80 ls st μ = if 80 ∈ S then mAt X m_X9_isStopped h K 80 ls st μ else bb X P m_X9_isStopped h K (vc X P m_X9_isStopped h K k_X9_isStopped S n) s_X9_isStopped_80 ls st μ := by rw [vc_s, t_X9_isStopped_80]
theorem w_X9_isStopped_86 : bb X P m_X9_isStopped h K J s_X9_isStopped_86 ls st μ = bb X P m_X9_isStopped h K J ((86, .iconst 0, 1, 0, 0, 0, .inl (nI 0), []) ::
  (87, .ireturn, 1, 1, 0, 0, .inl 0, []) :: []) ls st μ := by rw [s_X9_isStopped_86]
theorem v_X9_isStopped_86 : vc X P m_X9_isStopped h K k_X9_isStopped S (n + 1) 86 ls st μ = if 86 ∈ S then mAt X m_X9_isStopped h K 86 ls st μ else bb X P m_X9_isStopped h K (vc X P m_X9_isStopped h K k_X9_isStopped S n) s_X9_isStopped_86 ls st μ := by rw [vc_s, t_X9_isStopped_86]
end
section
variable {X : mC} {P : mP} {h : Nat} {K : MV → Mem → Prop} {J : mJ} {ls : List (Nat × MV)} {st : List MV} {μ : Mem} {S : List Nat} {n : Nat}
theorem w_X9_isToldGood_0 : bb X P m_X9_isToldGood h K J s_X9_isToldGood_0 ls st μ = bb X P m_X9_isToldGood h K J ((0, .aload_n 0, 1, 0, 0, 0, .inl 0, []) ::
  (1, .invokevirtual 160, 3, 179, 1, 1, .inl 0, [1403, 8]) ::
  (4, .ifCond .ne 9, 3, 13, 0, 0, .inl 0, []) ::
  (7, .aload_n 0, 1, 0, 0, 0, .inl 0, []) ::
  (8, .iconst 1, 1, 0, 0, 0, .inl (nI 1), []) ::
  (9, .invokevirtual 140, 3, 140, 2, 1, .inl 0, [1395, 8]) ::
  (12, .ireturn, 1, 1, 0, 0, .inl 0, []) :: s_X9_isToldGood_13) ls st μ := by rw [s_X9_isToldGood_0]
theorem v_X9_isToldGood_0 : vc X P m_X9_isToldGood h K k_X9_isToldGood S (n + 1) 0 ls st μ = if 0 ∈ S then mAt X m_X9_isToldGood h K 0 ls st μ else bb X P m_X9_isToldGood h K (vc X P m_X9_isToldGood h K k_X9_isToldGood S n) s_X9_isToldGood_0 ls st μ := by rw [vc_s, t_X9_isToldGood_0]
theorem w_X9_isToldGood_13 : bb X P m_X9_isToldGood h K J s_X9_isToldGood_13 ls st μ = bb X P m_X9_isToldGood h K J ((13, .aload_n 0, 1, 0, 0, 0, .inl 0, []) ::
  (14, .aload_n 1, 1, 1, 0, 0, .inl 0, []) ::
  (15, .iconst 0, 1, 0, 0, 0, .inl (nI 0), []) ::
  (16, .aload_n 2, 1, 2, 0, 0, .inl 0, []) ::
  (17, .iconst 0, 1, 0, 0, 0, .inl (nI 0), []) ::
  (18, .iaload, 1, 0, 0, 0, .inl 0, []) ::
  (19, .aload_n 0, 1, 0, 0, 0, .inl 0, []) ::
  (20, .getfield 111, 3, 8, 12, 1, .inl 0, [1208]) ::
  (23, .invokestatic 164, 3, 161, 4, 1, .inl 0, [1407]) ::
  (26, .putfield 147, 3, 8, 13, 0, .inl 0, [1209]) ::
  (29, .aload_n 0, 1, 0, 0, 0, .inl 0, []) ::
  (30, .getfield 147, 3, 8, 13, 0, .inl 0, [1209]) ::
  (33, .iconst (-1), 1, 0, 0, 0, .inl (-1), []) ::
  (34, .if_icmp .ne 11, 3, 45, 0, 0, .inl 0, []) ::
  (37, .aload_n 0, 1, 0, 0, 0, .inl 0, []) ::
  (38, .iconst 3, 1, 0, 0, 0, .inl (nI 3), []) ::
  (39, .invokevirtual 140, 3, 140, 2, 1, .inl 0, [1395, 8]) ::
  (42, .ifCond .eq 7, 3, 49, 0, 0, .inl 0, []) :: s_X9_isToldGood_45) ls st μ := by rw [s_X9_isToldGood_13]
theorem v_X9_isToldGood_13 : vc X P m_X9_isToldGood h K k_X9_isToldGood S (n + 1) 13 ls st μ = if 13 ∈ S then mAt X m_X9_isToldGood h K 13 ls st μ else bb X P m_X9_isToldGood h K (vc X P m_X9_isToldGood h K k_X9_isToldGood S n) s_X9_isToldGood_13 ls st μ := by rw [vc_s, t_X9_isToldGood_13]
theorem w_X9_isToldGood_45 : bb X P m_X9_isToldGood h K J s_X9_isToldGood_45 ls st μ = bb X P m_X9_isToldGood h K J ((45, .iconst 1, 1, 0, 0, 0, .inl (nI 1), []) ::
  (46, .goto 4, 3, 50, 0, 0, .inl 0, []) :: s_X9_isToldGood_49) ls st μ := by rw [s_X9_isToldGood_45]
theorem v_X9_isToldGood_45 : vc X P m_X9_isToldGood h K k_X9_isToldGood S (n + 1) 45 ls st μ = if 45 ∈ S then mAt X m_X9_isToldGood h K 45 ls st μ else bb X P m_X9_isToldGood h K (vc X P m_X9_isToldGood h K k_X9_isToldGood S n) s_X9_isToldGood_45 ls st μ := by rw [vc_s, t_X9_isToldGood_45]
theorem w_X9_isToldGood_49 : bb X P m_X9_isToldGood h K J s_X9_isToldGood_49 ls st μ = bb X P m_X9_isToldGood h K J ((49, .iconst 0, 1, 0, 0, 0, .inl (nI 0), []) :: s_X9_isToldGood_50) ls st μ := by rw [s_X9_isToldGood_49]
theorem v_X9_isToldGood_49 : vc X P m_X9_isToldGood h K k_X9_isToldGood S (n + 1) 49 ls st μ = if 49 ∈ S then mAt X m_X9_isToldGood h K 49 ls st μ else bb X P m_X9_isToldGood h K (vc X P m_X9_isToldGood h K k_X9_isToldGood S n) s_X9_isToldGood_49 ls st μ := by rw [vc_s, t_X9_isToldGood_49]
theorem w_X9_isToldGood_50 : bb X P m_X9_isToldGood h K J s_X9_isToldGood_50 ls st μ = bb X P m_X9_isToldGood h K J ((50, .ireturn, 1, 1, 0, 0, .inl 0, []) :: []) ls st μ := by rw [s_X9_isToldGood_50]
theorem v_X9_isToldGood_50 : vc X P m_X9_isToldGood h K k_X9_isToldGood S (n + 1) 50 ls st μ = if 50 ∈ S then mAt X m_X9_isToldGood h K 50 ls st μ else bb X P m_X9_isToldGood h K (vc X P m_X9_isToldGood h K k_X9_isToldGood S n) s_X9_isToldGood_50 ls st μ := by rw [vc_s, t_X9_isToldGood_50]
end
section
variable {X : mC} {P : mP} {h : Nat} {K : MV → Mem → Prop} {J : mJ} {ls : List (Nat × MV)} {st : List MV} {μ : Mem} {S : List Nat} {n : Nat}
theorem w_X9_isToldWork_0 : bb X P m_X9_isToldWork h K J s_X9_isToldWork_0 ls st μ = bb X P m_X9_isToldWork h K J ((0, .aload_n 0, 1, 0, 0, 0, .inl 0, []) ::
  (1, .invokevirtual 160, 3, 179, 1, 1, .inl 0, [1403, 8]) ::
  (4, .ifCond .ne 9, 3, 13, 0, 0, .inl 0, []) ::
  (7, .aload_n 0, 1, 0, 0, 0, .inl 0, []) ::
  (8, .iconst 1, 1, 0, 0, 0, .inl (nI 1), []) ::
  (9, .invokevirtual 140, 3, 140, 2, 1, .inl 0, [1395, 8]) ::
  (12, .ireturn, 1, 1, 0, 0, .inl 0, []) :: s_X9_isToldWork_13) ls st μ := by rw [s_X9_isToldWork_0]
theorem v_X9_isToldWork_0 : vc X P m_X9_isToldWork h K k_X9_isToldWork S (n + 1) 0 ls st μ = if 0 ∈ S then mAt X m_X9_isToldWork h K 0 ls st μ else bb X P m_X9_isToldWork h K (vc X P m_X9_isToldWork h K k_X9_isToldWork S n) s_X9_isToldWork_0 ls st μ := by rw [vc_s, t_X9_isToldWork_0]
theorem w_X9_isToldWork_13 : bb X P m_X9_isToldWork h K J s_X9_isToldWork_13 ls st μ = bb X P m_X9_isToldWork h K J ((13, .aload_n 0, 1, 0, 0, 0, .inl 0, []) ::
  (14, .aload_n 1, 1, 1, 0, 0, .inl 0, []) ::
  (15, .bipush 6, 2, 0, 0, 0, .inl (nI 6), []) ::
  (17, .aload_n 2, 1, 2, 0, 0, .inl 0, []) ::
  (18, .iconst 1, 1, 0, 0, 0, .inl (nI 1), []) ::
  (19, .iaload, 1, 0, 0, 0, .inl 0, []) ::
  (20, .aload_n 0, 1, 0, 0, 0, .inl 0, []) ::
  (21, .getfield 111, 3, 8, 12, 1, .inl 0, [1208]) ::
  (24, .invokestatic 164, 3, 161, 4, 1, .inl 0, [1407]) ::
  (27, .putfield 147, 3, 8, 13, 0, .inl 0, [1209]) ::
  (30, .aload_n 0, 1, 0, 0, 0, .inl 0, []) ::
  (31, .getfield 147, 3, 8, 13, 0, .inl 0, [1209]) ::
  (34, .iconst (-1), 1, 0, 0, 0, .inl (-1), []) ::
  (35, .if_icmp .ne 11, 3, 46, 0, 0, .inl 0, []) ::
  (38, .aload_n 0, 1, 0, 0, 0, .inl 0, []) ::
  (39, .iconst 3, 1, 0, 0, 0, .inl (nI 3), []) ::
  (40, .invokevirtual 140, 3, 140, 2, 1, .inl 0, [1395, 8]) ::
  (43, .ifCond .eq 7, 3, 50, 0, 0, .inl 0, []) :: s_X9_isToldWork_46) ls st μ := by rw [s_X9_isToldWork_13]
theorem v_X9_isToldWork_13 : vc X P m_X9_isToldWork h K k_X9_isToldWork S (n + 1) 13 ls st μ = if 13 ∈ S then mAt X m_X9_isToldWork h K 13 ls st μ else bb X P m_X9_isToldWork h K (vc X P m_X9_isToldWork h K k_X9_isToldWork S n) s_X9_isToldWork_13 ls st μ := by rw [vc_s, t_X9_isToldWork_13]
theorem w_X9_isToldWork_46 : bb X P m_X9_isToldWork h K J s_X9_isToldWork_46 ls st μ = bb X P m_X9_isToldWork h K J ((46, .iconst 1, 1, 0, 0, 0, .inl (nI 1), []) ::
  (47, .goto 4, 3, 51, 0, 0, .inl 0, []) :: s_X9_isToldWork_50) ls st μ := by rw [s_X9_isToldWork_46]
theorem v_X9_isToldWork_46 : vc X P m_X9_isToldWork h K k_X9_isToldWork S (n + 1) 46 ls st μ = if 46 ∈ S then mAt X m_X9_isToldWork h K 46 ls st μ else bb X P m_X9_isToldWork h K (vc X P m_X9_isToldWork h K k_X9_isToldWork S n) s_X9_isToldWork_46 ls st μ := by rw [vc_s, t_X9_isToldWork_46]
theorem w_X9_isToldWork_50 : bb X P m_X9_isToldWork h K J s_X9_isToldWork_50 ls st μ = bb X P m_X9_isToldWork h K J ((50, .iconst 0, 1, 0, 0, 0, .inl (nI 0), []) :: s_X9_isToldWork_51) ls st μ := by rw [s_X9_isToldWork_50]
theorem v_X9_isToldWork_50 : vc X P m_X9_isToldWork h K k_X9_isToldWork S (n + 1) 50 ls st μ = if 50 ∈ S then mAt X m_X9_isToldWork h K 50 ls st μ else bb X P m_X9_isToldWork h K (vc X P m_X9_isToldWork h K k_X9_isToldWork S n) s_X9_isToldWork_50 ls st μ := by rw [vc_s, t_X9_isToldWork_50]
theorem w_X9_isToldWork_51 : bb X P m_X9_isToldWork h K J s_X9_isToldWork_51 ls st μ = bb X P m_X9_isToldWork h K J ((51, .ireturn, 1, 1, 0, 0, .inl 0, []) :: []) ls st μ := by rw [s_X9_isToldWork_51]
theorem v_X9_isToldWork_51 : vc X P m_X9_isToldWork h K k_X9_isToldWork S (n + 1) 51 ls st μ = if 51 ∈ S then mAt X m_X9_isToldWork h K 51 ls st μ else bb X P m_X9_isToldWork h K (vc X P m_X9_isToldWork h K k_X9_isToldWork S n) s_X9_isToldWork_51 ls st μ := by rw [vc_s, t_X9_isToldWork_51]
end
section
variable {X : mC} {P : mP} {h : Nat} {K : MV → Mem → Prop} {J : mJ} {ls : List (Nat × MV)} {st : List MV} {μ : Mem} {S : List Nat} {n : Nat}
theorem w_X9_isVat_0 : bb X P m_X9_isVat h K J s_X9_isVat_0 ls st μ = bb X P m_X9_isVat h K J ((0, .aload_n 0, 1, 0, 0, 0, .inl 0, []) ::
  (1, .invokevirtual 288, 3, 180, 1, 1, .inl 0, [1516, 8]) ::
  (4, .ifCond .eq 39, 3, 43, 0, 0, .inl 0, []) ::
  (7, .aload_n 0, 1, 0, 0, 0, .inl 0, []) ::
  (8, .iload_n 1, 1, 1, 0, 0, .inl 0, []) ::
  (9, .invokevirtual 225, 3, 190, 2, 1, .inl 0, [1468, 8]) ::
  (12, .ifCond .eq 31, 3, 43, 0, 0, .inl 0, []) ::
  (15, .aload_n 0, 1, 0, 0, 0, .inl 0, []) ::
  (16, .iload_n 2, 1, 2, 0, 0, .inl 0, []) ::
  (17, .invokevirtual 234, 3, 175, 2, 1, .inl 0, [1492, 8]) ::
  (20, .ifCond .eq 23, 3, 43, 0, 0, .inl 0, []) ::
  (23, .aload_n 0, 1, 0, 0, 0, .inl 0, []) ::
  (24, .getfield 13, 3, 8, 14, 3, .inr (.inr (16, 925, 2)), [1210]) ::
  (27, .bipush 38, 2, 0, 0, 0, .inl (nI 38), []) ::
  (29, .iload_n 1, 1, 1, 0, 0, .inl 0, []) ::
  (30, .iload_n 2, 1, 2, 0, 0, .inl 0, []) ::
  (31, .invokestatic 182, 3, 148, 2, 1, .inl 0, [1437]) ::
  (34, .iadd, 1, 0, 0, 0, .inl 0, []) ::
  (35, .iaload, 1, 0, 0, 0, .inl 0, []) ::
  (36, .ifCond .le 7, 3, 43, 0, 0, .inl 0, []) ::
  (39, .iconst 1, 1, 0, 0, 0, .inl (nI 1), []) ::
  (40, .goto 4, 3, 44, 0, 0, .inl 0, []) :: s_X9_isVat_43) ls st μ := by rw [s_X9_isVat_0]
theorem v_X9_isVat_0 : vc X P m_X9_isVat h K k_X9_isVat S (n + 1) 0 ls st μ = if 0 ∈ S then mAt X m_X9_isVat h K 0 ls st μ else bb X P m_X9_isVat h K (vc X P m_X9_isVat h K k_X9_isVat S n) s_X9_isVat_0 ls st μ := by rw [vc_s, t_X9_isVat_0]
theorem w_X9_isVat_43 : bb X P m_X9_isVat h K J s_X9_isVat_43 ls st μ = bb X P m_X9_isVat h K J ((43, .iconst 0, 1, 0, 0, 0, .inl (nI 0), []) :: s_X9_isVat_44) ls st μ := by rw [s_X9_isVat_43]
theorem v_X9_isVat_43 : vc X P m_X9_isVat h K k_X9_isVat S (n + 1) 43 ls st μ = if 43 ∈ S then mAt X m_X9_isVat h K 43 ls st μ else bb X P m_X9_isVat h K (vc X P m_X9_isVat h K k_X9_isVat S n) s_X9_isVat_43 ls st μ := by rw [vc_s, t_X9_isVat_43]
theorem w_X9_isVat_44 : bb X P m_X9_isVat h K J s_X9_isVat_44 ls st μ = bb X P m_X9_isVat h K J ((44, .ireturn, 1, 1, 0, 0, .inl 0, []) :: []) ls st μ := by rw [s_X9_isVat_44]
theorem v_X9_isVat_44 : vc X P m_X9_isVat h K k_X9_isVat S (n + 1) 44 ls st μ = if 44 ∈ S then mAt X m_X9_isVat h K 44 ls st μ else bb X P m_X9_isVat h K (vc X P m_X9_isVat h K k_X9_isVat S n) s_X9_isVat_44 ls st μ := by rw [vc_s, t_X9_isVat_44]
end
section
variable {X : mC} {P : mP} {h : Nat} {K : MV → Mem → Prop} {J : mJ} {ls : List (Nat × MV)} {st : List MV} {μ : Mem} {S : List Nat} {n : Nat}
theorem w_X9_isWord_0 : bb X P m_X9_isWord h K J s_X9_isWord_0 ls st μ = bb X P m_X9_isWord h K J ((0, .aload_n 0, 1, 0, 0, 0, .inl 0, []) ::
  (1, .getfield 98, 3, 8, 7, 0, .inl 0, [1203]) ::
  (4, .iconst 2, 1, 0, 0, 0, .inl (nI 2), []) ::
  (5, .if_icmp .ne 19, 3, 24, 0, 0, .inl 0, []) ::
  (8, .aload_n 0, 1, 0, 0, 0, .inl 0, []) ::
  (9, .getfield 111, 3, 8, 12, 1, .inl 0, [1208]) ::
  (12, .iload_n 1, 1, 1, 0, 0, .inl 0, []) ::
  (13, .invokestatic 130, 3, 251, 1, 2, .inl 0, [1385]) ::
  (16, .lcmp, 1, 0, 0, 0, .inl 0, []) ::
  (17, .ifCond .ne 7, 3, 24, 0, 0, .inl 0, []) ::
  (20, .iconst 1, 1, 0, 0, 0, .inl (nI 1), []) ::
  (21, .goto 4, 3, 25, 0, 0, .inl 0, []) :: s_X9_isWord_24) ls st μ := by rw [s_X9_isWord_0]
theorem v_X9_isWord_0 : vc X P m_X9_isWord h K k_X9_isWord S (n + 1) 0 ls st μ = if 0 ∈ S then mAt X m_X9_isWord h K 0 ls st μ else bb X P m_X9_isWord h K (vc X P m_X9_isWord h K k_X9_isWord S n) s_X9_isWord_0 ls st μ := by rw [vc_s, t_X9_isWord_0]
theorem w_X9_isWord_24 : bb X P m_X9_isWord h K J s_X9_isWord_24 ls st μ = bb X P m_X9_isWord h K J ((24, .iconst 0, 1, 0, 0, 0, .inl (nI 0), []) :: s_X9_isWord_25) ls st μ := by rw [s_X9_isWord_24]
theorem v_X9_isWord_24 : vc X P m_X9_isWord h K k_X9_isWord S (n + 1) 24 ls st μ = if 24 ∈ S then mAt X m_X9_isWord h K 24 ls st μ else bb X P m_X9_isWord h K (vc X P m_X9_isWord h K k_X9_isWord S n) s_X9_isWord_24 ls st μ := by rw [vc_s, t_X9_isWord_24]
theorem w_X9_isWord_25 : bb X P m_X9_isWord h K J s_X9_isWord_25 ls st μ = bb X P m_X9_isWord h K J ((25, .ireturn, 1, 1, 0, 0, .inl 0, []) :: []) ls st μ := by rw [s_X9_isWord_25]
theorem v_X9_isWord_25 : vc X P m_X9_isWord h K k_X9_isWord S (n + 1) 25 ls st μ = if 25 ∈ S then mAt X m_X9_isWord h K 25 ls st μ else bb X P m_X9_isWord h K (vc X P m_X9_isWord h K k_X9_isWord S n) s_X9_isWord_25 ls st μ := by rw [vc_s, t_X9_isWord_25]
end
section
variable {X : mC} {P : mP} {h : Nat} {K : MV → Mem → Prop} {J : mJ} {ls : List (Nat × MV)} {st : List MV} {μ : Mem} {S : List Nat} {n : Nat}
theorem w_X9_isWork_0 : bb X P m_X9_isWork h K J s_X9_isWork_0 ls st μ = bb X P m_X9_isWork h K J ((0, .iload_n 1, 1, 1, 0, 0, .inl 0, []) ::
  (1, .ifCond .lt 15, 3, 16, 0, 0, .inl 0, []) ::
  (4, .iload_n 1, 1, 1, 0, 0, .inl 0, []) ::
  (5, .aload_n 0, 1, 0, 0, 0, .inl 0, []) ::
  (6, .invokevirtual 219, 3, 253, 1, 1, .inl 0, [1472, 8]) ::
  (9, .if_icmp .ge 7, 3, 16, 0, 0, .inl 0, []) ::
  (12, .iconst 1, 1, 0, 0, 0, .inl (nI 1), []) ::
  (13, .goto 4, 3, 17, 0, 0, .inl 0, []) :: s_X9_isWork_16) ls st μ := by rw [s_X9_isWork_0]
theorem v_X9_isWork_0 : vc X P m_X9_isWork h K k_X9_isWork S (n + 1) 0 ls st μ = if 0 ∈ S then mAt X m_X9_isWork h K 0 ls st μ else bb X P m_X9_isWork h K (vc X P m_X9_isWork h K k_X9_isWork S n) s_X9_isWork_0 ls st μ := by rw [vc_s, t_X9_isWork_0]
theorem w_X9_isWork_16 : bb X P m_X9_isWork h K J s_X9_isWork_16 ls st μ = bb X P m_X9_isWork h K J ((16, .iconst 0, 1, 0, 0, 0, .inl (nI 0), []) :: s_X9_isWork_17) ls st μ := by rw [s_X9_isWork_16]
theorem v_X9_isWork_16 : vc X P m_X9_isWork h K k_X9_isWork S (n + 1) 16 ls st μ = if 16 ∈ S then mAt X m_X9_isWork h K 16 ls st μ else bb X P m_X9_isWork h K (vc X P m_X9_isWork h K k_X9_isWork S n) s_X9_isWork_16 ls st μ := by rw [vc_s, t_X9_isWork_16]
theorem w_X9_isWork_17 : bb X P m_X9_isWork h K J s_X9_isWork_17 ls st μ = bb X P m_X9_isWork h K J ((17, .ireturn, 1, 1, 0, 0, .inl 0, []) :: []) ls st μ := by rw [s_X9_isWork_17]
theorem v_X9_isWork_17 : vc X P m_X9_isWork h K k_X9_isWork S (n + 1) 17 ls st μ = if 17 ∈ S then mAt X m_X9_isWork h K 17 ls st μ else bb X P m_X9_isWork h K (vc X P m_X9_isWork h K k_X9_isWork S n) s_X9_isWork_17 ls st μ := by rw [vc_s, t_X9_isWork_17]
end
section
variable {X : mC} {P : mP} {h : Nat} {K : MV → Mem → Prop} {J : mJ} {ls : List (Nat × MV)} {st : List MV} {μ : Mem} {S : List Nat} {n : Nat}
theorem w_X9_kept_0 : bb X P m_X9_kept h K J s_X9_kept_0 ls st μ = bb X P m_X9_kept h K J ((0, .aload_n 0, 1, 0, 0, 0, .inl 0, []) ::
  (1, .iconst 0, 1, 0, 0, 0, .inl (nI 0), []) ::
  (2, .putfield 76, 3, 8, 0, 0, .inl 0, [1196]) ::
  (5, .aload_n 0, 1, 0, 0, 0, .inl 0, []) ::
  (6, .invokevirtual 156, 3, 245, 1, 1, .inl 0, [1357, 8]) ::
  (9, .istore_n 2, 1, 2, 0, 0, .inl 0, []) ::
  (10, .iload_n 1, 1, 1, 0, 0, .inl 0, []) ::
  (11, .invokestatic 303, 3, 176, 1, 1, .inl 0, [1614]) ::
  (14, .ifCond .eq 13, 3, 27, 0, 0, .inl 0, []) ::
  (17, .iload_n 2, 1, 2, 0, 0, .inl 0, []) ::
  (18, .iconst 2, 1, 0, 0, 0, .inl (nI 2), []) ::
  (19, .aload_n 0, 1, 0, 0, 0, .inl 0, []) ::
  (20, .invokevirtual 219, 3, 253, 1, 1, .inl 0, [1472, 8]) ::
  (23, .imul, 1, 0, 0, 0, .inl 0, []) ::
  (24, .if_icmp .eq 6, 3, 30, 0, 0, .inl 0, []) :: s_X9_kept_27) ls st μ := by rw [s_X9_kept_0]
theorem v_X9_kept_0 : vc X P m_X9_kept h K k_X9_kept S (n + 1) 0 ls st μ = if 0 ∈ S then mAt X m_X9_kept h K 0 ls st μ else bb X P m_X9_kept h K (vc X P m_X9_kept h K k_X9_kept S n) s_X9_kept_0 ls st μ := by rw [vc_s, t_X9_kept_0]
theorem w_X9_kept_27 : bb X P m_X9_kept h K J s_X9_kept_27 ls st μ = bb X P m_X9_kept h K J ((27, .bipush (-2), 2, 0, 0, 0, .inl (-2), []) ::
  (29, .ireturn, 1, 0, 0, 0, .inl 0, []) :: s_X9_kept_30) ls st μ := by rw [s_X9_kept_27]
theorem v_X9_kept_27 : vc X P m_X9_kept h K k_X9_kept S (n + 1) 27 ls st μ = if 27 ∈ S then mAt X m_X9_kept h K 27 ls st μ else bb X P m_X9_kept h K (vc X P m_X9_kept h K k_X9_kept S n) s_X9_kept_27 ls st μ := by rw [vc_s, t_X9_kept_27]
theorem w_X9_kept_30 : bb X P m_X9_kept h K J s_X9_kept_30 ls st μ = bb X P m_X9_kept h K J ((30, .aload_n 0, 1, 0, 0, 0, .inl 0, []) ::
  (31, .iload_n 1, 1, 1, 0, 0, .inl 0, []) ::
  (32, .invokevirtual 312, 3, 197, 2, 0, .inl 0, [1637, 8]) ::
  (35, .iconst 0, 1, 0, 0, 0, .inl (nI 0), []) ::
  (36, .istore_n 3, 1, 3, 0, 0, .inl 0, []) :: s_X9_kept_37) ls st μ := by rw [s_X9_kept_30]
theorem v_X9_kept_30 : vc X P m_X9_kept h K k_X9_kept S (n + 1) 30 ls st μ = if 30 ∈ S then mAt X m_X9_kept h K 30 ls st μ else bb X P m_X9_kept h K (vc X P m_X9_kept h K k_X9_kept S n) s_X9_kept_30 ls st μ := by rw [vc_s, t_X9_kept_30]
theorem w_X9_kept_37 : bb X P m_X9_kept h K J s_X9_kept_37 ls st μ = bb X P m_X9_kept h K J ((37, .aload_n 0, 1, 0, 0, 0, .inl 0, []) ::
  (38, .iload_n 3, 1, 3, 0, 0, .inl 0, []) ::
  (39, .invokevirtual 300, 3, 181, 2, 1, .inl 0, [1610, 8]) ::
  (42, .ifCond .eq 82, 3, 124, 0, 0, .inl 0, []) ::
  (45, .iconst 0, 1, 0, 0, 0, .inl (nI 0), []) ::
  (46, .istore 4, 2, 4, 0, 0, .inl 0, []) ::
  (48, .iconst 0, 1, 0, 0, 0, .inl (nI 0), []) ::
  (49, .istore 5, 2, 5, 0, 0, .inl 0, []) :: s_X9_kept_51) ls st μ := by rw [s_X9_kept_37]
theorem v_X9_kept_37 : vc X P m_X9_kept h K k_X9_kept S (n + 1) 37 ls st μ = if 37 ∈ S then mAt X m_X9_kept h K 37 ls st μ else bb X P m_X9_kept h K (vc X P m_X9_kept h K k_X9_kept S n) s_X9_kept_37 ls st μ := by rw [vc_s, t_X9_kept_37]
theorem w_X9_kept_51 : bb X P m_X9_kept h K J s_X9_kept_51 ls st μ = bb X P m_X9_kept h K J ((51, .iload 5, 2, 5, 0, 0, .inl 0, []) ::
  (53, .aload_n 0, 1, 0, 0, 0, .inl 0, []) ::
  (54, .invokevirtual 219, 3, 253, 1, 1, .inl 0, [1472, 8]) ::
  (57, .if_icmp .ge 48, 3, 105, 0, 0, .inl 0, []) ::
  (60, .iload_n 3, 1, 3, 0, 0, .inl 0, []) ::
  (61, .iload 5, 2, 5, 0, 0, .inl 0, []) ::
  (63, .invokestatic 250, 3, 169, 2, 1, .inl 0, [1543]) ::
  (66, .ifCond .eq 33, 3, 99, 0, 0, .inl 0, []) ::
  (69, .iload 4, 2, 4, 0, 0, .inl 0, []) ::
  (71, .sipush 256, 3, 0, 0, 0, .inl (nI 256), []) ::
  (74, .aload_n 0, 1, 0, 0, 0, .inl 0, []) ::
  (75, .getfield 7, 3, 8, 1, 3, .inr (.inr (16, 940, 1)), [1197]) ::
  (78, .iconst 2, 1, 0, 0, 0, .inl (nI 2), []) ::
  (79, .iload 5, 2, 5, 0, 0, .inl 0, []) ::
  (81, .imul, 1, 0, 0, 0, .inl 0, []) ::
  (82, .iaload, 1, 0, 0, 0, .inl 0, []) ::
  (83, .imul, 1, 0, 0, 0, .inl 0, []) ::
  (84, .aload_n 0, 1, 0, 0, 0, .inl 0, []) ::
  (85, .getfield 7, 3, 8, 1, 3, .inr (.inr (16, 940, 1)), [1197]) ::
  (88, .iconst 2, 1, 0, 0, 0, .inl (nI 2), []) ::
  (89, .iload 5, 2, 5, 0, 0, .inl 0, []) ::
  (91, .imul, 1, 0, 0, 0, .inl 0, []) ::
  (92, .iconst 1, 1, 0, 0, 0, .inl (nI 1), []) ::
  (93, .iadd, 1, 0, 0, 0, .inl 0, []) ::
  (94, .iaload, 1, 0, 0, 0, .inl 0, []) ::
  (95, .iadd, 1, 0, 0, 0, .inl 0, []) ::
  (96, .iadd, 1, 0, 0, 0, .inl 0, []) ::
  (97, .istore 4, 2, 4, 0, 0, .inl 0, []) :: s_X9_kept_99) ls st μ := by rw [s_X9_kept_51]
theorem v_X9_kept_51 : vc X P m_X9_kept h K k_X9_kept S (n + 1) 51 ls st μ = if 51 ∈ S then mAt X m_X9_kept h K 51 ls st μ else bb X P m_X9_kept h K (vc X P m_X9_kept h K k_X9_kept S n) s_X9_kept_51 ls st μ := by rw [vc_s, t_X9_kept_51]
theorem w_X9_kept_99 : bb X P m_X9_kept h K J s_X9_kept_99 ls st μ = bb X P m_X9_kept h K J ((99, .iinc 5 1, 3, 5, 0, 0, .inl (nI 1), []) ::
  (102, .goto (-51), 3, 51, 0, 0, .inl 0, []) :: s_X9_kept_105) ls st μ := by rw [s_X9_kept_99]
theorem v_X9_kept_99 : vc X P m_X9_kept h K k_X9_kept S (n + 1) 99 ls st μ = if 99 ∈ S then mAt X m_X9_kept h K 99 ls st μ else bb X P m_X9_kept h K (vc X P m_X9_kept h K k_X9_kept S n) s_X9_kept_99 ls st μ := by rw [vc_s, t_X9_kept_99]
theorem w_X9_kept_105 : bb X P m_X9_kept h K J s_X9_kept_105 ls st μ = bb X P m_X9_kept h K J ((105, .aload_n 0, 1, 0, 0, 0, .inl 0, []) ::
  (106, .getfield 57, 3, 8, 31, 3, .inr (.inr (16, 256, 16)), [1227]) ::
  (109, .iload_n 3, 1, 3, 0, 0, .inl 0, []) ::
  (110, .iaload, 1, 0, 0, 0, .inl 0, []) ::
  (111, .iload 4, 2, 4, 0, 0, .inl 0, []) ::
  (113, .if_icmp .le 5, 3, 118, 0, 0, .inl 0, []) ::
  (116, .iload_n 3, 1, 3, 0, 0, .inl 0, []) ::
  (117, .ireturn, 1, 0, 0, 0, .inl 0, []) :: s_X9_kept_118) ls st μ := by rw [s_X9_kept_105]
theorem v_X9_kept_105 : vc X P m_X9_kept h K k_X9_kept S (n + 1) 105 ls st μ = if 105 ∈ S then mAt X m_X9_kept h K 105 ls st μ else bb X P m_X9_kept h K (vc X P m_X9_kept h K k_X9_kept S n) s_X9_kept_105 ls st μ := by rw [vc_s, t_X9_kept_105]
theorem w_X9_kept_118 : bb X P m_X9_kept h K J s_X9_kept_118 ls st μ = bb X P m_X9_kept h K J ((118, .iinc 3 1, 3, 3, 0, 0, .inl (nI 1), []) ::
  (121, .goto (-84), 3, 37, 0, 0, .inl 0, []) :: s_X9_kept_124) ls st μ := by rw [s_X9_kept_118]
theorem v_X9_kept_118 : vc X P m_X9_kept h K k_X9_kept S (n + 1) 118 ls st μ = if 118 ∈ S then mAt X m_X9_kept h K 118 ls st μ else bb X P m_X9_kept h K (vc X P m_X9_kept h K k_X9_kept S n) s_X9_kept_118 ls st μ := by rw [vc_s, t_X9_kept_118]
theorem w_X9_kept_124 : bb X P m_X9_kept h K J s_X9_kept_124 ls st μ = bb X P m_X9_kept h K J ((124, .iconst (-1), 1, 0, 0, 0, .inl (-1), []) ::
  (125, .ireturn, 1, 0, 0, 0, .inl 0, []) :: []) ls st μ := by rw [s_X9_kept_124]
theorem v_X9_kept_124 : vc X P m_X9_kept h K k_X9_kept S (n + 1) 124 ls st μ = if 124 ∈ S then mAt X m_X9_kept h K 124 ls st μ else bb X P m_X9_kept h K (vc X P m_X9_kept h K k_X9_kept S n) s_X9_kept_124 ls st μ := by rw [vc_s, t_X9_kept_124]
end
section
variable {X : mC} {P : mP} {h : Nat} {K : MV → Mem → Prop} {J : mJ} {ls : List (Nat × MV)} {st : List MV} {μ : Mem} {S : List Nat} {n : Nat}
theorem w_X9_kindle_0 : bb X P m_X9_kindle h K J s_X9_kindle_0 ls st μ = bb X P m_X9_kindle h K J ((0, .aload_n 0, 1, 0, 0, 0, .inl 0, []) ::
  (1, .iconst 0, 1, 0, 0, 0, .inl (nI 0), []) ::
  (2, .putfield 76, 3, 8, 0, 0, .inl 0, [1196]) ::
  (5, .aload_n 0, 1, 0, 0, 0, .inl 0, []) ::
  (6, .iload_n 1, 1, 1, 0, 0, .inl 0, []) ::
  (7, .invokevirtual 300, 3, 181, 2, 1, .inl 0, [1610, 8]) ::
  (10, .ifCond .eq 13, 3, 23, 0, 0, .inl 0, []) ::
  (13, .iload_n 2, 1, 2, 0, 0, .inl 0, []) ::
  (14, .iconst 1, 1, 0, 0, 0, .inl (nI 1), []) ::
  (15, .bipush 48, 2, 0, 0, 0, .inl (nI 48), []) ::
  (17, .invokestatic 143, 3, 177, 3, 1, .inl 0, [1414]) ::
  (20, .ifCond .ne 6, 3, 26, 0, 0, .inl 0, []) :: s_X9_kindle_23) ls st μ := by rw [s_X9_kindle_0]
theorem v_X9_kindle_0 : vc X P m_X9_kindle h K k_X9_kindle S (n + 1) 0 ls st μ = if 0 ∈ S then mAt X m_X9_kindle h K 0 ls st μ else bb X P m_X9_kindle h K (vc X P m_X9_kindle h K k_X9_kindle S n) s_X9_kindle_0 ls st μ := by rw [vc_s, t_X9_kindle_0]
theorem w_X9_kindle_23 : bb X P m_X9_kindle h K J s_X9_kindle_23 ls st μ = bb X P m_X9_kindle h K J ((23, .bipush (-2), 2, 0, 0, 0, .inl (-2), []) ::
  (25, .ireturn, 1, 0, 0, 0, .inl 0, []) :: s_X9_kindle_26) ls st μ := by rw [s_X9_kindle_23]
theorem v_X9_kindle_23 : vc X P m_X9_kindle h K k_X9_kindle S (n + 1) 23 ls st μ = if 23 ∈ S then mAt X m_X9_kindle h K 23 ls st μ else bb X P m_X9_kindle h K (vc X P m_X9_kindle h K k_X9_kindle S n) s_X9_kindle_23 ls st μ := by rw [vc_s, t_X9_kindle_23]
theorem w_X9_kindle_26 : bb X P m_X9_kindle h K J s_X9_kindle_26 ls st μ = bb X P m_X9_kindle h K J ((26, .iconst (-1), 1, 0, 0, 0, .inl (-1), []) ::
  (27, .istore_n 3, 1, 3, 0, 0, .inl 0, []) ::
  (28, .iconst 0, 1, 0, 0, 0, .inl (nI 0), []) ::
  (29, .istore 4, 2, 4, 0, 0, .inl 0, []) ::
  (31, .iconst 0, 1, 0, 0, 0, .inl (nI 0), []) ::
  (32, .istore 5, 2, 5, 0, 0, .inl 0, []) :: s_X9_kindle_34) ls st μ := by rw [s_X9_kindle_26]
theorem v_X9_kindle_26 : vc X P m_X9_kindle h K k_X9_kindle S (n + 1) 26 ls st μ = if 26 ∈ S then mAt X m_X9_kindle h K 26 ls st μ else bb X P m_X9_kindle h K (vc X P m_X9_kindle h K k_X9_kindle S n) s_X9_kindle_26 ls st μ := by rw [vc_s, t_X9_kindle_26]
theorem w_X9_kindle_34 : bb X P m_X9_kindle h K J s_X9_kindle_34 ls st μ = bb X P m_X9_kindle h K J ((34, .aload_n 0, 1, 0, 0, 0, .inl 0, []) ::
  (35, .iload 5, 2, 5, 0, 0, .inl 0, []) ::
  (37, .invokevirtual 300, 3, 181, 2, 1, .inl 0, [1610, 8]) ::
  (40, .ifCond .eq 111, 3, 151, 0, 0, .inl 0, []) ::
  (43, .iconst 0, 1, 0, 0, 0, .inl (nI 0), []) ::
  (44, .istore 6, 2, 6, 0, 0, .inl 0, []) ::
  (46, .iconst 0, 1, 0, 0, 0, .inl (nI 0), []) ::
  (47, .istore 7, 2, 7, 0, 0, .inl 0, []) :: s_X9_kindle_49) ls st μ := by rw [s_X9_kindle_34]
theorem v_X9_kindle_34 : vc X P m_X9_kindle h K k_X9_kindle S (n + 1) 34 ls st μ = if 34 ∈ S then mAt X m_X9_kindle h K 34 ls st μ else bb X P m_X9_kindle h K (vc X P m_X9_kindle h K k_X9_kindle S n) s_X9_kindle_34 ls st μ := by rw [vc_s, t_X9_kindle_34]
theorem w_X9_kindle_49 : bb X P m_X9_kindle h K J s_X9_kindle_49 ls st μ = bb X P m_X9_kindle h K J ((49, .iload 7, 2, 7, 0, 0, .inl 0, []) ::
  (51, .aload_n 0, 1, 0, 0, 0, .inl 0, []) ::
  (52, .invokevirtual 219, 3, 253, 1, 1, .inl 0, [1472, 8]) ::
  (55, .if_icmp .ge 57, 3, 112, 0, 0, .inl 0, []) ::
  (58, .iconst 0, 1, 0, 0, 0, .inl (nI 0), []) ::
  (59, .istore 8, 2, 8, 0, 0, .inl 0, []) :: s_X9_kindle_61) ls st μ := by rw [s_X9_kindle_49]
theorem v_X9_kindle_49 : vc X P m_X9_kindle h K k_X9_kindle S (n + 1) 49 ls st μ = if 49 ∈ S then mAt X m_X9_kindle h K 49 ls st μ else bb X P m_X9_kindle h K (vc X P m_X9_kindle h K k_X9_kindle S n) s_X9_kindle_49 ls st μ := by rw [vc_s, t_X9_kindle_49]
theorem w_X9_kindle_61 : bb X P m_X9_kindle h K J s_X9_kindle_61 ls st μ = bb X P m_X9_kindle h K J ((61, .iload 8, 2, 8, 0, 0, .inl 0, []) ::
  (63, .aload_n 0, 1, 0, 0, 0, .inl 0, []) ::
  (64, .invokevirtual 222, 3, 165, 1, 1, .inl 0, [1484, 8]) ::
  (67, .if_icmp .ge 39, 3, 106, 0, 0, .inl 0, []) ::
  (70, .iload 5, 2, 5, 0, 0, .inl 0, []) ::
  (72, .iload 7, 2, 7, 0, 0, .inl 0, []) ::
  (74, .invokestatic 250, 3, 169, 2, 1, .inl 0, [1543]) ::
  (77, .ifCond .eq 29, 3, 106, 0, 0, .inl 0, []) ::
  (80, .iload 6, 2, 6, 0, 0, .inl 0, []) ::
  (82, .aload_n 0, 1, 0, 0, 0, .inl 0, []) ::
  (83, .getfield 13, 3, 8, 14, 3, .inr (.inr (16, 925, 2)), [1210]) ::
  (86, .bipush 38, 2, 0, 0, 0, .inl (nI 38), []) ::
  (88, .iload 7, 2, 7, 0, 0, .inl 0, []) ::
  (90, .iload 8, 2, 8, 0, 0, .inl 0, []) ::
  (92, .invokestatic 182, 3, 148, 2, 1, .inl 0, [1437]) ::
  (95, .iadd, 1, 0, 0, 0, .inl 0, []) ::
  (96, .iaload, 1, 0, 0, 0, .inl 0, []) ::
  (97, .iadd, 1, 0, 0, 0, .inl 0, []) ::
  (98, .istore 6, 2, 6, 0, 0, .inl 0, []) ::
  (100, .iinc 8 1, 3, 8, 0, 0, .inl (nI 1), []) ::
  (103, .goto (-42), 3, 61, 0, 0, .inl 0, []) :: s_X9_kindle_106) ls st μ := by rw [s_X9_kindle_61]
theorem v_X9_kindle_61 : vc X P m_X9_kindle h K k_X9_kindle S (n + 1) 61 ls st μ = if 61 ∈ S then mAt X m_X9_kindle h K 61 ls st μ else bb X P m_X9_kindle h K (vc X P m_X9_kindle h K k_X9_kindle S n) s_X9_kindle_61 ls st μ := by rw [vc_s, t_X9_kindle_61]
theorem w_X9_kindle_106 : bb X P m_X9_kindle h K J s_X9_kindle_106 ls st μ = bb X P m_X9_kindle h K J ((106, .iinc 7 1, 3, 7, 0, 0, .inl (nI 1), []) ::
  (109, .goto (-60), 3, 49, 0, 0, .inl 0, []) :: s_X9_kindle_112) ls st μ := by rw [s_X9_kindle_106]
theorem v_X9_kindle_106 : vc X P m_X9_kindle h K k_X9_kindle S (n + 1) 106 ls st μ = if 106 ∈ S then mAt X m_X9_kindle h K 106 ls st μ else bb X P m_X9_kindle h K (vc X P m_X9_kindle h K k_X9_kindle S n) s_X9_kindle_106 ls st μ := by rw [vc_s, t_X9_kindle_106]
theorem w_X9_kindle_112 : bb X P m_X9_kindle h K J s_X9_kindle_112 ls st μ = bb X P m_X9_kindle h K J ((112, .iload_n 3, 1, 3, 0, 0, .inl 0, []) ::
  (113, .iconst (-1), 1, 0, 0, 0, .inl (-1), []) ::
  (114, .if_icmp .eq 10, 3, 124, 0, 0, .inl 0, []) ::
  (117, .iload 6, 2, 6, 0, 0, .inl 0, []) ::
  (119, .iload 4, 2, 4, 0, 0, .inl 0, []) ::
  (121, .if_icmp .ge 24, 3, 145, 0, 0, .inl 0, []) :: s_X9_kindle_124) ls st μ := by rw [s_X9_kindle_112]
theorem v_X9_kindle_112 : vc X P m_X9_kindle h K k_X9_kindle S (n + 1) 112 ls st μ = if 112 ∈ S then mAt X m_X9_kindle h K 112 ls st μ else bb X P m_X9_kindle h K (vc X P m_X9_kindle h K k_X9_kindle S n) s_X9_kindle_112 ls st μ := by rw [vc_s, t_X9_kindle_112]
theorem w_X9_kindle_124 : bb X P m_X9_kindle h K J s_X9_kindle_124 ls st μ = bb X P m_X9_kindle h K J ((124, .aload_n 0, 1, 0, 0, 0, .inl 0, []) ::
  (125, .iload 5, 2, 5, 0, 0, .inl 0, []) ::
  (127, .iload_n 1, 1, 1, 0, 0, .inl 0, []) ::
  (128, .iload_n 2, 1, 2, 0, 0, .inl 0, []) ::
  (129, .invokevirtual 336, 3, 194, 4, 1, .inl 0, [1691, 8]) ::
  (132, .ifCond .ne 6, 3, 138, 0, 0, .inl 0, []) ::
  (135, .goto 10, 3, 145, 0, 0, .inl 0, []) :: s_X9_kindle_138) ls st μ := by rw [s_X9_kindle_124]
theorem v_X9_kindle_124 : vc X P m_X9_kindle h K k_X9_kindle S (n + 1) 124 ls st μ = if 124 ∈ S then mAt X m_X9_kindle h K 124 ls st μ else bb X P m_X9_kindle h K (vc X P m_X9_kindle h K k_X9_kindle S n) s_X9_kindle_124 ls st μ := by rw [vc_s, t_X9_kindle_124]
theorem w_X9_kindle_138 : bb X P m_X9_kindle h K J s_X9_kindle_138 ls st μ = bb X P m_X9_kindle h K J ((138, .iload 5, 2, 5, 0, 0, .inl 0, []) ::
  (140, .istore_n 3, 1, 3, 0, 0, .inl 0, []) ::
  (141, .iload 6, 2, 6, 0, 0, .inl 0, []) ::
  (143, .istore 4, 2, 4, 0, 0, .inl 0, []) :: s_X9_kindle_145) ls st μ := by rw [s_X9_kindle_138]
theorem v_X9_kindle_138 : vc X P m_X9_kindle h K k_X9_kindle S (n + 1) 138 ls st μ = if 138 ∈ S then mAt X m_X9_kindle h K 138 ls st μ else bb X P m_X9_kindle h K (vc X P m_X9_kindle h K k_X9_kindle S n) s_X9_kindle_138 ls st μ := by rw [vc_s, t_X9_kindle_138]
theorem w_X9_kindle_145 : bb X P m_X9_kindle h K J s_X9_kindle_145 ls st μ = bb X P m_X9_kindle h K J ((145, .iinc 5 1, 3, 5, 0, 0, .inl (nI 1), []) ::
  (148, .goto (-114), 3, 34, 0, 0, .inl 0, []) :: s_X9_kindle_151) ls st μ := by rw [s_X9_kindle_145]
theorem v_X9_kindle_145 : vc X P m_X9_kindle h K k_X9_kindle S (n + 1) 145 ls st μ = if 145 ∈ S then mAt X m_X9_kindle h K 145 ls st μ else bb X P m_X9_kindle h K (vc X P m_X9_kindle h K k_X9_kindle S n) s_X9_kindle_145 ls st μ := by rw [vc_s, t_X9_kindle_145]
theorem w_X9_kindle_151 : bb X P m_X9_kindle h K J s_X9_kindle_151 ls st μ = bb X P m_X9_kindle h K J ((151, .iload_n 3, 1, 3, 0, 0, .inl 0, []) ::
  (152, .iconst (-1), 1, 0, 0, 0, .inl (-1), []) ::
  (153, .if_icmp .ne 5, 3, 158, 0, 0, .inl 0, []) ::
  (156, .iconst (-1), 1, 0, 0, 0, .inl (-1), []) ::
  (157, .ireturn, 1, 0, 0, 0, .inl 0, []) :: s_X9_kindle_158) ls st μ := by rw [s_X9_kindle_151]
theorem v_X9_kindle_151 : vc X P m_X9_kindle h K k_X9_kindle S (n + 1) 151 ls st μ = if 151 ∈ S then mAt X m_X9_kindle h K 151 ls st μ else bb X P m_X9_kindle h K (vc X P m_X9_kindle h K k_X9_kindle S n) s_X9_kindle_151 ls st μ := by rw [vc_s, t_X9_kindle_151]
theorem w_X9_kindle_158 : bb X P m_X9_kindle h K J s_X9_kindle_158 ls st μ = bb X P m_X9_kindle h K J ((158, .aload_n 0, 1, 0, 0, 0, .inl 0, []) ::
  (159, .iload_n 3, 1, 3, 0, 0, .inl 0, []) ::
  (160, .putfield 63, 3, 8, 35, 0, .inl 0, [1231]) ::
  (163, .iload 4, 2, 4, 0, 0, .inl 0, []) ::
  (165, .ireturn, 1, 0, 0, 0, .inl 0, []) :: []) ls st μ := by rw [s_X9_kindle_158]
theorem v_X9_kindle_158 : vc X P m_X9_kindle h K k_X9_kindle S (n + 1) 158 ls st μ = if 158 ∈ S then mAt X m_X9_kindle h K 158 ls st μ else bb X P m_X9_kindle h K (vc X P m_X9_kindle h K k_X9_kindle S n) s_X9_kindle_158 ls st μ := by rw [vc_s, t_X9_kindle_158]
end
