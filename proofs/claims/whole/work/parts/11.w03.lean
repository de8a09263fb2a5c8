section
variable {X : mC} {P : mP} {h : Nat} {K : MV → Mem → Prop} {J : mJ} {ls : List (Nat × MV)} {st : List MV} {μ : Mem} {S : List Nat} {n : Nat}
theorem w_X8_setWorth_0 : bb X P m_X8_setWorth h K J s_X8_setWorth_0 ls st μ = bb X P m_X8_setWorth h K J ((0, .aload_n 0, 1, 0, 0, 0, .inl 0, []) ::
  (1, .getfield 19, 3, 7, 1, 3, .inr (.inr (0, 0, 4)), [479]) ::
  (4, .invokevirtual 181, 3, 2, 1, 1, .inl 0, [728, 0]) ::
  (7, .istore_n 2, 1, 2, 0, 0, .inl 0, []) ::
  (8, .lconst 0, 1, 0, 0, 0, .inr (.inl 0), []) ::
  (9, .lstore_n 3, 1, 3, 0, 0, .inl 0, []) ::
  (10, .iconst 0, 1, 0, 0, 0, .inl (nI 0), []) ::
  (11, .istore 5, 2, 5, 0, 0, .inl 0, []) :: s_X8_setWorth_13) ls st μ := by rw [s_X8_setWorth_0]
theorem v_X8_setWorth_0 : vc X P m_X8_setWorth h K k_X8_setWorth S (n + 1) 0 ls st μ = if 0 ∈ S then mAt X m_X8_setWorth h K 0 ls st μ else bb X P m_X8_setWorth h K (vc X P m_X8_setWorth h K k_X8_setWorth S n) s_X8_setWorth_0 ls st μ := by rw [vc_s, t_X8_setWorth_0]
theorem w_X8_setWorth_13 : bb X P m_X8_setWorth h K J s_X8_setWorth_13 ls st μ = bb X P m_X8_setWorth h K J ((13, .iload 5, 2, 5, 0, 0, .inl 0, []) ::
  (15, .iload_n 2, 1, 2, 0, 0, .inl 0, []) ::
  (16, .if_icmp .gt 75, 3, 91, 0, 0, .inl 0, []) ::
  (19, .iload 5, 2, 5, 0, 0, .inl 0, []) ::
  (21, .iload_n 1, 1, 1, 0, 0, .inl 0, []) ::
  (22, .ishr, 1, 0, 0, 0, .inl 0, []) ::
  (23, .iconst 1, 1, 0, 0, 0, .inl (nI 1), []) ::
  (24, .iand, 1, 0, 0, 0, .inl 0, []) ::
  (25, .ifCond .ne 60, 3, 85, 0, 0, .inl 0, []) ::
  (28, .iload 5, 2, 5, 0, 0, .inl 0, []) ::
  (30, .invokestatic 284, 3, 0, 1, 1, .inl 0, [901]) ::
  (33, .istore 6, 2, 6, 0, 0, .inl 0, []) ::
  (35, .getstatic 289, 3, 0, 0, 0, .inr (.inr (20, 9, 0)), [907]) ::
  (38, .iload 6, 2, 6, 0, 0, .inl 0, []) ::
  (40, .iaload, 1, 0, 0, 0, .inl 0, []) ::
  (41, .i2l, 1, 0, 0, 0, .inl 0, []) ::
  (42, .getstatic 289, 3, 0, 0, 0, .inr (.inr (20, 9, 0)), [907]) ::
  (45, .aload_n 0, 1, 0, 0, 0, .inl 0, []) ::
  (46, .getfield 84, 3, 7, 15, 0, .inl 0, [493]) ::
  (49, .iconst 1, 1, 0, 0, 0, .inl (nI 1), []) ::
  (50, .isub, 1, 0, 0, 0, .inl 0, []) ::
  (51, .iload 6, 2, 6, 0, 0, .inl 0, []) ::
  (53, .isub, 1, 0, 0, 0, .inl 0, []) ::
  (54, .iaload, 1, 0, 0, 0, .inl 0, []) ::
  (55, .i2l, 1, 0, 0, 0, .inl 0, []) ::
  (56, .lmul, 1, 0, 0, 0, .inl 0, []) ::
  (57, .lstore 7, 2, 7, 0, 0, .inl 0, []) ::
  (59, .lload_n 3, 1, 3, 0, 0, .inl 0, []) ::
  (60, .lload 7, 2, 7, 0, 0, .inl 0, []) ::
  (62, .aload_n 0, 1, 0, 0, 0, .inl 0, []) ::
  (63, .getfield 73, 3, 7, 12, 3, .inr (.inr (16, 256, 161)), [490]) ::
  (66, .iload 5, 2, 5, 0, 0, .inl 0, []) ::
  (68, .iconst 1, 1, 0, 0, 0, .inl (nI 1), []) ::
  (69, .iload_n 1, 1, 1, 0, 0, .inl 0, []) ::
  (70, .ishl, 1, 0, 0, 0, .inl 0, []) ::
  (71, .ior, 1, 0, 0, 0, .inl 0, []) ::
  (72, .iaload, 1, 0, 0, 0, .inl 0, []) ::
  (73, .aload_n 0, 1, 0, 0, 0, .inl 0, []) ::
  (74, .getfield 73, 3, 7, 12, 3, .inr (.inr (16, 256, 161)), [490]) ::
  (77, .iload 5, 2, 5, 0, 0, .inl 0, []) ::
  (79, .iaload, 1, 0, 0, 0, .inl 0, []) ::
  (80, .isub, 1, 0, 0, 0, .inl 0, []) ::
  (81, .i2l, 1, 0, 0, 0, .inl 0, []) ::
  (82, .lmul, 1, 0, 0, 0, .inl 0, []) ::
  (83, .ladd, 1, 0, 0, 0, .inl 0, []) ::
  (84, .lstore_n 3, 1, 3, 0, 0, .inl 0, []) :: s_X8_setWorth_85) ls st μ := by rw [s_X8_setWorth_13]
theorem v_X8_setWorth_13 : vc X P m_X8_setWorth h K k_X8_setWorth S (n + 1) 13 ls st μ = if 13 ∈ S then mAt X m_X8_setWorth h K 13 ls st μ else bb X P m_X8_setWorth h K (vc X P m_X8_setWorth h K k_X8_setWorth S n) s_X8_setWorth_13 ls st μ := by rw [vc_s, t_X8_setWorth_13]
theorem w_X8_setWorth_85 : bb X P m_X8_setWorth h K J s_X8_setWorth_85 ls st μ = bb X P m_X8_setWorth h K J ((85, .iinc 5 1, 3, 5, 0, 0, .inl (nI 1), []) ::
  (88, .goto (-75), 3, 13, 0, 0, .inl 0, []) :: s_X8_setWorth_91) ls st μ := by rw [s_X8_setWorth_85]
theorem v_X8_setWorth_85 : vc X P m_X8_setWorth h K k_X8_setWorth S (n + 1) 85 ls st μ = if 85 ∈ S then mAt X m_X8_setWorth h K 85 ls st μ else bb X P m_X8_setWorth h K (vc X P m_X8_setWorth h K k_X8_setWorth S n) s_X8_setWorth_85 ls st μ := by rw [vc_s, t_X8_setWorth_85]
theorem w_X8_setWorth_91 : bb X P m_X8_setWorth h K J s_X8_setWorth_91 ls st μ = bb X P m_X8_setWorth h K J ((91, .getstatic 289, 3, 0, 0, 0, .inr (.inr (20, 9, 0)), [907]) ::
  (94, .aload_n 0, 1, 0, 0, 0, .inl 0, []) ::
  (95, .getfield 84, 3, 7, 15, 0, .inl 0, [493]) ::
  (98, .iaload, 1, 0, 0, 0, .inl 0, []) ::
  (99, .i2l, 1, 0, 0, 0, .inl 0, []) ::
  (100, .lstore 5, 2, 5, 0, 0, .inl 0, []) ::
  (102, .lload_n 3, 1, 3, 0, 0, .inl 0, []) ::
  (103, .invokestatic 292, 3, 0, 1, 13, .inl 0, [909]) ::
  (106, .lload 5, 2, 5, 0, 0, .inl 0, []) ::
  (108, .invokestatic 296, 3, 84, 2, 2, .inl 0, [912]) ::
  (111, .lstore 7, 2, 7, 0, 0, .inl 0, []) ::
  (113, .aload_n 0, 1, 0, 0, 0, .inl 0, []) ::
  (114, .getfield 77, 3, 7, 13, 3, .inr (.inr (17, 8, 162)), [491]) ::
  (117, .iload_n 1, 1, 1, 0, 0, .inl 0, []) ::
  (118, .lload_n 3, 1, 3, 0, 0, .inl 0, []) ::
  (119, .lload 7, 2, 7, 0, 0, .inl 0, []) ::
  (121, .ldiv, 1, 0, 0, 0, .inl 0, []) ::
  (122, .lastore, 1, 0, 0, 0, .inl 0, []) ::
  (123, .aload_n 0, 1, 0, 0, 0, .inl 0, []) ::
  (124, .getfield 81, 3, 7, 14, 3, .inr (.inr (17, 8, 163)), [492]) ::
  (127, .iload_n 1, 1, 1, 0, 0, .inl 0, []) ::
  (128, .lload 5, 2, 5, 0, 0, .inl 0, []) ::
  (130, .lload 7, 2, 7, 0, 0, .inl 0, []) ::
  (132, .ldiv, 1, 0, 0, 0, .inl 0, []) ::
  (133, .lastore, 1, 0, 0, 0, .inl 0, []) ::
  (134, .return_, 1, 0, 0, 0, .inl 0, []) :: []) ls st μ := by rw [s_X8_setWorth_91]
theorem v_X8_setWorth_91 : vc X P m_X8_setWorth h K k_X8_setWorth S (n + 1) 91 ls st μ = if 91 ∈ S then mAt X m_X8_setWorth h K 91 ls st μ else bb X P m_X8_setWorth h K (vc X P m_X8_setWorth h K k_X8_setWorth S n) s_X8_setWorth_91 ls st μ := by rw [vc_s, t_X8_setWorth_91]
end
section
variable {X : mC} {P : mP} {h : Nat} {K : MV → Mem → Prop} {J : mJ} {ls : List (Nat × MV)} {st : List MV} {μ : Mem} {S : List Nat} {n : Nat}
theorem w_X8_sharesOf_0 : bb X P m_X8_sharesOf h K J s_X8_sharesOf_0 ls st μ = bb X P m_X8_sharesOf h K J ((0, .iconst 0, 1, 0, 0, 0, .inl (nI 0), []) ::
  (1, .istore_n 2, 1, 2, 0, 0, .inl 0, []) ::
  (2, .iconst 0, 1, 0, 0, 0, .inl (nI 0), []) ::
  (3, .istore_n 3, 1, 3, 0, 0, .inl 0, []) :: s_X8_sharesOf_4) ls st μ := by rw [s_X8_sharesOf_0]
theorem v_X8_sharesOf_0 : vc X P m_X8_sharesOf h K k_X8_sharesOf S (n + 1) 0 ls st μ = if 0 ∈ S then mAt X m_X8_sharesOf h K 0 ls st μ else bb X P m_X8_sharesOf h K (vc X P m_X8_sharesOf h K k_X8_sharesOf S n) s_X8_sharesOf_0 ls st μ := by rw [vc_s, t_X8_sharesOf_0]
theorem w_X8_sharesOf_4 : bb X P m_X8_sharesOf h K J s_X8_sharesOf_4 ls st μ = bb X P m_X8_sharesOf h K J ((4, .iload_n 3, 1, 3, 0, 0, .inl 0, []) ::
  (5, .aload_n 0, 1, 0, 0, 0, .inl 0, []) ::
  (6, .getfield 19, 3, 7, 1, 3, .inr (.inr (0, 0, 4)), [479]) ::
  (9, .getfield 175, 3, 0, 1, 0, .inl 0, [249]) ::
  (12, .if_icmp .ge 50, 3, 62, 0, 0, .inl 0, []) ::
  (15, .iload_n 1, 1, 1, 0, 0, .inl 0, []) ::
  (16, .iload_n 3, 1, 3, 0, 0, .inl 0, []) ::
  (17, .ishr, 1, 0, 0, 0, .inl 0, []) ::
  (18, .iconst 1, 1, 0, 0, 0, .inl (nI 1), []) ::
  (19, .iand, 1, 0, 0, 0, .inl 0, []) ::
  (20, .iconst 1, 1, 0, 0, 0, .inl (nI 1), []) ::
  (21, .if_icmp .ne 35, 3, 56, 0, 0, .inl 0, []) ::
  (24, .iload_n 2, 1, 2, 0, 0, .inl 0, []) ::
  (25, .aload_n 0, 1, 0, 0, 0, .inl 0, []) ::
  (26, .getfield 12, 3, 7, 0, 3, .inr (.inr (5, 0, 1)), [478]) ::
  (29, .getfield 308, 3, 5, 0, 3, .inr (.inr (16, 940, 1)), [186]) ::
  (32, .iconst 2, 1, 0, 0, 0, .inl (nI 2), []) ::
  (33, .iload_n 3, 1, 3, 0, 0, .inl 0, []) ::
  (34, .imul, 1, 0, 0, 0, .inl 0, []) ::
  (35, .iaload, 1, 0, 0, 0, .inl 0, []) ::
  (36, .sipush 256, 3, 0, 0, 0, .inl (nI 256), []) ::
  (39, .imul, 1, 0, 0, 0, .inl 0, []) ::
  (40, .aload_n 0, 1, 0, 0, 0, .inl 0, []) ::
  (41, .getfield 12, 3, 7, 0, 3, .inr (.inr (5, 0, 1)), [478]) ::
  (44, .getfield 308, 3, 5, 0, 3, .inr (.inr (16, 940, 1)), [186]) ::
  (47, .iconst 2, 1, 0, 0, 0, .inl (nI 2), []) ::
  (48, .iload_n 3, 1, 3, 0, 0, .inl 0, []) ::
  (49, .imul, 1, 0, 0, 0, .inl 0, []) ::
  (50, .iconst 1, 1, 0, 0, 0, .inl (nI 1), []) ::
  (51, .iadd, 1, 0, 0, 0, .inl 0, []) ::
  (52, .iaload, 1, 0, 0, 0, .inl 0, []) ::
  (53, .iadd, 1, 0, 0, 0, .inl 0, []) ::
  (54, .iadd, 1, 0, 0, 0, .inl 0, []) ::
  (55, .istore_n 2, 1, 2, 0, 0, .inl 0, []) :: s_X8_sharesOf_56) ls st μ := by rw [s_X8_sharesOf_4]
theorem v_X8_sharesOf_4 : vc X P m_X8_sharesOf h K k_X8_sharesOf S (n + 1) 4 ls st μ = if 4 ∈ S then mAt X m_X8_sharesOf h K 4 ls st μ else bb X P m_X8_sharesOf h K (vc X P m_X8_sharesOf h K k_X8_sharesOf S n) s_X8_sharesOf_4 ls st μ := by rw [vc_s, t_X8_sharesOf_4]
theorem w_X8_sharesOf_56 : bb X P m_X8_sharesOf h K J s_X8_sharesOf_56 ls st μ = bb X P m_X8_sharesOf h K J ((56, .iinc 3 1, 3, 3, 0, 0, .inl (nI 1), []) ::
  (59, .goto (-55), 3, 4, 0, 0, .inl 0, []) :: s_X8_sharesOf_62) ls st μ := by rw [s_X8_sharesOf_56]
theorem v_X8_sharesOf_56 : vc X P m_X8_sharesOf h K k_X8_sharesOf S (n + 1) 56 ls st μ = if 56 ∈ S then mAt X m_X8_sharesOf h K 56 ls st μ else bb X P m_X8_sharesOf h K (vc X P m_X8_sharesOf h K k_X8_sharesOf S n) s_X8_sharesOf_56 ls st μ := by rw [vc_s, t_X8_sharesOf_56]
theorem w_X8_sharesOf_62 : bb X P m_X8_sharesOf h K J s_X8_sharesOf_62 ls st μ = bb X P m_X8_sharesOf h K J ((62, .iload_n 2, 1, 2, 0, 0, .inl 0, []) ::
  (63, .ireturn, 1, 0, 0, 0, .inl 0, []) :: []) ls st μ := by rw [s_X8_sharesOf_62]
theorem v_X8_sharesOf_62 : vc X P m_X8_sharesOf h K k_X8_sharesOf S (n + 1) 62 ls st μ = if 62 ∈ S then mAt X m_X8_sharesOf h K 62 ls st μ else bb X P m_X8_sharesOf h K (vc X P m_X8_sharesOf h K k_X8_sharesOf S n) s_X8_sharesOf_62 ls st μ := by rw [vc_s, t_X8_sharesOf_62]
end
section
variable {X : mC} {P : mP} {h : Nat} {K : MV → Mem → Prop} {J : mJ} {ls : List (Nat × MV)} {st : List MV} {μ : Mem} {S : List Nat} {n : Nat}
theorem w_X8_steadies_0 : bb X P m_X8_steadies h K J s_X8_steadies_0 ls st μ = bb X P m_X8_steadies h K J ((0, .iload_n 1, 1, 1, 0, 0, .inl 0, []) ::
  (1, .iconst (-1), 1, 0, 0, 0, .inl (-1), []) ::
  (2, .if_icmp .ge 5, 3, 7, 0, 0, .inl 0, []) ::
  (5, .iconst (-1), 1, 0, 0, 0, .inl (-1), []) ::
  (6, .ireturn, 1, 0, 0, 0, .inl 0, []) :: s_X8_steadies_7) ls st μ := by rw [s_X8_steadies_0]
theorem v_X8_steadies_0 : vc X P m_X8_steadies h K k_X8_steadies S (n + 1) 0 ls st μ = if 0 ∈ S then mAt X m_X8_steadies h K 0 ls st μ else bb X P m_X8_steadies h K (vc X P m_X8_steadies h K k_X8_steadies S n) s_X8_steadies_0 ls st μ := by rw [vc_s, t_X8_steadies_0]
theorem w_X8_steadies_7 : bb X P m_X8_steadies h K J s_X8_steadies_7 ls st μ = bb X P m_X8_steadies h K J ((7, .aload_n 0, 1, 0, 0, 0, .inl 0, []) ::
  (8, .getfield 19, 3, 7, 1, 3, .inr (.inr (0, 0, 4)), [479]) ::
  (11, .invokevirtual 181, 3, 2, 1, 1, .inl 0, [728, 0]) ::
  (14, .istore_n 2, 1, 2, 0, 0, .inl 0, []) ::
  (15, .iconst 0, 1, 0, 0, 0, .inl (nI 0), []) ::
  (16, .istore_n 3, 1, 3, 0, 0, .inl 0, []) ::
  (17, .iconst 0, 1, 0, 0, 0, .inl (nI 0), []) ::
  (18, .istore 4, 2, 4, 0, 0, .inl 0, []) :: s_X8_steadies_20) ls st μ := by rw [s_X8_steadies_7]
theorem v_X8_steadies_7 : vc X P m_X8_steadies h K k_X8_steadies S (n + 1) 7 ls st μ = if 7 ∈ S then mAt X m_X8_steadies h K 7 ls st μ else bb X P m_X8_steadies h K (vc X P m_X8_steadies h K k_X8_steadies S n) s_X8_steadies_7 ls st μ := by rw [vc_s, t_X8_steadies_7]
theorem w_X8_steadies_20 : bb X P m_X8_steadies h K J s_X8_steadies_20 ls st μ = bb X P m_X8_steadies h K J ((20, .iload 4, 2, 4, 0, 0, .inl 0, []) ::
  (22, .iload_n 2, 1, 2, 0, 0, .inl 0, []) ::
  (23, .if_icmp .gt 36, 3, 59, 0, 0, .inl 0, []) ::
  (26, .aload_n 0, 1, 0, 0, 0, .inl 0, []) ::
  (27, .getfield 53, 3, 7, 8, 3, .inr (.inr (3, 0, 62)), [486]) ::
  (30, .aload_n 0, 1, 0, 0, 0, .inl 0, []) ::
  (31, .getfield 19, 3, 7, 1, 3, .inr (.inr (0, 0, 4)), [479]) ::
  (34, .iload 4, 2, 4, 0, 0, .inl 0, []) ::
  (36, .invokevirtual 311, 3, 38, 3, 1, .inl 0, [930, 3]) ::
  (39, .ifCond .eq 14, 3, 53, 0, 0, .inl 0, []) ::
  (42, .iload_n 3, 1, 3, 0, 0, .inl 0, []) ::
  (43, .iload_n 1, 1, 1, 0, 0, .inl 0, []) ::
  (44, .if_icmp .ne 6, 3, 50, 0, 0, .inl 0, []) ::
  (47, .iload 4, 2, 4, 0, 0, .inl 0, []) ::
  (49, .ireturn, 1, 0, 0, 0, .inl 0, []) :: s_X8_steadies_50) ls st μ := by rw [s_X8_steadies_20]
theorem v_X8_steadies_20 : vc X P m_X8_steadies h K k_X8_steadies S (n + 1) 20 ls st μ = if 20 ∈ S then mAt X m_X8_steadies h K 20 ls st μ else bb X P m_X8_steadies h K (vc X P m_X8_steadies h K k_X8_steadies S n) s_X8_steadies_20 ls st μ := by rw [vc_s, t_X8_steadies_20]
theorem w_X8_steadies_50 : bb X P m_X8_steadies h K J s_X8_steadies_50 ls st μ = bb X P m_X8_steadies h K J ((50, .iinc 3 1, 3, 3, 0, 0, .inl (nI 1), []) :: s_X8_steadies_53) ls st μ := by rw [s_X8_steadies_50]
theorem v_X8_steadies_50 : vc X P m_X8_steadies h K k_X8_steadies S (n + 1) 50 ls st μ = if 50 ∈ S then mAt X m_X8_steadies h K 50 ls st μ else bb X P m_X8_steadies h K (vc X P m_X8_steadies h K k_X8_steadies S n) s_X8_steadies_50 ls st μ := by rw [vc_s, t_X8_steadies_50]
theorem w_X8_steadies_53 : bb X P m_X8_steadies h K J s_X8_steadies_53 ls st μ = bb X P m_X8_steadies h K J ((53, .iinc 4 1, 3, 4, 0, 0, .inl (nI 1), []) ::
  (56, .goto (-36), 3, 20, 0, 0, .inl 0, []) :: s_X8_steadies_59) ls st μ := by rw [s_X8_steadies_53]
theorem v_X8_steadies_53 : vc X P m_X8_steadies h K k_X8_steadies S (n + 1) 53 ls st μ = if 53 ∈ S then mAt X m_X8_steadies h K 53 ls st μ else bb X P m_X8_steadies h K (vc X P m_X8_steadies h K k_X8_steadies S n) s_X8_steadies_53 ls st μ := by rw [vc_s, t_X8_steadies_53]
theorem w_X8_steadies_59 : bb X P m_X8_steadies h K J s_X8_steadies_59 ls st μ = bb X P m_X8_steadies h K J ((59, .iload_n 1, 1, 1, 0, 0, .inl 0, []) ::
  (60, .iconst (-1), 1, 0, 0, 0, .inl (-1), []) ::
  (61, .if_icmp .ne 7, 3, 68, 0, 0, .inl 0, []) ::
  (64, .iload_n 3, 1, 3, 0, 0, .inl 0, []) ::
  (65, .goto 4, 3, 69, 0, 0, .inl 0, []) :: s_X8_steadies_68) ls st μ := by rw [s_X8_steadies_59]
theorem v_X8_steadies_59 : vc X P m_X8_steadies h K k_X8_steadies S (n + 1) 59 ls st μ = if 59 ∈ S then mAt X m_X8_steadies h K 59 ls st μ else bb X P m_X8_steadies h K (vc X P m_X8_steadies h K k_X8_steadies S n) s_X8_steadies_59 ls st μ := by rw [vc_s, t_X8_steadies_59]
theorem w_X8_steadies_68 : bb X P m_X8_steadies h K J s_X8_steadies_68 ls st μ = bb X P m_X8_steadies h K J ((68, .iconst (-1), 1, 0, 0, 0, .inl (-1), []) :: s_X8_steadies_69) ls st μ := by rw [s_X8_steadies_68]
theorem v_X8_steadies_68 : vc X P m_X8_steadies h K k_X8_steadies S (n + 1) 68 ls st μ = if 68 ∈ S then mAt X m_X8_steadies h K 68 ls st μ else bb X P m_X8_steadies h K (vc X P m_X8_steadies h K k_X8_steadies S n) s_X8_steadies_68 ls st μ := by rw [vc_s, t_X8_steadies_68]
theorem w_X8_steadies_69 : bb X P m_X8_steadies h K J s_X8_steadies_69 ls st μ = bb X P m_X8_steadies h K J ((69, .ireturn, 1, 0, 0, 0, .inl 0, []) :: []) ls st μ := by rw [s_X8_steadies_69]
theorem v_X8_steadies_69 : vc X P m_X8_steadies h K k_X8_steadies S (n + 1) 69 ls st μ = if 69 ∈ S then mAt X m_X8_steadies h K 69 ls st μ else bb X P m_X8_steadies h K (vc X P m_X8_steadies h K k_X8_steadies S n) s_X8_steadies_69 ls st μ := by rw [vc_s, t_X8_steadies_69]
end
section
variable {X : mC} {P : mP} {h : Nat} {K : MV → Mem → Prop} {J : mJ} {ls : List (Nat × MV)} {st : List MV} {μ : Mem} {S : List Nat} {n : Nat}
theorem w_X8_steady_0 : bb X P m_X8_steady h K J s_X8_steady_0 ls st μ = bb X P m_X8_steady h K J ((0, .aload_n 0, 1, 0, 0, 0, .inl 0, []) ::
  (1, .iload_n 1, 1, 1, 0, 0, .inl 0, []) ::
  (2, .invokevirtual 268, 3, 104, 2, 1, .inl 0, [874, 7]) ::
  (5, .ifCond .ne 5, 3, 10, 0, 0, .inl 0, []) ::
  (8, .iconst (-1), 1, 0, 0, 0, .inl (-1), []) ::
  (9, .ireturn, 1, 0, 0, 0, .inl 0, []) :: s_X8_steady_10) ls st μ := by rw [s_X8_steady_0]
theorem v_X8_steady_0 : vc X P m_X8_steady h K k_X8_steady S (n + 1) 0 ls st μ = if 0 ∈ S then mAt X m_X8_steady h K 0 ls st μ else bb X P m_X8_steady h K (vc X P m_X8_steady h K k_X8_steady S n) s_X8_steady_0 ls st μ := by rw [vc_s, t_X8_steady_0]
theorem w_X8_steady_10 : bb X P m_X8_steady h K J s_X8_steady_10 ls st μ = bb X P m_X8_steady h K J ((10, .aload_n 0, 1, 0, 0, 0, .inl 0, []) ::
  (11, .getfield 53, 3, 7, 8, 3, .inr (.inr (3, 0, 62)), [486]) ::
  (14, .aload_n 0, 1, 0, 0, 0, .inl 0, []) ::
  (15, .getfield 19, 3, 7, 1, 3, .inr (.inr (0, 0, 4)), [479]) ::
  (18, .iload_n 1, 1, 1, 0, 0, .inl 0, []) ::
  (19, .invokevirtual 311, 3, 38, 3, 1, .inl 0, [930, 3]) ::
  (22, .ifCond .eq 7, 3, 29, 0, 0, .inl 0, []) ::
  (25, .iconst 1, 1, 0, 0, 0, .inl (nI 1), []) ::
  (26, .goto 4, 3, 30, 0, 0, .inl 0, []) :: s_X8_steady_29) ls st μ := by rw [s_X8_steady_10]
theorem v_X8_steady_10 : vc X P m_X8_steady h K k_X8_steady S (n + 1) 10 ls st μ = if 10 ∈ S then mAt X m_X8_steady h K 10 ls st μ else bb X P m_X8_steady h K (vc X P m_X8_steady h K k_X8_steady S n) s_X8_steady_10 ls st μ := by rw [vc_s, t_X8_steady_10]
theorem w_X8_steady_29 : bb X P m_X8_steady h K J s_X8_steady_29 ls st μ = bb X P m_X8_steady h K J ((29, .iconst 0, 1, 0, 0, 0, .inl (nI 0), []) :: s_X8_steady_30) ls st μ := by rw [s_X8_steady_29]
theorem v_X8_steady_29 : vc X P m_X8_steady h K k_X8_steady S (n + 1) 29 ls st μ = if 29 ∈ S then mAt X m_X8_steady h K 29 ls st μ else bb X P m_X8_steady h K (vc X P m_X8_steady h K k_X8_steady S n) s_X8_steady_29 ls st μ := by rw [vc_s, t_X8_steady_29]
theorem w_X8_steady_30 : bb X P m_X8_steady h K J s_X8_steady_30 ls st μ = bb X P m_X8_steady h K J ((30, .ireturn, 1, 0, 0, 0, .inl 0, []) :: []) ls st μ := by rw [s_X8_steady_30]
theorem v_X8_steady_30 : vc X P m_X8_steady h K k_X8_steady S (n + 1) 30 ls st μ = if 30 ∈ S then mAt X m_X8_steady h K 30 ls st μ else bb X P m_X8_steady h K (vc X P m_X8_steady h K k_X8_steady S n) s_X8_steady_30 ls st μ := by rw [vc_s, t_X8_steady_30]
end
section
variable {X : mC} {P : mP} {h : Nat} {K : MV → Mem → Prop} {J : mJ} {ls : List (Nat × MV)} {st : List MV} {μ : Mem} {S : List Nat} {n : Nat}
theorem w_X8_vat_0 : bb X P m_X8_vat h K J s_X8_vat_0 ls st μ = bb X P m_X8_vat h K J ((0, .aload_n 0, 1, 0, 0, 0, .inl 0, []) ::
  (1, .iload_n 1, 1, 1, 0, 0, .inl 0, []) ::
  (2, .iload_n 2, 1, 2, 0, 0, .inl 0, []) ::
  (3, .invokevirtual 209, 3, 105, 3, 1, .inl 0, [772, 7]) ::
  (6, .ifCond .eq 20, 3, 26, 0, 0, .inl 0, []) ::
  (9, .aload_n 0, 1, 0, 0, 0, .inl 0, []) ::
  (10, .getfield 49, 3, 7, 7, 3, .inr (.inr (3, 0, 50)), [485]) ::
  (13, .getfield 213, 3, 3, 1, 3, .inr (.inr (16, 48, 1)), [383]) ::
  (16, .iload_n 1, 1, 1, 0, 0, .inl 0, []) ::
  (17, .bipush 6, 2, 0, 0, 0, .inl (nI 6), []) ::
  (19, .imul, 1, 0, 0, 0, .inl 0, []) ::
  (20, .iload_n 2, 1, 2, 0, 0, .inl 0, []) ::
  (21, .iadd, 1, 0, 0, 0, .inl 0, []) ::
  (22, .iaload, 1, 0, 0, 0, .inl 0, []) ::
  (23, .goto 4, 3, 27, 0, 0, .inl 0, []) :: s_X8_vat_26) ls st μ := by rw [s_X8_vat_0]
theorem v_X8_vat_0 : vc X P m_X8_vat h K k_X8_vat S (n + 1) 0 ls st μ = if 0 ∈ S then mAt X m_X8_vat h K 0 ls st μ else bb X P m_X8_vat h K (vc X P m_X8_vat h K k_X8_vat S n) s_X8_vat_0 ls st μ := by rw [vc_s, t_X8_vat_0]
theorem w_X8_vat_26 : bb X P m_X8_vat h K J s_X8_vat_26 ls st μ = bb X P m_X8_vat h K J ((26, .iconst (-1), 1, 0, 0, 0, .inl (-1), []) :: s_X8_vat_27) ls st μ := by rw [s_X8_vat_26]
theorem v_X8_vat_26 : vc X P m_X8_vat h K k_X8_vat S (n + 1) 26 ls st μ = if 26 ∈ S then mAt X m_X8_vat h K 26 ls st μ else bb X P m_X8_vat h K (vc X P m_X8_vat h K k_X8_vat S n) s_X8_vat_26 ls st μ := by rw [vc_s, t_X8_vat_26]
theorem w_X8_vat_27 : bb X P m_X8_vat h K J s_X8_vat_27 ls st μ = bb X P m_X8_vat h K J ((27, .ireturn, 1, 0, 0, 0, .inl 0, []) :: []) ls st μ := by rw [s_X8_vat_27]
theorem v_X8_vat_27 : vc X P m_X8_vat h K k_X8_vat S (n + 1) 27 ls st μ = if 27 ∈ S then mAt X m_X8_vat h K 27 ls st μ else bb X P m_X8_vat h K (vc X P m_X8_vat h K k_X8_vat S n) s_X8_vat_27 ls st μ := by rw [vc_s, t_X8_vat_27]
end
section
variable {X : mC} {P : mP} {h : Nat} {K : MV → Mem → Prop} {J : mJ} {ls : List (Nat × MV)} {st : List MV} {μ : Mem} {S : List Nat} {n : Nat}
theorem w_X8_went_0 : bb X P m_X8_went h K J s_X8_went_0 ls st μ = bb X P m_X8_went h K J ((0, .aload_n 0, 1, 0, 0, 0, .inl 0, []) ::
  (1, .invokevirtual 188, 3, 103, 1, 1, .inl 0, [712, 7]) ::
  (4, .ifCond .eq 11, 3, 15, 0, 0, .inl 0, []) ::
  (7, .aload_n 0, 1, 0, 0, 0, .inl 0, []) ::
  (8, .iload_n 1, 1, 1, 0, 0, .inl 0, []) ::
  (9, .invokevirtual 130, 3, 106, 2, 1, .inl 0, [682, 7]) ::
  (12, .ifCond .ne 5, 3, 17, 0, 0, .inl 0, []) :: s_X8_went_15) ls st μ := by rw [s_X8_went_0]
theorem v_X8_went_0 : vc X P m_X8_went h K k_X8_went S (n + 1) 0 ls st μ = if 0 ∈ S then mAt X m_X8_went h K 0 ls st μ else bb X P m_X8_went h K (vc X P m_X8_went h K k_X8_went S n) s_X8_went_0 ls st μ := by rw [vc_s, t_X8_went_0]
theorem w_X8_went_15 : bb X P m_X8_went h K J s_X8_went_15 ls st μ = bb X P m_X8_went h K J ((15, .iconst (-1), 1, 0, 0, 0, .inl (-1), []) ::
  (16, .ireturn, 1, 0, 0, 0, .inl 0, []) :: s_X8_went_17) ls st μ := by rw [s_X8_went_15]
theorem v_X8_went_15 : vc X P m_X8_went h K k_X8_went S (n + 1) 15 ls st μ = if 15 ∈ S then mAt X m_X8_went h K 15 ls st μ else bb X P m_X8_went h K (vc X P m_X8_went h K k_X8_went S n) s_X8_went_15 ls st μ := by rw [vc_s, t_X8_went_15]
theorem w_X8_went_17 : bb X P m_X8_went h K J s_X8_went_17 ls st μ = bb X P m_X8_went h K J ((17, .iload_n 2, 1, 2, 0, 0, .inl 0, []) ::
  (18, .tableswitch 123 0 5 #[38, 48, 66, 86, 96, 106], 38, 141, 0, 0, .inl 0, [56, 66, 84, 104, 114, 124]) :: s_X8_went_56) ls st μ := by rw [s_X8_went_17]
theorem v_X8_went_17 : vc X P m_X8_went h K k_X8_went S (n + 1) 17 ls st μ = if 17 ∈ S then mAt X m_X8_went h K 17 ls st μ else bb X P m_X8_went h K (vc X P m_X8_went h K k_X8_went S n) s_X8_went_17 ls st μ := by rw [vc_s, t_X8_went_17]
theorem w_X8_went_56 : bb X P m_X8_went h K J s_X8_went_56 ls st μ = bb X P m_X8_went h K J ((56, .aload_n 0, 1, 0, 0, 0, .inl 0, []) ::
  (57, .getfield 49, 3, 7, 7, 3, .inr (.inr (3, 0, 50)), [485]) ::
  (60, .getfield 216, 3, 3, 8, 3, .inr (.inr (16, 8, 8)), [395]) ::
  (63, .iload_n 1, 1, 1, 0, 0, .inl 0, []) ::
  (64, .iaload, 1, 0, 0, 0, .inl 0, []) ::
  (65, .ireturn, 1, 0, 0, 0, .inl 0, []) :: s_X8_went_66) ls st μ := by rw [s_X8_went_56]
theorem v_X8_went_56 : vc X P m_X8_went h K k_X8_went S (n + 1) 56 ls st μ = if 56 ∈ S then mAt X m_X8_went h K 56 ls st μ else bb X P m_X8_went h K (vc X P m_X8_went h K k_X8_went S n) s_X8_went_56 ls st μ := by rw [vc_s, t_X8_went_56]
theorem w_X8_went_66 : bb X P m_X8_went h K J s_X8_went_66 ls st μ = bb X P m_X8_went h K J ((66, .aload_n 0, 1, 0, 0, 0, .inl 0, []) ::
  (67, .getfield 49, 3, 7, 7, 3, .inr (.inr (3, 0, 50)), [485]) ::
  (70, .getfield 123, 3, 3, 0, 0, .inl 0, [379]) ::
  (73, .aload_n 0, 1, 0, 0, 0, .inl 0, []) ::
  (74, .getfield 49, 3, 7, 7, 3, .inr (.inr (3, 0, 50)), [485]) ::
  (77, .getfield 216, 3, 3, 8, 3, .inr (.inr (16, 8, 8)), [395]) ::
  (80, .iload_n 1, 1, 1, 0, 0, .inl 0, []) ::
  (81, .iaload, 1, 0, 0, 0, .inl 0, []) ::
  (82, .isub, 1, 0, 0, 0, .inl 0, []) ::
  (83, .ireturn, 1, 0, 0, 0, .inl 0, []) :: s_X8_went_84) ls st μ := by rw [s_X8_went_66]
theorem v_X8_went_66 : vc X P m_X8_went h K k_X8_went S (n + 1) 66 ls st μ = if 66 ∈ S then mAt X m_X8_went h K 66 ls st μ else bb X P m_X8_went h K (vc X P m_X8_went h K k_X8_went S n) s_X8_went_66 ls st μ := by rw [vc_s, t_X8_went_66]
theorem w_X8_went_84 : bb X P m_X8_went h K J s_X8_went_84 ls st μ = bb X P m_X8_went h K J ((84, .aload_n 0, 1, 0, 0, 0, .inl 0, []) ::
  (85, .getfield 49, 3, 7, 7, 3, .inr (.inr (3, 0, 50)), [485]) ::
  (88, .getfield 216, 3, 3, 8, 3, .inr (.inr (16, 8, 8)), [395]) ::
  (91, .iload_n 1, 1, 1, 0, 0, .inl 0, []) ::
  (92, .iaload, 1, 0, 0, 0, .inl 0, []) ::
  (93, .aload_n 0, 1, 0, 0, 0, .inl 0, []) ::
  (94, .getfield 19, 3, 7, 1, 3, .inr (.inr (0, 0, 4)), [479]) ::
  (97, .getfield 147, 3, 0, 9, 3, .inr (.inr (16, 8, 6)), [268]) ::
  (100, .iload_n 1, 1, 1, 0, 0, .inl 0, []) ::
  (101, .iaload, 1, 0, 0, 0, .inl 0, []) ::
  (102, .imul, 1, 0, 0, 0, .inl 0, []) ::
  (103, .ireturn, 1, 0, 0, 0, .inl 0, []) :: s_X8_went_104) ls st μ := by rw [s_X8_went_84]
theorem v_X8_went_84 : vc X P m_X8_went h K k_X8_went S (n + 1) 84 ls st μ = if 84 ∈ S then mAt X m_X8_went h K 84 ls st μ else bb X P m_X8_went h K (vc X P m_X8_went h K k_X8_went S n) s_X8_went_84 ls st μ := by rw [vc_s, t_X8_went_84]
theorem w_X8_went_104 : bb X P m_X8_went h K J s_X8_went_104 ls st μ = bb X P m_X8_went h K J ((104, .aload_n 0, 1, 0, 0, 0, .inl 0, []) ::
  (105, .getfield 49, 3, 7, 7, 3, .inr (.inr (3, 0, 50)), [485]) ::
  (108, .getfield 219, 3, 3, 10, 3, .inr (.inr (16, 8, 10)), [400]) ::
  (111, .iload_n 1, 1, 1, 0, 0, .inl 0, []) ::
  (112, .iaload, 1, 0, 0, 0, .inl 0, []) ::
  (113, .ireturn, 1, 0, 0, 0, .inl 0, []) :: s_X8_went_114) ls st μ := by rw [s_X8_went_104]
theorem v_X8_went_104 : vc X P m_X8_went h K k_X8_went S (n + 1) 104 ls st μ = if 104 ∈ S then mAt X m_X8_went h K 104 ls st μ else bb X P m_X8_went h K (vc X P m_X8_went h K k_X8_went S n) s_X8_went_104 ls st μ := by rw [vc_s, t_X8_went_104]
theorem w_X8_went_114 : bb X P m_X8_went h K J s_X8_went_114 ls st μ = bb X P m_X8_went h K J ((114, .aload_n 0, 1, 0, 0, 0, .inl 0, []) ::
  (115, .getfield 49, 3, 7, 7, 3, .inr (.inr (3, 0, 50)), [485]) ::
  (118, .getfield 222, 3, 3, 9, 3, .inr (.inr (16, 8, 9)), [397]) ::
  (121, .iload_n 1, 1, 1, 0, 0, .inl 0, []) ::
  (122, .iaload, 1, 0, 0, 0, .inl 0, []) ::
  (123, .ireturn, 1, 0, 0, 0, .inl 0, []) :: s_X8_went_124) ls st μ := by rw [s_X8_went_114]
theorem v_X8_went_114 : vc X P m_X8_went h K k_X8_went S (n + 1) 114 ls st μ = if 114 ∈ S then mAt X m_X8_went h K 114 ls st μ else bb X P m_X8_went h K (vc X P m_X8_went h K k_X8_went S n) s_X8_went_114 ls st μ := by rw [vc_s, t_X8_went_114]
theorem w_X8_went_124 : bb X P m_X8_went h K J s_X8_went_124 ls st μ = bb X P m_X8_went h K J ((124, .aload_n 0, 1, 0, 0, 0, .inl 0, []) ::
  (125, .getfield 49, 3, 7, 7, 3, .inr (.inr (3, 0, 50)), [485]) ::
  (128, .iload_n 1, 1, 1, 0, 0, .inl 0, []) ::
  (129, .invokevirtual 225, 3, 48, 2, 1, .inl 0, [780, 3]) ::
  (132, .ifCond .eq 7, 3, 139, 0, 0, .inl 0, []) ::
  (135, .iconst 1, 1, 0, 0, 0, .inl (nI 1), []) ::
  (136, .goto 4, 3, 140, 0, 0, .inl 0, []) :: s_X8_went_139) ls st μ := by rw [s_X8_went_124]
theorem v_X8_went_124 : vc X P m_X8_went h K k_X8_went S (n + 1) 124 ls st μ = if 124 ∈ S then mAt X m_X8_went h K 124 ls st μ else bb X P m_X8_went h K (vc X P m_X8_went h K k_X8_went S n) s_X8_went_124 ls st μ := by rw [vc_s, t_X8_went_124]
theorem w_X8_went_139 : bb X P m_X8_went h K J s_X8_went_139 ls st μ = bb X P m_X8_went h K J ((139, .iconst 0, 1, 0, 0, 0, .inl (nI 0), []) :: s_X8_went_140) ls st μ := by rw [s_X8_went_139]
theorem v_X8_went_139 : vc X P m_X8_went h K k_X8_went S (n + 1) 139 ls st μ = if 139 ∈ S then mAt X m_X8_went h K 139 ls st μ else bb X P m_X8_went h K (vc X P m_X8_went h K k_X8_went S n) s_X8_went_139 ls st μ := by rw [vc_s, t_X8_went_139]
theorem w_X8_went_140 : bb X P m_X8_went h K J s_X8_went_140 ls st μ = bb X P m_X8_went h K J ((140, .ireturn, 1, 0, 0, 0, .inl 0, []) :: s_X8_went_141) ls st μ := by rw [s_X8_went_140]
theorem v_X8_went_140 : vc X P m_X8_went h K k_X8_went S (n + 1) 140 ls st μ = if 140 ∈ S then mAt X m_X8_went h K 140 ls st μ else bb X P m_X8_went h K (vc X P m_X8_went h K k_X8_went S n) s_X8_went_140 ls st μ := by rw [vc_s, t_X8_went_140]
theorem w_X8_went_141 : bb X P m_X8_went h K J s_X8_went_141 ls st μ = bb X P m_X8_went h K J ((141, .iconst (-1), 1, 0, 0, 0, .inl (-1), []) ::
  (142, .ireturn, 1, 0, 0, 0, .inl 0, []) :: []) ls st μ := by rw [s_X8_went_141]
theorem v_X8_went_141 : vc X P m_X8_went h K k_X8_went S (n + 1) 141 ls st μ = if 141 ∈ S then mAt X m_X8_went h K 141 ls st μ else bb X P m_X8_went h K (vc X P m_X8_went h K k_X8_went S n) s_X8_went_141 ls st μ := by rw [vc_s, t_X8_went_141]
end
section
variable {X : mC} {P : mP} {h : Nat} {K : MV → Mem → Prop} {J : mJ} {ls : List (Nat × MV)} {st : List MV} {μ : Mem} {S : List Nat} {n : Nat}
theorem w_X8_wider_0 : bb X P m_X8_wider h K J s_X8_wider_0 ls st μ = bb X P m_X8_wider h K J ((0, .iload_n 1, 1, 1, 0, 0, .inl 0, []) ::
  (1, .iconst 1, 1, 0, 0, 0, .inl (nI 1), []) ::
  (2, .if_icmp .lt 16, 3, 18, 0, 0, .inl 0, []) ::
  (5, .iload_n 1, 1, 1, 0, 0, .inl 0, []) ::
  (6, .bipush 99, 2, 0, 0, 0, .inl (nI 99), []) ::
  (8, .if_icmp .gt 10, 3, 18, 0, 0, .inl 0, []) ::
  (11, .iload_n 2, 1, 2, 0, 0, .inl 0, []) ::
  (12, .invokestatic 271, 3, 76, 1, 1, .inl 0, [878]) ::
  (15, .ifCond .ne 5, 3, 20, 0, 0, .inl 0, []) :: s_X8_wider_18) ls st μ := by rw [s_X8_wider_0]
theorem v_X8_wider_0 : vc X P m_X8_wider h K k_X8_wider S (n + 1) 0 ls st μ = if 0 ∈ S then mAt X m_X8_wider h K 0 ls st μ else bb X P m_X8_wider h K (vc X P m_X8_wider h K k_X8_wider S n) s_X8_wider_0 ls st μ := by rw [vc_s, t_X8_wider_0]
theorem w_X8_wider_18 : bb X P m_X8_wider h K J s_X8_wider_18 ls st μ = bb X P m_X8_wider h K J ((18, .iconst (-1), 1, 0, 0, 0, .inl (-1), []) ::
  (19, .ireturn, 1, 0, 0, 0, .inl 0, []) :: s_X8_wider_20) ls st μ := by rw [s_X8_wider_18]
theorem v_X8_wider_18 : vc X P m_X8_wider h K k_X8_wider S (n + 1) 18 ls st μ = if 18 ∈ S then mAt X m_X8_wider h K 18 ls st μ else bb X P m_X8_wider h K (vc X P m_X8_wider h K k_X8_wider S n) s_X8_wider_18 ls st μ := by rw [vc_s, t_X8_wider_18]
theorem w_X8_wider_20 : bb X P m_X8_wider h K J s_X8_wider_20 ls st μ = bb X P m_X8_wider h K J ((20, .aload_n 0, 1, 0, 0, 0, .inl 0, []) ::
  (21, .getfield 23, 3, 7, 2, 3, .inr (.inr (0, 0, 16)), [480]) ::
  (24, .aload_n 0, 1, 0, 0, 0, .inl 0, []) ::
  (25, .getfield 19, 3, 7, 1, 3, .inr (.inr (0, 0, 4)), [479]) ::
  (28, .invokevirtual 115, 3, 4, 2, 0, .inl 0, [659, 0]) ::
  (31, .iconst (-1), 1, 0, 0, 0, .inl (-1), []) ::
  (32, .istore_n 3, 1, 3, 0, 0, .inl 0, []) ::
  (33, .iconst (-1), 1, 0, 0, 0, .inl (-1), []) ::
  (34, .istore 4, 2, 4, 0, 0, .inl 0, []) ::
  (36, .iconst 0, 1, 0, 0, 0, .inl (nI 0), []) ::
  (37, .istore 5, 2, 5, 0, 0, .inl 0, []) :: s_X8_wider_39) ls st μ := by rw [s_X8_wider_20]
theorem v_X8_wider_20 : vc X P m_X8_wider h K k_X8_wider S (n + 1) 20 ls st μ = if 20 ∈ S then mAt X m_X8_wider h K 20 ls st μ else bb X P m_X8_wider h K (vc X P m_X8_wider h K k_X8_wider S n) s_X8_wider_20 ls st μ := by rw [vc_s, t_X8_wider_20]
theorem w_X8_wider_39 : bb X P m_X8_wider h K J s_X8_wider_39 ls st μ = bb X P m_X8_wider h K J ((39, .iload 5, 2, 5, 0, 0, .inl 0, []) ::
  (41, .aload_n 0, 1, 0, 0, 0, .inl 0, []) ::
  (42, .getfield 19, 3, 7, 1, 3, .inr (.inr (0, 0, 4)), [479]) ::
  (45, .getfield 175, 3, 0, 1, 0, .inl 0, [249]) ::
  (48, .if_icmp .ge 133, 3, 181, 0, 0, .inl 0, []) ::
  (51, .iconst 0, 1, 0, 0, 0, .inl (nI 0), []) ::
  (52, .istore 6, 2, 6, 0, 0, .inl 0, []) :: s_X8_wider_54) ls st μ := by rw [s_X8_wider_39]
theorem v_X8_wider_39 : vc X P m_X8_wider h K k_X8_wider S (n + 1) 39 ls st μ = if 39 ∈ S then mAt X m_X8_wider h K 39 ls st μ else bb X P m_X8_wider h K (vc X P m_X8_wider h K k_X8_wider S n) s_X8_wider_39 ls st μ := by rw [vc_s, t_X8_wider_39]
theorem w_X8_wider_54 : bb X P m_X8_wider h K J s_X8_wider_54 ls st μ = bb X P m_X8_wider h K J ((54, .iload 6, 2, 6, 0, 0, .inl 0, []) ::
  (56, .aload_n 0, 1, 0, 0, 0, .inl 0, []) ::
  (57, .getfield 19, 3, 7, 1, 3, .inr (.inr (0, 0, 4)), [479]) ::
  (60, .getfield 178, 3, 0, 0, 0, .inl 0, [246]) ::
  (63, .if_icmp .ge 112, 3, 175, 0, 0, .inl 0, []) ::
  (66, .iload 5, 2, 5, 0, 0, .inl 0, []) ::
  (68, .bipush 6, 2, 0, 0, 0, .inl (nI 6), []) ::
  (70, .imul, 1, 0, 0, 0, .inl 0, []) ::
  (71, .iload 6, 2, 6, 0, 0, .inl 0, []) ::
  (73, .iadd, 1, 0, 0, 0, .inl 0, []) ::
  (74, .istore 7, 2, 7, 0, 0, .inl 0, []) ::
  (76, .aload_n 0, 1, 0, 0, 0, .inl 0, []) ::
  (77, .getfield 19, 3, 7, 1, 3, .inr (.inr (0, 0, 4)), [479]) ::
  (80, .getfield 150, 3, 0, 10, 3, .inr (.inr (16, 48, 7)), [274]) ::
  (83, .iload 7, 2, 7, 0, 0, .inl 0, []) ::
  (85, .iaload, 1, 0, 0, 0, .inl 0, []) ::
  (86, .ifCond .le 83, 3, 169, 0, 0, .inl 0, []) ::
  (89, .aload_n 0, 1, 0, 0, 0, .inl 0, []) ::
  (90, .getfield 23, 3, 7, 2, 3, .inr (.inr (0, 0, 16)), [480]) ::
  (93, .getfield 166, 3, 0, 11, 3, .inr (.inr (16, 48, 8)), [278]) ::
  (96, .iload 7, 2, 7, 0, 0, .inl 0, []) ::
  (98, .aload_n 0, 1, 0, 0, 0, .inl 0, []) ::
  (99, .getfield 19, 3, 7, 1, 3, .inr (.inr (0, 0, 4)), [479]) ::
  (102, .getfield 166, 3, 0, 11, 3, .inr (.inr (16, 48, 8)), [278]) ::
  (105, .iload 7, 2, 7, 0, 0, .inl 0, []) ::
  (107, .iaload, 1, 0, 0, 0, .inl 0, []) ::
  (108, .iload_n 1, 1, 1, 0, 0, .inl 0, []) ::
  (109, .iadd, 1, 0, 0, 0, .inl 0, []) ::
  (110, .iastore, 1, 0, 0, 0, .inl 0, []) ::
  (111, .aload_n 0, 1, 0, 0, 0, .inl 0, []) ::
  (112, .aload_n 0, 1, 0, 0, 0, .inl 0, []) ::
  (113, .getfield 23, 3, 7, 2, 3, .inr (.inr (0, 0, 16)), [480]) ::
  (116, .aload_n 0, 1, 0, 0, 0, .inl 0, []) ::
  (117, .getfield 19, 3, 7, 1, 3, .inr (.inr (0, 0, 4)), [479]) ::
  (120, .invokevirtual 181, 3, 2, 1, 1, .inl 0, [728, 0]) ::
  (123, .iload_n 2, 1, 2, 0, 0, .inl 0, []) ::
  (124, .invokevirtual 274, 3, 114, 4, 1, .inl 0, [881, 7]) ::
  (127, .istore 8, 2, 8, 0, 0, .inl 0, []) ::
  (129, .aload_n 0, 1, 0, 0, 0, .inl 0, []) ::
  (130, .getfield 23, 3, 7, 2, 3, .inr (.inr (0, 0, 16)), [480]) ::
  (133, .getfield 166, 3, 0, 11, 3, .inr (.inr (16, 48, 8)), [278]) ::
  (136, .iload 7, 2, 7, 0, 0, .inl 0, []) ::
  (138, .aload_n 0, 1, 0, 0, 0, .inl 0, []) ::
  (139, .getfield 19, 3, 7, 1, 3, .inr (.inr (0, 0, 4)), [479]) ::
  (142, .getfield 166, 3, 0, 11, 3, .inr (.inr (16, 48, 8)), [278]) ::
  (145, .iload 7, 2, 7, 0, 0, .inl 0, []) ::
  (147, .iaload, 1, 0, 0, 0, .inl 0, []) ::
  (148, .iastore, 1, 0, 0, 0, .inl 0, []) ::
  (149, .iload 8, 2, 8, 0, 0, .inl 0, []) ::
  (151, .iload 4, 2, 4, 0, 0, .inl 0, []) ::
  (153, .if_icmp .le 16, 3, 169, 0, 0, .inl 0, []) ::
  (156, .iload 8, 2, 8, 0, 0, .inl 0, []) ::
  (158, .istore 4, 2, 4, 0, 0, .inl 0, []) ::
  (160, .bipush 10, 2, 0, 0, 0, .inl (nI 10), []) ::
  (162, .iload 5, 2, 5, 0, 0, .inl 0, []) ::
  (164, .imul, 1, 0, 0, 0, .inl 0, []) ::
  (165, .iload 6, 2, 6, 0, 0, .inl 0, []) ::
  (167, .iadd, 1, 0, 0, 0, .inl 0, []) ::
  (168, .istore_n 3, 1, 3, 0, 0, .inl 0, []) :: s_X8_wider_169) ls st μ := by rw [s_X8_wider_54]
theorem v_X8_wider_54 : vc X P m_X8_wider h K k_X8_wider S (n + 1) 54 ls st μ = if 54 ∈ S then mAt X m_X8_wider h K 54 ls st μ else bb X P m_X8_wider h K (vc X P m_X8_wider h K k_X8_wider S n) s_X8_wider_54 ls st μ := by rw [vc_s, t_X8_wider_54]
theorem w_X8_wider_169 : bb X P m_X8_wider h K J s_X8_wider_169 ls st μ = bb X P m_X8_wider h K J ((169, .iinc 6 1, 3, 6, 0, 0, .inl (nI 1), []) ::
  (172, .goto (-118), 3, 54, 0, 0, .inl 0, []) :: s_X8_wider_175) ls st μ := by rw [s_X8_wider_169]
theorem v_X8_wider_169 : vc X P m_X8_wider h K k_X8_wider S (n + 1) 169 ls st μ = if 169 ∈ S then mAt X m_X8_wider h K 169 ls st μ else bb X P m_X8_wider h K (vc X P m_X8_wider h K k_X8_wider S n) s_X8_wider_169 ls st μ := by rw [vc_s, t_X8_wider_169]
theorem w_X8_wider_175 : bb X P m_X8_wider h K J s_X8_wider_175 ls st μ = bb X P m_X8_wider h K J ((175, .iinc 5 1, 3, 5, 0, 0, .inl (nI 1), []) ::
  (178, .goto (-139), 3, 39, 0, 0, .inl 0, []) :: s_X8_wider_181) ls st μ := by rw [s_X8_wider_175]
theorem v_X8_wider_175 : vc X P m_X8_wider h K k_X8_wider S (n + 1) 175 ls st μ = if 175 ∈ S then mAt X m_X8_wider h K 175 ls st μ else bb X P m_X8_wider h K (vc X P m_X8_wider h K k_X8_wider S n) s_X8_wider_175 ls st μ := by rw [vc_s, t_X8_wider_175]
theorem w_X8_wider_181 : bb X P m_X8_wider h K J s_X8_wider_181 ls st μ = bb X P m_X8_wider h K J ((181, .iload_n 3, 1, 3, 0, 0, .inl 0, []) ::
  (182, .ireturn, 1, 0, 0, 0, .inl 0, []) :: []) ls st μ := by rw [s_X8_wider_181]
theorem v_X8_wider_181 : vc X P m_X8_wider h K k_X8_wider S (n + 1) 181 ls st μ = if 181 ∈ S then mAt X m_X8_wider h K 181 ls st μ else bb X P m_X8_wider h K (vc X P m_X8_wider h K k_X8_wider S n) s_X8_wider_181 ls st μ := by rw [vc_s, t_X8_wider_181]
end
section
variable {X : mC} {P : mP} {h : Nat} {K : MV → Mem → Prop} {J : mJ} {ls : List (Nat × MV)} {st : List MV} {μ : Mem} {S : List Nat} {n : Nat}
theorem w_X8_work_0 : bb X P m_X8_work h K J s_X8_work_0 ls st μ = bb X P m_X8_work h K J ((0, .aload_n 0, 1, 0, 0, 0, .inl 0, []) ::
  (1, .iload_n 1, 1, 1, 0, 0, .inl 0, []) ::
  (2, .invokevirtual 130, 3, 106, 2, 1, .inl 0, [682, 7]) ::
  (5, .ifCond .eq 12, 3, 17, 0, 0, .inl 0, []) ::
  (8, .iload_n 2, 1, 2, 0, 0, .inl 0, []) ::
  (9, .ifCond .lt 8, 3, 17, 0, 0, .inl 0, []) ::
  (12, .iload_n 2, 1, 2, 0, 0, .inl 0, []) ::
  (13, .iconst 5, 1, 0, 0, 0, .inl (nI 5), []) ::
  (14, .if_icmp .le 13, 3, 27, 0, 0, .inl 0, []) :: s_X8_work_17) ls st μ := by rw [s_X8_work_0]
theorem v_X8_work_0 : vc X P m_X8_work h K k_X8_work S (n + 1) 0 ls st μ = if 0 ∈ S then mAt X m_X8_work h K 0 ls st μ else bb X P m_X8_work h K (vc X P m_X8_work h K k_X8_work S n) s_X8_work_0 ls st μ := by rw [vc_s, t_X8_work_0]
theorem w_X8_work_17 : bb X P m_X8_work h K J s_X8_work_17 ls st μ = bb X P m_X8_work h K J ((17, .new 134, 3, 0, 0, 0, .inl 0, []) ::
  (20, .dup, 1, 0, 0, 0, .inl 0, []) ::
  (21, .ldc 136, 2, 0, 0, 0, .inr (.inr (99, 0, 0)), []) ::
  (23, .invokespecial 138, 3, 0, 0, 0, .inl 0, []) ::
  (26, .athrow, 1, 0, 0, 0, .inl 0, []) :: s_X8_work_27) ls st μ := by rw [s_X8_work_17]
theorem v_X8_work_17 : vc X P m_X8_work h K k_X8_work S (n + 1) 17 ls st μ = if 17 ∈ S then mAt X m_X8_work h K 17 ls st μ else bb X P m_X8_work h K (vc X P m_X8_work h K k_X8_work S n) s_X8_work_17 ls st μ := by rw [vc_s, t_X8_work_17]
theorem w_X8_work_27 : bb X P m_X8_work h K J s_X8_work_27 ls st μ = bb X P m_X8_work h K J ((27, .iload_n 2, 1, 2, 0, 0, .inl 0, []) ::
  (28, .tableswitch 90 0 4 #[36, 46, 56, 66, 78], 36, 118, 0, 0, .inl 0, [64, 74, 84, 94, 106]) :: s_X8_work_64) ls st μ := by rw [s_X8_work_27]
theorem v_X8_work_27 : vc X P m_X8_work h K k_X8_work S (n + 1) 27 ls st μ = if 27 ∈ S then mAt X m_X8_work h K 27 ls st μ else bb X P m_X8_work h K (vc X P m_X8_work h K k_X8_work S n) s_X8_work_27 ls st μ := by rw [vc_s, t_X8_work_27]
theorem w_X8_work_64 : bb X P m_X8_work h K J s_X8_work_64 ls st μ = bb X P m_X8_work h K J ((64, .aload_n 0, 1, 0, 0, 0, .inl 0, []) ::
  (65, .getfield 19, 3, 7, 1, 3, .inr (.inr (0, 0, 4)), [479]) ::
  (68, .getfield 141, 3, 0, 7, 3, .inr (.inr (16, 8, 4)), [262]) ::
  (71, .iload_n 1, 1, 1, 0, 0, .inl 0, []) ::
  (72, .iaload, 1, 0, 0, 0, .inl 0, []) ::
  (73, .ireturn, 1, 0, 0, 0, .inl 0, []) :: s_X8_work_74) ls st μ := by rw [s_X8_work_64]
theorem v_X8_work_64 : vc X P m_X8_work h K k_X8_work S (n + 1) 64 ls st μ = if 64 ∈ S then mAt X m_X8_work h K 64 ls st μ else bb X P m_X8_work h K (vc X P m_X8_work h K k_X8_work S n) s_X8_work_64 ls st μ := by rw [vc_s, t_X8_work_64]
theorem w_X8_work_74 : bb X P m_X8_work h K J s_X8_work_74 ls st μ = bb X P m_X8_work h K J ((74, .aload_n 0, 1, 0, 0, 0, .inl 0, []) ::
  (75, .getfield 19, 3, 7, 1, 3, .inr (.inr (0, 0, 4)), [479]) ::
  (78, .getfield 144, 3, 0, 8, 3, .inr (.inr (16, 8, 5)), [265]) ::
  (81, .iload_n 1, 1, 1, 0, 0, .inl 0, []) ::
  (82, .iaload, 1, 0, 0, 0, .inl 0, []) ::
  (83, .ireturn, 1, 0, 0, 0, .inl 0, []) :: s_X8_work_84) ls st μ := by rw [s_X8_work_74]
theorem v_X8_work_74 : vc X P m_X8_work h K k_X8_work S (n + 1) 74 ls st μ = if 74 ∈ S then mAt X m_X8_work h K 74 ls st μ else bb X P m_X8_work h K (vc X P m_X8_work h K k_X8_work S n) s_X8_work_74 ls st μ := by rw [vc_s, t_X8_work_74]
theorem w_X8_work_84 : bb X P m_X8_work h K J s_X8_work_84 ls st μ = bb X P m_X8_work h K J ((84, .aload_n 0, 1, 0, 0, 0, .inl 0, []) ::
  (85, .getfield 19, 3, 7, 1, 3, .inr (.inr (0, 0, 4)), [479]) ::
  (88, .getfield 147, 3, 0, 9, 3, .inr (.inr (16, 8, 6)), [268]) ::
  (91, .iload_n 1, 1, 1, 0, 0, .inl 0, []) ::
  (92, .iaload, 1, 0, 0, 0, .inl 0, []) ::
  (93, .ireturn, 1, 0, 0, 0, .inl 0, []) :: s_X8_work_94) ls st μ := by rw [s_X8_work_84]
theorem v_X8_work_84 : vc X P m_X8_work h K k_X8_work S (n + 1) 84 ls st μ = if 84 ∈ S then mAt X m_X8_work h K 84 ls st μ else bb X P m_X8_work h K (vc X P m_X8_work h K k_X8_work S n) s_X8_work_84 ls st μ := by rw [vc_s, t_X8_work_84]
theorem w_X8_work_94 : bb X P m_X8_work h K J s_X8_work_94 ls st μ = bb X P m_X8_work h K J ((94, .aload_n 0, 1, 0, 0, 0, .inl 0, []) ::
  (95, .getfield 19, 3, 7, 1, 3, .inr (.inr (0, 0, 4)), [479]) ::
  (98, .getfield 150, 3, 0, 10, 3, .inr (.inr (16, 48, 7)), [274]) ::
  (101, .iload_n 1, 1, 1, 0, 0, .inl 0, []) ::
  (102, .invokestatic 153, 3, 97, 2, 1, .inl 0, [1179]) ::
  (105, .ireturn, 1, 0, 0, 0, .inl 0, []) :: s_X8_work_106) ls st μ := by rw [s_X8_work_94]
theorem v_X8_work_94 : vc X P m_X8_work h K k_X8_work S (n + 1) 94 ls st μ = if 94 ∈ S then mAt X m_X8_work h K 94 ls st μ else bb X P m_X8_work h K (vc X P m_X8_work h K k_X8_work S n) s_X8_work_94 ls st μ := by rw [vc_s, t_X8_work_94]
theorem w_X8_work_106 : bb X P m_X8_work h K J s_X8_work_106 ls st μ = bb X P m_X8_work h K J ((106, .aload_n 0, 1, 0, 0, 0, .inl 0, []) ::
  (107, .getfield 19, 3, 7, 1, 3, .inr (.inr (0, 0, 4)), [479]) ::
  (110, .getfield 157, 3, 0, 13, 3, .inr (.inr (16, 48, 10)), [283]) ::
  (113, .iload_n 1, 1, 1, 0, 0, .inl 0, []) ::
  (114, .invokestatic 153, 3, 97, 2, 1, .inl 0, [1179]) ::
  (117, .ireturn, 1, 0, 0, 0, .inl 0, []) :: s_X8_work_118) ls st μ := by rw [s_X8_work_106]
theorem v_X8_work_106 : vc X P m_X8_work h K k_X8_work S (n + 1) 106 ls st μ = if 106 ∈ S then mAt X m_X8_work h K 106 ls st μ else bb X P m_X8_work h K (vc X P m_X8_work h K k_X8_work S n) s_X8_work_106 ls st μ := by rw [vc_s, t_X8_work_106]
theorem w_X8_work_118 : bb X P m_X8_work h K J s_X8_work_118 ls st μ = bb X P m_X8_work h K J ((118, .aload_n 0, 1, 0, 0, 0, .inl 0, []) ::
  (119, .getfield 19, 3, 7, 1, 3, .inr (.inr (0, 0, 4)), [479]) ::
  (122, .getfield 160, 3, 0, 14, 3, .inr (.inr (16, 48, 11)), [287]) ::
  (125, .iload_n 1, 1, 1, 0, 0, .inl 0, []) ::
  (126, .invokestatic 153, 3, 97, 2, 1, .inl 0, [1179]) ::
  (129, .ireturn, 1, 0, 0, 0, .inl 0, []) :: []) ls st μ := by rw [s_X8_work_118]
theorem v_X8_work_118 : vc X P m_X8_work h K k_X8_work S (n + 1) 118 ls st μ = if 118 ∈ S then mAt X m_X8_work h K 118 ls st μ else bb X P m_X8_work h K (vc X P m_X8_work h K k_X8_work S n) s_X8_work_118 ls st μ := by rw [vc_s, t_X8_work_118]
end
section
variable {X : mC} {P : mP} {h : Nat} {K : MV → Mem → Prop} {J : mJ} {ls : List (Nat × MV)} {st : List MV} {μ : Mem} {S : List Nat} {n : Nat}
theorem w_X8_worth_0 : bb X P m_X8_worth h K J s_X8_worth_0 ls st μ = bb X P m_X8_worth h K J ((0, .aload_n 0, 1, 0, 0, 0, .inl 0, []) ::
  (1, .getfield 19, 3, 7, 1, 3, .inr (.inr (0, 0, 4)), [479]) ::
  (4, .getfield 175, 3, 0, 1, 0, .inl 0, [249]) ::
  (7, .ifCond .eq 10, 3, 17, 0, 0, .inl 0, []) ::
  (10, .iload_n 1, 1, 1, 0, 0, .inl 0, []) ::
  (11, .invokestatic 271, 3, 76, 1, 1, .inl 0, [878]) ::
  (14, .ifCond .ne 5, 3, 19, 0, 0, .inl 0, []) :: s_X8_worth_17) ls st μ := by rw [s_X8_worth_0]
theorem v_X8_worth_0 : vc X P m_X8_worth h K k_X8_worth S (n + 1) 0 ls st μ = if 0 ∈ S then mAt X m_X8_worth h K 0 ls st μ else bb X P m_X8_worth h K (vc X P m_X8_worth h K k_X8_worth S n) s_X8_worth_0 ls st μ := by rw [vc_s, t_X8_worth_0]
theorem w_X8_worth_17 : bb X P m_X8_worth h K J s_X8_worth_17 ls st μ = bb X P m_X8_worth h K J ((17, .iconst (-1), 1, 0, 0, 0, .inl (-1), []) ::
  (18, .ireturn, 1, 0, 0, 0, .inl 0, []) :: s_X8_worth_19) ls st μ := by rw [s_X8_worth_17]
theorem v_X8_worth_17 : vc X P m_X8_worth h K k_X8_worth S (n + 1) 17 ls st μ = if 17 ∈ S then mAt X m_X8_worth h K 17 ls st μ else bb X P m_X8_worth h K (vc X P m_X8_worth h K k_X8_worth S n) s_X8_worth_17 ls st μ := by rw [vc_s, t_X8_worth_17]
theorem w_X8_worth_19 : bb X P m_X8_worth h K J s_X8_worth_19 ls st μ = bb X P m_X8_worth h K J ((19, .aload_n 0, 1, 0, 0, 0, .inl 0, []) ::
  (20, .getfield 19, 3, 7, 1, 3, .inr (.inr (0, 0, 4)), [479]) ::
  (23, .invokevirtual 181, 3, 2, 1, 1, .inl 0, [728, 0]) ::
  (26, .istore_n 2, 1, 2, 0, 0, .inl 0, []) ::
  (27, .iconst 0, 1, 0, 0, 0, .inl (nI 0), []) ::
  (28, .istore_n 3, 1, 3, 0, 0, .inl 0, []) :: s_X8_worth_29) ls st μ := by rw [s_X8_worth_19]
theorem v_X8_worth_19 : vc X P m_X8_worth h K k_X8_worth S (n + 1) 19 ls st μ = if 19 ∈ S then mAt X m_X8_worth h K 19 ls st μ else bb X P m_X8_worth h K (vc X P m_X8_worth h K k_X8_worth S n) s_X8_worth_19 ls st μ := by rw [vc_s, t_X8_worth_19]
theorem w_X8_worth_29 : bb X P m_X8_worth h K J s_X8_worth_29 ls st μ = bb X P m_X8_worth h K J ((29, .iload_n 3, 1, 3, 0, 0, .inl 0, []) ::
  (30, .iload_n 2, 1, 2, 0, 0, .inl 0, []) ::
  (31, .if_icmp .gt 25, 3, 56, 0, 0, .inl 0, []) ::
  (34, .aload_n 0, 1, 0, 0, 0, .inl 0, []) ::
  (35, .getfield 73, 3, 7, 12, 3, .inr (.inr (16, 256, 161)), [490]) ::
  (38, .iload_n 3, 1, 3, 0, 0, .inl 0, []) ::
  (39, .aload_n 0, 1, 0, 0, 0, .inl 0, []) ::
  (40, .aload_n 0, 1, 0, 0, 0, .inl 0, []) ::
  (41, .getfield 19, 3, 7, 1, 3, .inr (.inr (0, 0, 4)), [479]) ::
  (44, .iload_n 3, 1, 3, 0, 0, .inl 0, []) ::
  (45, .iload_n 1, 1, 1, 0, 0, .inl 0, []) ::
  (46, .invokevirtual 274, 3, 114, 4, 1, .inl 0, [881, 7]) ::
  (49, .iastore, 1, 0, 0, 0, .inl 0, []) ::
  (50, .iinc 3 1, 3, 3, 0, 0, .inl (nI 1), []) ::
  (53, .goto (-24), 3, 29, 0, 0, .inl 0, []) :: s_X8_worth_56) ls st μ := by rw [s_X8_worth_29]
theorem v_X8_worth_29 : vc X P m_X8_worth h K k_X8_worth S (n + 1) 29 ls st μ = if 29 ∈ S then mAt X m_X8_worth h K 29 ls st μ else bb X P m_X8_worth h K (vc X P m_X8_worth h K k_X8_worth S n) s_X8_worth_29 ls st μ := by rw [vc_s, t_X8_worth_29]
theorem w_X8_worth_56 : bb X P m_X8_worth h K J s_X8_worth_56 ls st μ = bb X P m_X8_worth h K J ((56, .aload_n 0, 1, 0, 0, 0, .inl 0, []) ::
  (57, .aload_n 0, 1, 0, 0, 0, .inl 0, []) ::
  (58, .getfield 19, 3, 7, 1, 3, .inr (.inr (0, 0, 4)), [479]) ::
  (61, .getfield 175, 3, 0, 1, 0, .inl 0, [249]) ::
  (64, .putfield 84, 3, 7, 15, 0, .inl 0, [493]) ::
  (67, .iconst 0, 1, 0, 0, 0, .inl (nI 0), []) ::
  (68, .istore_n 3, 1, 3, 0, 0, .inl 0, []) :: s_X8_worth_69) ls st μ := by rw [s_X8_worth_56]
theorem v_X8_worth_56 : vc X P m_X8_worth h K k_X8_worth S (n + 1) 56 ls st μ = if 56 ∈ S then mAt X m_X8_worth h K 56 ls st μ else bb X P m_X8_worth h K (vc X P m_X8_worth h K k_X8_worth S n) s_X8_worth_56 ls st μ := by rw [vc_s, t_X8_worth_56]
theorem w_X8_worth_69 : bb X P m_X8_worth h K J s_X8_worth_69 ls st μ = bb X P m_X8_worth h K J ((69, .iload_n 3, 1, 3, 0, 0, .inl 0, []) ::
  (70, .aload_n 0, 1, 0, 0, 0, .inl 0, []) ::
  (71, .getfield 84, 3, 7, 15, 0, .inl 0, [493]) ::
  (74, .if_icmp .ge 14, 3, 88, 0, 0, .inl 0, []) ::
  (77, .aload_n 0, 1, 0, 0, 0, .inl 0, []) ::
  (78, .iload_n 3, 1, 3, 0, 0, .inl 0, []) ::
  (79, .invokevirtual 281, 3, 125, 2, 0, .inl 0, [897, 7]) ::
  (82, .iinc 3 1, 3, 3, 0, 0, .inl (nI 1), []) ::
  (85, .goto (-16), 3, 69, 0, 0, .inl 0, []) :: s_X8_worth_88) ls st μ := by rw [s_X8_worth_69]
theorem v_X8_worth_69 : vc X P m_X8_worth h K k_X8_worth S (n + 1) 69 ls st μ = if 69 ∈ S then mAt X m_X8_worth h K 69 ls st μ else bb X P m_X8_worth h K (vc X P m_X8_worth h K k_X8_worth S n) s_X8_worth_69 ls st μ := by rw [vc_s, t_X8_worth_69]
theorem w_X8_worth_88 : bb X P m_X8_worth h K J s_X8_worth_88 ls st μ = bb X P m_X8_worth h K J ((88, .aload_n 0, 1, 0, 0, 0, .inl 0, []) ::
  (89, .getfield 73, 3, 7, 12, 3, .inr (.inr (16, 256, 161)), [490]) ::
  (92, .iload_n 2, 1, 2, 0, 0, .inl 0, []) ::
  (93, .iaload, 1, 0, 0, 0, .inl 0, []) ::
  (94, .ireturn, 1, 0, 0, 0, .inl 0, []) :: []) ls st μ := by rw [s_X8_worth_88]
theorem v_X8_worth_88 : vc X P m_X8_worth h K k_X8_worth S (n + 1) 88 ls st μ = if 88 ∈ S then mAt X m_X8_worth h K 88 ls st μ else bb X P m_X8_worth h K (vc X P m_X8_worth h K k_X8_worth S n) s_X8_worth_88 ls st μ := by rw [vc_s, t_X8_worth_88]
end
section
variable {X : mC} {P : mP} {h : Nat} {K : MV → Mem → Prop} {J : mJ} {ls : List (Nat × MV)} {st : List MV} {μ : Mem} {S : List Nat} {n : Nat}
theorem w_X8_worthOf_0 : bb X P m_X8_worthOf h K J s_X8_worthOf_0 ls st μ = bb X P m_X8_worthOf h K J ((0, .iload_n 1, 1, 1, 0, 0, .inl 0, []) ::
  (1, .ifCond .lt 20, 3, 21, 0, 0, .inl 0, []) ::
  (4, .iload_n 1, 1, 1, 0, 0, .inl 0, []) ::
  (5, .aload_n 0, 1, 0, 0, 0, .inl 0, []) ::
  (6, .getfield 84, 3, 7, 15, 0, .inl 0, [493]) ::
  (9, .if_icmp .ge 12, 3, 21, 0, 0, .inl 0, []) ::
  (12, .iload_n 2, 1, 2, 0, 0, .inl 0, []) ::
  (13, .ifCond .lt 8, 3, 21, 0, 0, .inl 0, []) ::
  (16, .iload_n 2, 1, 2, 0, 0, .inl 0, []) ::
  (17, .iconst 1, 1, 0, 0, 0, .inl (nI 1), []) ::
  (18, .if_icmp .le 14, 3, 32, 0, 0, .inl 0, []) :: s_X8_worthOf_21) ls st μ := by rw [s_X8_worthOf_0]
theorem v_X8_worthOf_0 : vc X P m_X8_worthOf h K k_X8_worthOf S (n + 1) 0 ls st μ = if 0 ∈ S then mAt X m_X8_worthOf h K 0 ls st μ else bb X P m_X8_worthOf h K (vc X P m_X8_worthOf h K k_X8_worthOf S n) s_X8_worthOf_0 ls st μ := by rw [vc_s, t_X8_worthOf_0]
theorem w_X8_worthOf_21 : bb X P m_X8_worthOf h K J s_X8_worthOf_21 ls st μ = bb X P m_X8_worthOf h K J ((21, .new 134, 3, 0, 0, 0, .inl 0, []) ::
  (24, .dup, 1, 0, 0, 0, .inl 0, []) ::
  (25, .ldc_w 303, 3, 0, 0, 0, .inr (.inr (99, 0, 0)), []) ::
  (28, .invokespecial 138, 3, 0, 0, 0, .inl 0, []) ::
  (31, .athrow, 1, 0, 0, 0, .inl 0, []) :: s_X8_worthOf_32) ls st μ := by rw [s_X8_worthOf_21]
theorem v_X8_worthOf_21 : vc X P m_X8_worthOf h K k_X8_worthOf S (n + 1) 21 ls st μ = if 21 ∈ S then mAt X m_X8_worthOf h K 21 ls st μ else bb X P m_X8_worthOf h K (vc X P m_X8_worthOf h K k_X8_worthOf S n) s_X8_worthOf_21 ls st μ := by rw [vc_s, t_X8_worthOf_21]
theorem w_X8_worthOf_32 : bb X P m_X8_worthOf h K J s_X8_worthOf_32 ls st μ = bb X P m_X8_worthOf h K J ((32, .iload_n 2, 1, 2, 0, 0, .inl 0, []) ::
  (33, .ifCond .ne 12, 3, 45, 0, 0, .inl 0, []) ::
  (36, .aload_n 0, 1, 0, 0, 0, .inl 0, []) ::
  (37, .getfield 77, 3, 7, 13, 3, .inr (.inr (17, 8, 162)), [491]) ::
  (40, .iload_n 1, 1, 1, 0, 0, .inl 0, []) ::
  (41, .laload, 1, 0, 0, 0, .inl 0, []) ::
  (42, .goto 9, 3, 51, 0, 0, .inl 0, []) :: s_X8_worthOf_45) ls st μ := by rw [s_X8_worthOf_32]
theorem v_X8_worthOf_32 : vc X P m_X8_worthOf h K k_X8_worthOf S (n + 1) 32 ls st μ = if 32 ∈ S then mAt X m_X8_worthOf h K 32 ls st μ else bb X P m_X8_worthOf h K (vc X P m_X8_worthOf h K k_X8_worthOf S n) s_X8_worthOf_32 ls st μ := by rw [vc_s, t_X8_worthOf_32]
theorem w_X8_worthOf_45 : bb X P m_X8_worthOf h K J s_X8_worthOf_45 ls st μ = bb X P m_X8_worthOf h K J ((45, .aload_n 0, 1, 0, 0, 0, .inl 0, []) ::
  (46, .getfield 81, 3, 7, 14, 3, .inr (.inr (17, 8, 163)), [492]) ::
  (49, .iload_n 1, 1, 1, 0, 0, .inl 0, []) ::
  (50, .laload, 1, 0, 0, 0, .inl 0, []) :: s_X8_worthOf_51) ls st μ := by rw [s_X8_worthOf_45]
theorem v_X8_worthOf_45 : vc X P m_X8_worthOf h K k_X8_worthOf S (n + 1) 45 ls st μ = if 45 ∈ S then mAt X m_X8_worthOf h K 45 ls st μ else bb X P m_X8_worthOf h K (vc X P m_X8_worthOf h K k_X8_worthOf S n) s_X8_worthOf_45 ls st μ := by rw [vc_s, t_X8_worthOf_45]
theorem w_X8_worthOf_51 : bb X P m_X8_worthOf h K J s_X8_worthOf_51 ls st μ = bb X P m_X8_worthOf h K J ((51, .lreturn, 1, 0, 0, 0, .inl 0, []) :: []) ls st μ := by rw [s_X8_worthOf_51]
theorem v_X8_worthOf_51 : vc X P m_X8_worthOf h K k_X8_worthOf S (n + 1) 51 ls st μ = if 51 ∈ S then mAt X m_X8_worthOf h K 51 ls st μ else bb X P m_X8_worthOf h K (vc X P m_X8_worthOf h K k_X8_worthOf S n) s_X8_worthOf_51 ls st μ := by rw [vc_s, t_X8_worthOf_51]
end
section
variable {X : mC} {P : mP} {h : Nat} {K : MV → Mem → Prop} {J : mJ} {ls : List (Nat × MV)} {st : List MV} {μ : Mem} {S : List Nat} {n : Nat}
theorem w_X8_write_0 : bb X P m_X8_write h K J s_X8_write_0 ls st μ = bb X P m_X8_write h K J ((0, .aload_n 0, 1, 0, 0, 0, .inl 0, []) ::
  (1, .invokevirtual 188, 3, 103, 1, 1, .inl 0, [712, 7]) ::
  (4, .ifCond .ne 5, 3, 9, 0, 0, .inl 0, []) ::
  (7, .iconst (-1), 1, 0, 0, 0, .inl (-1), []) ::
  (8, .ireturn, 1, 0, 0, 0, .inl 0, []) :: s_X8_write_9) ls st μ := by rw [s_X8_write_0]
theorem v_X8_write_0 : vc X P m_X8_write h K k_X8_write S (n + 1) 0 ls st μ = if 0 ∈ S then mAt X m_X8_write h K 0 ls st μ else bb X P m_X8_write h K (vc X P m_X8_write h K k_X8_write S n) s_X8_write_0 ls st μ := by rw [vc_s, t_X8_write_0]
theorem w_X8_write_9 : bb X P m_X8_write h K J s_X8_write_9 ls st μ = bb X P m_X8_write h K J ((9, .aload_n 0, 1, 0, 0, 0, .inl 0, []) ::
  (10, .getfield 69, 3, 7, 11, 3, .inr (.inr (6, 0, 159)), [489]) ::
  (13, .iconst 0, 1, 0, 0, 0, .inl (nI 0), []) ::
  (14, .putfield 332, 3, 6, 1, 0, .inl 0, [472]) ::
  (17, .iconst 0, 1, 0, 0, 0, .inl (nI 0), []) ::
  (18, .istore_n 1, 1, 1, 0, 0, .inl 0, []) :: s_X8_write_19) ls st μ := by rw [s_X8_write_9]
theorem v_X8_write_9 : vc X P m_X8_write h K k_X8_write S (n + 1) 9 ls st μ = if 9 ∈ S then mAt X m_X8_write h K 9 ls st μ else bb X P m_X8_write h K (vc X P m_X8_write h K k_X8_write S n) s_X8_write_9 ls st μ := by rw [vc_s, t_X8_write_9]
theorem w_X8_write_19 : bb X P m_X8_write h K J s_X8_write_19 ls st μ = bb X P m_X8_write h K J ((19, .iload_n 1, 1, 1, 0, 0, .inl 0, []) ::
  (20, .aload_n 0, 1, 0, 0, 0, .inl 0, []) ::
  (21, .getfield 19, 3, 7, 1, 3, .inr (.inr (0, 0, 4)), [479]) ::
  (24, .getfield 175, 3, 0, 1, 0, .inl 0, [249]) ::
  (27, .if_icmp .ge 94, 3, 121, 0, 0, .inl 0, []) ::
  (30, .aload_n 0, 1, 0, 0, 0, .inl 0, []) ::
  (31, .getfield 69, 3, 7, 11, 3, .inr (.inr (6, 0, 159)), [489]) ::
  (34, .aload_n 0, 1, 0, 0, 0, .inl 0, []) ::
  (35, .getfield 19, 3, 7, 1, 3, .inr (.inr (0, 0, 4)), [479]) ::
  (38, .getfield 333, 3, 0, 5, 3, .inr (.inr (16, 8, 2)), [257]) ::
  (41, .iload_n 1, 1, 1, 0, 0, .inl 0, []) ::
  (42, .iaload, 1, 0, 0, 0, .inl 0, []) ::
  (43, .invokevirtual 336, 3, 73, 2, 0, .inl 0, [1009, 6]) ::
  (46, .aload_n 0, 1, 0, 0, 0, .inl 0, []) ::
  (47, .getfield 69, 3, 7, 11, 3, .inr (.inr (6, 0, 159)), [489]) ::
  (50, .bipush 32, 2, 0, 0, 0, .inl (nI 32), []) ::
  (52, .invokevirtual 339, 3, 72, 2, 0, .inl 0, [1017, 6]) ::
  (55, .aload_n 0, 1, 0, 0, 0, .inl 0, []) ::
  (56, .getfield 69, 3, 7, 11, 3, .inr (.inr (6, 0, 159)), [489]) ::
  (59, .aload_n 0, 1, 0, 0, 0, .inl 0, []) ::
  (60, .getfield 49, 3, 7, 7, 3, .inr (.inr (3, 0, 50)), [485]) ::
  (63, .getfield 216, 3, 3, 8, 3, .inr (.inr (16, 8, 8)), [395]) ::
  (66, .iload_n 1, 1, 1, 0, 0, .inl 0, []) ::
  (67, .iaload, 1, 0, 0, 0, .inl 0, []) ::
  (68, .invokevirtual 342, 3, 74, 2, 0, .inl 0, [1018, 6]) ::
  (71, .aload_n 0, 1, 0, 0, 0, .inl 0, []) ::
  (72, .getfield 69, 3, 7, 11, 3, .inr (.inr (6, 0, 159)), [489]) ::
  (75, .bipush 32, 2, 0, 0, 0, .inl (nI 32), []) ::
  (77, .invokevirtual 339, 3, 72, 2, 0, .inl 0, [1017, 6]) ::
  (80, .aload_n 0, 1, 0, 0, 0, .inl 0, []) ::
  (81, .getfield 69, 3, 7, 11, 3, .inr (.inr (6, 0, 159)), [489]) ::
  (84, .aload_n 0, 1, 0, 0, 0, .inl 0, []) ::
  (85, .getfield 49, 3, 7, 7, 3, .inr (.inr (3, 0, 50)), [485]) ::
  (88, .getfield 216, 3, 3, 8, 3, .inr (.inr (16, 8, 8)), [395]) ::
  (91, .iload_n 1, 1, 1, 0, 0, .inl 0, []) ::
  (92, .iaload, 1, 0, 0, 0, .inl 0, []) ::
  (93, .aload_n 0, 1, 0, 0, 0, .inl 0, []) ::
  (94, .getfield 19, 3, 7, 1, 3, .inr (.inr (0, 0, 4)), [479]) ::
  (97, .getfield 147, 3, 0, 9, 3, .inr (.inr (16, 8, 6)), [268]) ::
  (100, .iload_n 1, 1, 1, 0, 0, .inl 0, []) ::
  (101, .iaload, 1, 0, 0, 0, .inl 0, []) ::
  (102, .imul, 1, 0, 0, 0, .inl 0, []) ::
  (103, .invokevirtual 342, 3, 74, 2, 0, .inl 0, [1018, 6]) ::
  (106, .aload_n 0, 1, 0, 0, 0, .inl 0, []) ::
  (107, .getfield 69, 3, 7, 11, 3, .inr (.inr (6, 0, 159)), [489]) ::
  (110, .bipush 59, 2, 0, 0, 0, .inl (nI 59), []) ::
  (112, .invokevirtual 339, 3, 72, 2, 0, .inl 0, [1017, 6]) ::
  (115, .iinc 1 1, 3, 1, 0, 0, .inl (nI 1), []) ::
  (118, .goto (-99), 3, 19, 0, 0, .inl 0, []) :: s_X8_write_121) ls st μ := by rw [s_X8_write_19]
theorem v_X8_write_19 : vc X P m_X8_write h K k_X8_write S (n + 1) 19 ls st μ = if 19 ∈ S then mAt X m_X8_write h K 19 ls st μ else bb X P m_X8_write h K (vc X P m_X8_write h K k_X8_write S n) s_X8_write_19 ls st μ := by rw [vc_s, t_X8_write_19]
theorem w_X8_write_121 : bb X P m_X8_write h K J s_X8_write_121 ls st μ = bb X P m_X8_write h K J ((121, .aload_n 0, 1, 0, 0, 0, .inl 0, []) ::
  (122, .getfield 69, 3, 7, 11, 3, .inr (.inr (6, 0, 159)), [489]) ::
  (125, .getfield 332, 3, 6, 1, 0, .inl 0, [472]) ::
  (128, .ireturn, 1, 0, 0, 0, .inl 0, []) :: []) ls st μ := by rw [s_X8_write_121]
theorem v_X8_write_121 : vc X P m_X8_write h K k_X8_write S (n + 1) 121 ls st μ = if 121 ∈ S then mAt X m_X8_write h K 121 ls st μ else bb X P m_X8_write h K (vc X P m_X8_write h K k_X8_write S n) s_X8_write_121 ls st μ := by rw [vc_s, t_X8_write_121]
end
section
variable {X : mC} {P : mP} {h : Nat} {K : MV → Mem → Prop} {J : mJ} {ls : List (Nat × MV)} {st : List MV} {μ : Mem} {S : List Nat} {n : Nat}
theorem w_X9_again_0 : bb X P m_X9_again h K J s_X9_again_0 ls st μ = bb X P m_X9_again h K J ((0, .aload_n 0, 1, 0, 0, 0, .inl 0, []) ::
  (1, .iconst 0, 1, 0, 0, 0, .inl (nI 0), []) ::
  (2, .putfield 76, 3, 8, 0, 0, .inl 0, [1196]) ::
  (5, .iload_n 1, 1, 1, 0, 0, .inl 0, []) ::
  (6, .iconst 0, 1, 0, 0, 0, .inl (nI 0), []) ::
  (7, .iconst 1, 1, 0, 0, 0, .inl (nI 1), []) ::
  (8, .invokestatic 143, 3, 177, 3, 1, .inl 0, [1414]) ::
  (11, .ifCond .ne 5, 3, 16, 0, 0, .inl 0, []) ::
  (14, .iconst (-1), 1, 0, 0, 0, .inl (-1), []) ::
  (15, .ireturn, 1, 0, 0, 0, .inl 0, []) :: s_X9_again_16) ls st μ := by rw [s_X9_again_0]
theorem v_X9_again_0 : vc X P m_X9_again h K k_X9_again S (n + 1) 0 ls st μ = if 0 ∈ S then mAt X m_X9_again h K 0 ls st μ else bb X P m_X9_again h K (vc X P m_X9_again h K k_X9_again S n) s_X9_again_0 ls st μ := by rw [vc_s, t_X9_again_0]
theorem w_X9_again_16 : bb X P m_X9_again h K J s_X9_again_16 ls st μ = bb X P m_X9_again h K J ((16, .aload_n 0, 1, 0, 0, 0, .inl 0, []) ::
  (17, .invokevirtual 285, 3, 196, 1, 0, .inl 0, [1504, 8]) ::
  (20, .aload_n 0, 1, 0, 0, 0, .inl 0, []) ::
  (21, .aload_n 0, 1, 0, 0, 0, .inl 0, []) ::
  (22, .getfield 42, 3, 8, 23, 3, .inr (.inr (16, 296, 11)), [1219]) ::
  (25, .iconst 0, 1, 0, 0, 0, .inl (nI 0), []) ::
  (26, .invokevirtual 274, 3, 242, 3, 0, .inl 0, [1508, 8]) ::
  (29, .iconst 0, 1, 0, 0, 0, .inl (nI 0), []) ::
  (30, .istore_n 2, 1, 2, 0, 0, .inl 0, []) :: s_X9_again_31) ls st μ := by rw [s_X9_again_16]
theorem v_X9_again_16 : vc X P m_X9_again h K k_X9_again S (n + 1) 16 ls st μ = if 16 ∈ S then mAt X m_X9_again h K 16 ls st μ else bb X P m_X9_again h K (vc X P m_X9_again h K k_X9_again S n) s_X9_again_16 ls st μ := by rw [vc_s, t_X9_again_16]
theorem w_X9_again_31 : bb X P m_X9_again h K J s_X9_again_31 ls st μ = bb X P m_X9_again h K J ((31, .iload_n 2, 1, 2, 0, 0, .inl 0, []) ::
  (32, .sipush 200, 3, 0, 0, 0, .inl (nI 200), []) ::
  (35, .if_icmp .ge 105, 3, 140, 0, 0, .inl 0, []) ::
  (38, .aload_n 0, 1, 0, 0, 0, .inl 0, []) ::
  (39, .aload_n 0, 1, 0, 0, 0, .inl 0, []) ::
  (40, .getfield 42, 3, 8, 23, 3, .inr (.inr (16, 296, 11)), [1219]) ::
  (43, .iconst 0, 1, 0, 0, 0, .inl (nI 0), []) ::
  (44, .invokevirtual 278, 3, 171, 3, 0, .inl 0, [1520, 8]) ::
  (47, .iconst 0, 1, 0, 0, 0, .inl (nI 0), []) ::
  (48, .istore_n 3, 1, 3, 0, 0, .inl 0, []) :: s_X9_again_49) ls st μ := by rw [s_X9_again_31]
theorem v_X9_again_31 : vc X P m_X9_again h K k_X9_again S (n + 1) 31 ls st μ = if 31 ∈ S then mAt X m_X9_again h K 31 ls st μ else bb X P m_X9_again h K (vc X P m_X9_again h K k_X9_again S n) s_X9_again_31 ls st μ := by rw [vc_s, t_X9_again_31]
theorem w_X9_again_49 : bb X P m_X9_again h K J s_X9_again_49 ls st μ = bb X P m_X9_again h K J ((49, .iload_n 3, 1, 3, 0, 0, .inl 0, []) ::
  (50, .bipush 48, 2, 0, 0, 0, .inl (nI 48), []) ::
  (52, .if_icmp .ge 28, 3, 80, 0, 0, .inl 0, []) ::
  (55, .aload_n 0, 1, 0, 0, 0, .inl 0, []) ::
  (56, .getfield 54, 3, 8, 30, 3, .inr (.inr (16, 11000, 15)), [1226]) ::
  (59, .bipush 55, 2, 0, 0, 0, .inl (nI 55), []) ::
  (61, .iload_n 2, 1, 2, 0, 0, .inl 0, []) ::
  (62, .imul, 1, 0, 0, 0, .inl 0, []) ::
  (63, .iload_n 3, 1, 3, 0, 0, .inl 0, []) ::
  (64, .iadd, 1, 0, 0, 0, .inl 0, []) ::
  (65, .aload_n 0, 1, 0, 0, 0, .inl 0, []) ::
  (66, .getfield 42, 3, 8, 23, 3, .inr (.inr (16, 296, 11)), [1219]) ::
  (69, .iconst 2, 1, 0, 0, 0, .inl (nI 2), []) ::
  (70, .iload_n 3, 1, 3, 0, 0, .inl 0, []) ::
  (71, .iadd, 1, 0, 0, 0, .inl 0, []) ::
  (72, .iaload, 1, 0, 0, 0, .inl 0, []) ::
  (73, .iastore, 1, 0, 0, 0, .inl 0, []) ::
  (74, .iinc 3 1, 3, 3, 0, 0, .inl (nI 1), []) ::
  (77, .goto (-28), 3, 49, 0, 0, .inl 0, []) :: s_X9_again_80) ls st μ := by rw [s_X9_again_49]
theorem v_X9_again_49 : vc X P m_X9_again h K k_X9_again S (n + 1) 49 ls st μ = if 49 ∈ S then mAt X m_X9_again h K 49 ls st μ else bb X P m_X9_again h K (vc X P m_X9_again h K k_X9_again S n) s_X9_again_49 ls st μ := by rw [vc_s, t_X9_again_49]
theorem w_X9_again_80 : bb X P m_X9_again h K J s_X9_again_80 ls st μ = bb X P m_X9_again h K J ((80, .iconst 0, 1, 0, 0, 0, .inl (nI 0), []) ::
  (81, .istore_n 3, 1, 3, 0, 0, .inl 0, []) :: s_X9_again_82) ls st μ := by rw [s_X9_again_80]
theorem v_X9_again_80 : vc X P m_X9_again h K k_X9_again S (n + 1) 80 ls st μ = if 80 ∈ S then mAt X m_X9_again h K 80 ls st μ else bb X P m_X9_again h K (vc X P m_X9_again h K k_X9_again S n) s_X9_again_80 ls st μ := by rw [vc_s, t_X9_again_80]
theorem w_X9_again_82 : bb X P m_X9_again h K J s_X9_again_82 ls st μ = bb X P m_X9_again h K J ((82, .iload_n 3, 1, 3, 0, 0, .inl 0, []) ::
  (83, .bipush 6, 2, 0, 0, 0, .inl (nI 6), []) ::
  (85, .if_icmp .ge 33, 3, 118, 0, 0, .inl 0, []) ::
  (88, .aload_n 0, 1, 0, 0, 0, .inl 0, []) ::
  (89, .getfield 54, 3, 8, 30, 3, .inr (.inr (16, 11000, 15)), [1226]) ::
  (92, .bipush 55, 2, 0, 0, 0, .inl (nI 55), []) ::
  (94, .iload_n 2, 1, 2, 0, 0, .inl 0, []) ::
  (95, .imul, 1, 0, 0, 0, .inl 0, []) ::
  (96, .bipush 48, 2, 0, 0, 0, .inl (nI 48), []) ::
  (98, .iadd, 1, 0, 0, 0, .inl 0, []) ::
  (99, .iload_n 3, 1, 3, 0, 0, .inl 0, []) ::
  (100, .iadd, 1, 0, 0, 0, .inl 0, []) ::
  (101, .aload_n 0, 1, 0, 0, 0, .inl 0, []) ::
  (102, .getfield 42, 3, 8, 23, 3, .inr (.inr (16, 296, 11)), [1219]) ::
  (105, .sipush 194, 3, 0, 0, 0, .inl (nI 194), []) ::
  (108, .iload_n 3, 1, 3, 0, 0, .inl 0, []) ::
  (109, .iadd, 1, 0, 0, 0, .inl 0, []) ::
  (110, .iaload, 1, 0, 0, 0, .inl 0, []) ::
  (111, .iastore, 1, 0, 0, 0, .inl 0, []) ::
  (112, .iinc 3 1, 3, 3, 0, 0, .inl (nI 1), []) ::
  (115, .goto (-33), 3, 82, 0, 0, .inl 0, []) :: s_X9_again_118) ls st μ := by rw [s_X9_again_82]
theorem v_X9_again_82 : vc X P m_X9_again h K k_X9_again S (n + 1) 82 ls st μ = if 82 ∈ S then mAt X m_X9_again h K 82 ls st μ else bb X P m_X9_again h K (vc X P m_X9_again h K k_X9_again S n) s_X9_again_82 ls st μ := by rw [vc_s, t_X9_again_82]
theorem w_X9_again_118 : bb X P m_X9_again h K J s_X9_again_118 ls st μ = bb X P m_X9_again h K J ((118, .aload_n 0, 1, 0, 0, 0, .inl 0, []) ::
  (119, .getfield 54, 3, 8, 30, 3, .inr (.inr (16, 11000, 15)), [1226]) ::
  (122, .bipush 55, 2, 0, 0, 0, .inl (nI 55), []) ::
  (124, .iload_n 2, 1, 2, 0, 0, .inl 0, []) ::
  (125, .imul, 1, 0, 0, 0, .inl 0, []) ::
  (126, .bipush 54, 2, 0, 0, 0, .inl (nI 54), []) ::
  (128, .iadd, 1, 0, 0, 0, .inl 0, []) ::
  (129, .iload_n 2, 1, 2, 0, 0, .inl 0, []) ::
  (130, .bipush 12, 2, 0, 0, 0, .inl (nI 12), []) ::
  (132, .irem, 1, 0, 0, 0, .inl 0, []) ::
  (133, .iastore, 1, 0, 0, 0, .inl 0, []) ::
  (134, .iinc 2 1, 3, 2, 0, 0, .inl (nI 1), []) ::
  (137, .goto (-106), 3, 31, 0, 0, .inl 0, []) :: s_X9_again_140) ls st μ := by rw [s_X9_again_118]
theorem v_X9_again_118 : vc X P m_X9_again h K k_X9_again S (n + 1) 118 ls st μ = if 118 ∈ S then mAt X m_X9_again h K 118 ls st μ else bb X P m_X9_again h K (vc X P m_X9_again h K k_X9_again S n) s_X9_again_118 ls st μ := by rw [vc_s, t_X9_again_118]
theorem w_X9_again_140 : bb X P m_X9_again h K J s_X9_again_140 ls st μ = bb X P m_X9_again h K J ((140, .iconst 0, 1, 0, 0, 0, .inl (nI 0), []) ::
  (141, .istore_n 2, 1, 2, 0, 0, .inl 0, []) :: s_X9_again_142) ls st μ := by rw [s_X9_again_140]
theorem v_X9_again_140 : vc X P m_X9_again h K k_X9_again S (n + 1) 140 ls st μ = if 140 ∈ S then mAt X m_X9_again h K 140 ls st μ else bb X P m_X9_again h K (vc X P m_X9_again h K k_X9_again S n) s_X9_again_140 ls st μ := by rw [vc_s, t_X9_again_140]
theorem w_X9_again_142 : bb X P m_X9_again h K J s_X9_again_142 ls st μ = bb X P m_X9_again h K J ((142, .iload_n 2, 1, 2, 0, 0, .inl 0, []) ::
  (143, .sipush 200, 3, 0, 0, 0, .inl (nI 200), []) ::
  (146, .if_icmp .ge 47, 3, 193, 0, 0, .inl 0, []) ::
  (149, .iconst 1, 1, 0, 0, 0, .inl (nI 1), []) ::
  (150, .istore_n 3, 1, 3, 0, 0, .inl 0, []) :: s_X9_again_151) ls st μ := by rw [s_X9_again_142]
theorem v_X9_again_142 : vc X P m_X9_again h K k_X9_again S (n + 1) 142 ls st μ = if 142 ∈ S then mAt X m_X9_again h K 142 ls st μ else bb X P m_X9_again h K (vc X P m_X9_again h K k_X9_again S n) s_X9_again_142 ls st μ := by rw [vc_s, t_X9_again_142]
theorem w_X9_again_151 : bb X P m_X9_again h K J s_X9_again_151 ls st μ = bb X P m_X9_again h K J ((151, .iload_n 2, 1, 2, 0, 0, .inl 0, []) ::
  (152, .iload_n 3, 1, 3, 0, 0, .inl 0, []) ::
  (153, .iadd, 1, 0, 0, 0, .inl 0, []) ::
  (154, .sipush 200, 3, 0, 0, 0, .inl (nI 200), []) ::
  (157, .if_icmp .ge 30, 3, 187, 0, 0, .inl 0, []) ::
  (160, .aload_n 0, 1, 0, 0, 0, .inl 0, []) ::
  (161, .iload_n 2, 1, 2, 0, 0, .inl 0, []) ::
  (162, .iload_n 2, 1, 2, 0, 0, .inl 0, []) ::
  (163, .iload_n 3, 1, 3, 0, 0, .inl 0, []) ::
  (164, .iadd, 1, 0, 0, 0, .inl 0, []) ::
  (165, .invokevirtual 294, 3, 138, 3, 1, .inl 0, [1602, 8]) ::
  (168, .ifCond .eq 13, 3, 181, 0, 0, .inl 0, []) ::
  (171, .iload_n 1, 1, 1, 0, 0, .inl 0, []) ::
  (172, .ifCond .ne 7, 3, 179, 0, 0, .inl 0, []) ::
  (175, .iload_n 2, 1, 2, 0, 0, .inl 0, []) ::
  (176, .goto 4, 3, 180, 0, 0, .inl 0, []) :: s_X9_again_179) ls st μ := by rw [s_X9_again_151]
theorem v_X9_again_151 : vc X P m_X9_again h K k_X9_again S (n + 1) 151 ls st μ = if 151 ∈ S then mAt X m_X9_again h K 151 ls st μ else bb X P m_X9_again h K (vc X P m_X9_again h K k_X9_again S n) s_X9_again_151 ls st μ := by rw [vc_s, t_X9_again_151]
theorem w_X9_again_179 : bb X P m_X9_again h K J s_X9_again_179 ls st μ = bb X P m_X9_again h K J ((179, .iload_n 3, 1, 3, 0, 0, .inl 0, []) :: s_X9_again_180) ls st μ := by rw [s_X9_again_179]
theorem v_X9_again_179 : vc X P m_X9_again h K k_X9_again S (n + 1) 179 ls st μ = if 179 ∈ S then mAt X m_X9_again h K 179 ls st μ else bb X P m_X9_again h K (vc X P m_X9_again h K k_X9_again S n) s_X9_again_179 ls st μ := by rw [vc_s, t_X9_again_179]
theorem w_X9_again_180 : bb X P m_X9_again h K J s_X9_again_180 ls st μ = bb X P m_X9_again h K J ((180, .ireturn, 1, 0, 0, 0, .inl 0, []) :: s_X9_again_181) ls st μ := by rw [s_X9_again_180]
theorem v_X9_again_180 : vc X P m_X9_again h K k_X9_again S (n + 1) 180 ls st μ = if 180 ∈ S then mAt X m_X9_again h K 180 ls st μ else bb X P m_X9_again h K (vc X P m_X9_again h K k_X9_again S n) s_X9_again_180 ls st μ := by rw [vc_s, t_X9_again_180]
theorem w_X9_again_181 : bb X P m_X9_again h K J s_X9_again_181 ls st μ = bb X P m_X9_again h K J ((181, .iinc 3 1, 3, 3, 0, 0, .inl (nI 1), []) ::
  (184, .goto (-33), 3, 151, 0, 0, .inl 0, []) :: s_X9_again_187) ls st μ := by rw [s_X9_again_181]
theorem v_X9_again_181 : vc X P m_X9_again h K k_X9_again S (n + 1) 181 ls st μ = if 181 ∈ S then mAt X m_X9_again h K 181 ls st μ else bb X P m_X9_again h K (vc X P m_X9_again h K k_X9_again S n) s_X9_again_181 ls st μ := by rw [vc_s, t_X9_again_181]
theorem w_X9_again_187 : bb X P m_X9_again h K J s_X9_again_187 ls st μ = bb X P m_X9_again h K J ((187, .iinc 2 1, 3, 2, 0, 0, .inl (nI 1), []) ::
  (190, .goto (-48), 3, 142, 0, 0, .inl 0, []) :: s_X9_again_193) ls st μ := by rw [s_X9_again_187]
theorem v_X9_again_187 : vc X P m_X9_again h K k_X9_again S (n + 1) 187 ls st μ = if 187 ∈ S then mAt X m_X9_again h K 187 ls st μ else bb X P m_X9_again h K (vc X P m_X9_again h K k_X9_again S n) s_X9_again_187 ls st μ := by rw [vc_s, t_X9_again_187]
theorem w_X9_again_193 : bb X P m_X9_again h K J s_X9_again_193 ls st μ = bb X P m_X9_again h K J ((193, .iconst (-1), 1, 0, 0, 0, .inl (-1), []) ::
  (194, .ireturn, 1, 0, 0, 0, .inl 0, []) :: []) ls st μ := by rw [s_X9_again_193]
theorem v_X9_again_193 : vc X P m_X9_again h K k_X9_again S (n + 1) 193 ls st μ = if 193 ∈ S then mAt X m_X9_again h K 193 ls st μ else bb X P m_X9_again h K (vc X P m_X9_again h K k_X9_again S n) s_X9_again_193 ls st μ := by rw [vc_s, t_X9_again_193]
end
section
variable {X : mC} {P : mP} {h : Nat} {K : MV → Mem → Prop} {J : mJ} {ls : List (Nat × MV)} {st : List MV} {μ : Mem} {S : List Nat} {n : Nat}
theorem w_X9_all_0 : bb X P m_X9_all h K J s_X9_all_0 ls st μ = bb X P m_X9_all h K J ((0, .iconst 1, 1, 0, 0, 0, .inl (nI 1), []) ::
  (1, .aload_n 0, 1, 0, 0, 0, .inl 0, []) ::
  (2, .invokevirtual 219, 3, 253, 1, 1, .inl 0, [1472, 8]) ::
  (5, .ishl, 1, 0, 0, 0, .inl 0, []) ::
  (6, .iconst 1, 1, 0, 0, 0, .inl (nI 1), []) ::
  (7, .isub, 1, 0, 0, 0, .inl 0, []) ::
  (8, .ireturn, 1, 0, 0, 0, .inl 0, []) :: []) ls st μ := by rw [s_X9_all_0]
theorem v_X9_all_0 : vc X P m_X9_all h K k_X9_all S (n + 1) 0 ls st μ = if 0 ∈ S then mAt X m_X9_all h K 0 ls st μ else bb X P m_X9_all h K (vc X P m_X9_all h K k_X9_all S n) s_X9_all_0 ls st μ := by rw [vc_s, t_X9_all_0]
end
section
variable {X : mC} {P : mP} {h : Nat} {K : MV → Mem → Prop} {J : mJ} {ls : List (Nat × MV)} {st : List MV} {μ : Mem} {S : List Nat} {n : Nat}
theorem w_X9_areLike_0 : bb X P m_X9_areLike h K J s_X9_areLike_0 ls st μ = bb X P m_X9_areLike h K J ((0, .iconst 0, 1, 0, 0, 0, .inl (nI 0), []) ::
  (1, .istore_n 3, 1, 3, 0, 0, .inl 0, []) :: s_X9_areLike_2) ls st μ := by rw [s_X9_areLike_0]
theorem v_X9_areLike_0 : vc X P m_X9_areLike h K k_X9_areLike S (n + 1) 0 ls st μ = if 0 ∈ S then mAt X m_X9_areLike h K 0 ls st μ else bb X P m_X9_areLike h K (vc X P m_X9_areLike h K k_X9_areLike S n) s_X9_areLike_0 ls st μ := by rw [vc_s, t_X9_areLike_0]
theorem w_X9_areLike_2 : bb X P m_X9_areLike h K J s_X9_areLike_2 ls st μ = bb X P m_X9_areLike h K J ((2, .iload_n 3, 1, 3, 0, 0, .inl 0, []) ::
  (3, .bipush 55, 2, 0, 0, 0, .inl (nI 55), []) ::
  (5, .if_icmp .ge 36, 3, 41, 0, 0, .inl 0, []) ::
  (8, .aload_n 0, 1, 0, 0, 0, .inl 0, []) ::
  (9, .getfield 54, 3, 8, 30, 3, .inr (.inr (16, 11000, 15)), [1226]) ::
  (12, .bipush 55, 2, 0, 0, 0, .inl (nI 55), []) ::
  (14, .iload_n 1, 1, 1, 0, 0, .inl 0, []) ::
  (15, .imul, 1, 0, 0, 0, .inl 0, []) ::
  (16, .iload_n 3, 1, 3, 0, 0, .inl 0, []) ::
  (17, .iadd, 1, 0, 0, 0, .inl 0, []) ::
  (18, .iaload, 1, 0, 0, 0, .inl 0, []) ::
  (19, .aload_n 0, 1, 0, 0, 0, .inl 0, []) ::
  (20, .getfield 54, 3, 8, 30, 3, .inr (.inr (16, 11000, 15)), [1226]) ::
  (23, .bipush 55, 2, 0, 0, 0, .inl (nI 55), []) ::
  (25, .iload_n 2, 1, 2, 0, 0, .inl 0, []) ::
  (26, .imul, 1, 0, 0, 0, .inl 0, []) ::
  (27, .iload_n 3, 1, 3, 0, 0, .inl 0, []) ::
  (28, .iadd, 1, 0, 0, 0, .inl 0, []) ::
  (29, .iaload, 1, 0, 0, 0, .inl 0, []) ::
  (30, .if_icmp .eq 5, 3, 35, 0, 0, .inl 0, []) ::
  (33, .iconst 0, 1, 0, 0, 0, .inl (nI 0), []) ::
  (34, .ireturn, 1, 1, 0, 0, .inl 0, []) :: s_X9_areLike_35) ls st μ := by rw [s_X9_areLike_2]
theorem v_X9_areLike_2 : vc X P m_X9_areLike h K k_X9_areLike S (n + 1) 2 ls st μ = if 2 ∈ S then mAt X m_X9_areLike h K 2 ls st μ else bb X P m_X9_areLike h K (vc X P m_X9_areLike h K k_X9_areLike S n) s_X9_areLike_2 ls st μ := by rw [vc_s, t_X9_areLike_2]
theorem w_X9_areLike_35 : bb X P m_X9_areLike h K J s_X9_areLike_35 ls st μ = bb X P m_X9_areLike h K J ((35, .iinc 3 1, 3, 3, 0, 0, .inl (nI 1), []) ::
  (38, .goto (-36), 3, 2, 0, 0, .inl 0, []) :: s_X9_areLike_41) ls st μ := by rw [s_X9_areLike_35]
theorem v_X9_areLike_35 : vc X P m_X9_areLike h K k_X9_areLike S (n + 1) 35 ls st μ = if 35 ∈ S then mAt X m_X9_areLike h K 35 ls st μ else bb X P m_X9_areLike h K (vc X P m_X9_areLike h K k_X9_areLike S n) s_X9_areLike_35 ls st μ := by rw [vc_s, t_X9_areLike_35]
theorem w_X9_areLike_41 : bb X P m_X9_areLike h K J s_X9_areLike_41 ls st μ = bb X P m_X9_areLike h K J ((41, .iconst 1, 1, 0, 0, 0, .inl (nI 1), []) ::
  (42, .ireturn, 1, 1, 0, 0, .inl 0, []) :: []) ls st μ := by rw [s_X9_areLike_41]
theorem v_X9_areLike_41 : vc X P m_X9_areLike h K k_X9_areLike S (n + 1) 41 ls st μ = if 41 ∈ S then mAt X m_X9_areLike h K 41 ls st μ else bb X P m_X9_areLike h K (vc X P m_X9_areLike h K k_X9_areLike S n) s_X9_areLike_41 ls st μ := by rw [vc_s, t_X9_areLike_41]
end
section
variable {X : mC} {P : mP} {h : Nat} {K : MV → Mem → Prop} {J : mJ} {ls : List (Nat × MV)} {st : List MV} {μ : Mem} {S : List Nat} {n : Nat}
theorem w_X9_at_0 : bb X P m_X9_at h K J s_X9_at_0 ls st μ = bb X P m_X9_at h K J ((0, .aload_n 0, 1, 0, 0, 0, .inl 0, []) ::
  (1, .iconst 0, 1, 0, 0, 0, .inl (nI 0), []) ::
  (2, .putfield 76, 3, 8, 0, 0, .inl 0, [1196]) ::
  (5, .aload_n 0, 1, 0, 0, 0, .inl 0, []) ::
  (6, .iload_n 1, 1, 1, 0, 0, .inl 0, []) ::
  (7, .invokevirtual 225, 3, 190, 2, 1, .inl 0, [1468, 8]) ::
  (10, .ifCond .eq 20, 3, 30, 0, 0, .inl 0, []) ::
  (13, .aload_n 0, 1, 0, 0, 0, .inl 0, []) ::
  (14, .iload_n 2, 1, 2, 0, 0, .inl 0, []) ::
  (15, .invokevirtual 234, 3, 175, 2, 1, .inl 0, [1492, 8]) ::
  (18, .ifCond .eq 12, 3, 30, 0, 0, .inl 0, []) ::
  (21, .iload_n 3, 1, 3, 0, 0, .inl 0, []) ::
  (22, .iconst 0, 1, 0, 0, 0, .inl (nI 0), []) ::
  (23, .iconst 4, 1, 0, 0, 0, .inl (nI 4), []) ::
  (24, .invokestatic 143, 3, 177, 3, 1, .inl 0, [1414]) ::
  (27, .ifCond .ne 5, 3, 32, 0, 0, .inl 0, []) :: s_X9_at_30) ls st μ := by rw [s_X9_at_0]
theorem v_X9_at_0 : vc X P m_X9_at h K k_X9_at S (n + 1) 0 ls st μ = if 0 ∈ S then mAt X m_X9_at h K 0 ls st μ else bb X P m_X9_at h K (vc X P m_X9_at h K k_X9_at S n) s_X9_at_0 ls st μ := by rw [vc_s, t_X9_at_0]
theorem w_X9_at_30 : bb X P m_X9_at h K J s_X9_at_30 ls st μ = bb X P m_X9_at h K J ((30, .iconst (-1), 1, 0, 0, 0, .inl (-1), []) ::
  (31, .ireturn, 1, 0, 0, 0, .inl 0, []) :: s_X9_at_32) ls st μ := by rw [s_X9_at_30]
theorem v_X9_at_30 : vc X P m_X9_at h K k_X9_at S (n + 1) 30 ls st μ = if 30 ∈ S then mAt X m_X9_at h K 30 ls st μ else bb X P m_X9_at h K (vc X P m_X9_at h K k_X9_at S n) s_X9_at_30 ls st μ := by rw [vc_s, t_X9_at_30]
theorem w_X9_at_32 : bb X P m_X9_at h K J s_X9_at_32 ls st μ = bb X P m_X9_at h K J ((32, .aload_n 0, 1, 0, 0, 0, .inl 0, []) ::
  (33, .getfield 13, 3, 8, 14, 3, .inr (.inr (16, 925, 2)), [1210]) ::
  (36, .bipush 38, 2, 0, 0, 0, .inl (nI 38), []) ::
  (38, .bipush 48, 2, 0, 0, 0, .inl (nI 48), []) ::
  (40, .iload_n 3, 1, 3, 0, 0, .inl 0, []) ::
  (41, .imul, 1, 0, 0, 0, .inl 0, []) ::
  (42, .iadd, 1, 0, 0, 0, .inl 0, []) ::
  (43, .iload_n 1, 1, 1, 0, 0, .inl 0, []) ::
  (44, .iload_n 2, 1, 2, 0, 0, .inl 0, []) ::
  (45, .invokestatic 182, 3, 148, 2, 1, .inl 0, [1437]) ::
  (48, .iadd, 1, 0, 0, 0, .inl 0, []) ::
  (49, .iaload, 1, 0, 0, 0, .inl 0, []) ::
  (50, .ireturn, 1, 0, 0, 0, .inl 0, []) :: []) ls st μ := by rw [s_X9_at_32]
theorem v_X9_at_32 : vc X P m_X9_at h K k_X9_at S (n + 1) 32 ls st μ = if 32 ∈ S then mAt X m_X9_at h K 32 ls st μ else bb X P m_X9_at h K (vc X P m_X9_at h K k_X9_at S n) s_X9_at_32 ls st μ := by rw [vc_s, t_X9_at_32]
end
section
variable {X : mC} {P : mP} {h : Nat} {K : MV → Mem → Prop} {J : mJ} {ls : List (Nat × MV)} {st : List MV} {μ : Mem} {S : List Nat} {n : Nat}
theorem w_X9_bad_0 : bb X P m_X9_bad h K J s_X9_bad_0 ls st μ = bb X P m_X9_bad h K J ((0, .aload_n 0, 1, 0, 0, 0, .inl 0, []) ::
  (1, .aload_n 0, 1, 0, 0, 0, .inl 0, []) ::
  (2, .getfield 98, 3, 8, 7, 0, .inl 0, [1203]) ::
  (5, .iconst 1, 1, 0, 0, 0, .inl (nI 1), []) ::
  (6, .if_icmp .ne 7, 3, 13, 0, 0, .inl 0, []) ::
  (9, .iconst 1, 1, 0, 0, 0, .inl (nI 1), []) ::
  (10, .goto 4, 3, 14, 0, 0, .inl 0, []) :: s_X9_bad_13) ls st μ := by rw [s_X9_bad_0]
theorem v_X9_bad_0 : vc X P m_X9_bad h K k_X9_bad S (n + 1) 0 ls st μ = if 0 ∈ S then mAt X m_X9_bad h K 0 ls st μ else bb X P m_X9_bad h K (vc X P m_X9_bad h K k_X9_bad S n) s_X9_bad_0 ls st μ := by rw [vc_s, t_X9_bad_0]
theorem w_X9_bad_13 : bb X P m_X9_bad h K J s_X9_bad_13 ls st μ = bb X P m_X9_bad h K J ((13, .iload_n 1, 1, 1, 0, 0, .inl 0, []) :: s_X9_bad_14) ls st μ := by rw [s_X9_bad_13]
theorem v_X9_bad_13 : vc X P m_X9_bad h K k_X9_bad S (n + 1) 13 ls st μ = if 13 ∈ S then mAt X m_X9_bad h K 13 ls st μ else bb X P m_X9_bad h K (vc X P m_X9_bad h K k_X9_bad S n) s_X9_bad_13 ls st μ := by rw [vc_s, t_X9_bad_13]
theorem w_X9_bad_14 : bb X P m_X9_bad h K J s_X9_bad_14 ls st μ = bb X P m_X9_bad h K J ((14, .putfield 134, 3, 8, 10, 0, .inl 0, [1206]) ::
  (17, .aload_n 0, 1, 0, 0, 0, .inl 0, []) ::
  (18, .aload_n 0, 1, 0, 0, 0, .inl 0, []) ::
  (19, .getfield 92, 3, 8, 6, 0, .inl 0, [1202]) ::
  (22, .putfield 137, 3, 8, 11, 0, .inl 0, [1207]) ::
  (25, .iconst 0, 1, 0, 0, 0, .inl (nI 0), []) ::
  (26, .ireturn, 1, 1, 0, 0, .inl 0, []) :: []) ls st μ := by rw [s_X9_bad_14]
theorem v_X9_bad_14 : vc X P m_X9_bad h K k_X9_bad S (n + 1) 14 ls st μ = if 14 ∈ S then mAt X m_X9_bad h K 14 ls st μ else bb X P m_X9_bad h K (vc X P m_X9_bad h K k_X9_bad S n) s_X9_bad_14 ls st μ := by rw [vc_s, t_X9_bad_14]
end
section
variable {X : mC} {P : mP} {h : Nat} {K : MV → Mem → Prop} {J : mJ} {ls : List (Nat × MV)} {st : List MV} {μ : Mem} {S : List Nat} {n : Nat}
theorem w_X9_begin_0 : bb X P m_X9_begin h K J s_X9_begin_0 ls st μ = bb X P m_X9_begin h K J ((0, .aload_n 0, 1, 0, 0, 0, .inl 0, []) ::
  (1, .iconst 0, 1, 0, 0, 0, .inl (nI 0), []) ::
  (2, .putfield 76, 3, 8, 0, 0, .inl 0, [1196]) ::
  (5, .aload_n 0, 1, 0, 0, 0, .inl 0, []) ::
  (6, .aload_n 0, 1, 0, 0, 0, .inl 0, []) ::
  (7, .invokevirtual 156, 3, 245, 1, 1, .inl 0, [1357, 8]) ::
  (10, .putfield 86, 3, 8, 3, 0, .inl 0, [1199]) ::
  (13, .aload_n 0, 1, 0, 0, 0, .inl 0, []) ::
  (14, .iload_n 1, 1, 1, 0, 0, .inl 0, []) ::
  (15, .putfield 95, 3, 8, 4, 0, .inl 0, [1200]) ::
  (18, .aload_n 0, 1, 0, 0, 0, .inl 0, []) ::
  (19, .iconst 0, 1, 0, 0, 0, .inl (nI 0), []) ::
  (20, .putfield 134, 3, 8, 10, 0, .inl 0, [1206]) ::
  (23, .aload_n 0, 1, 0, 0, 0, .inl 0, []) ::
  (24, .iconst 0, 1, 0, 0, 0, .inl (nI 0), []) ::
  (25, .putfield 89, 3, 8, 5, 0, .inl 0, [1201]) ::
  (28, .aload_n 0, 1, 0, 0, 0, .inl 0, []) ::
  (29, .invokevirtual 150, 3, 162, 1, 0, .inl 0, [1361, 8]) ::
  (32, .return_, 1, 0, 0, 0, .inl 0, []) :: []) ls st μ := by rw [s_X9_begin_0]
theorem v_X9_begin_0 : vc X P m_X9_begin h K k_X9_begin S (n + 1) 0 ls st μ = if 0 ∈ S then mAt X m_X9_begin h K 0 ls st μ else bb X P m_X9_begin h K (vc X P m_X9_begin h K k_X9_begin S n) s_X9_begin_0 ls st μ := by rw [vc_s, t_X9_begin_0]
end
section
variable {X : mC} {P : mP} {h : Nat} {K : MV → Mem → Prop} {J : mJ} {ls : List (Nat × MV)} {st : List MV} {μ : Mem} {S : List Nat} {n : Nat}
theorem w_X9_begin__0 : bb X P m_X9_begin_ h K J s_X9_begin__0 ls st μ = bb X P m_X9_begin_ h K J ((0, .aload_n 0, 1, 0, 0, 0, .inl 0, []) ::
  (1, .iconst 0, 1, 0, 0, 0, .inl (nI 0), []) ::
  (2, .putfield 76, 3, 8, 0, 0, .inl 0, [1196]) ::
  (5, .aload_n 0, 1, 0, 0, 0, .inl 0, []) ::
  (6, .invokevirtual 219, 3, 253, 1, 1, .inl 0, [1472, 8]) ::
  (9, .ifCond .ne 5, 3, 14, 0, 0, .inl 0, []) ::
  (12, .iconst 0, 1, 0, 0, 0, .inl (nI 0), []) ::
  (13, .ireturn, 1, 1, 0, 0, .inl 0, []) :: s_X9_begin__14) ls st μ := by rw [s_X9_begin__0]
theorem v_X9_begin__0 : vc X P m_X9_begin_ h K k_X9_begin_ S (n + 1) 0 ls st μ = if 0 ∈ S then mAt X m_X9_begin_ h K 0 ls st μ else bb X P m_X9_begin_ h K (vc X P m_X9_begin_ h K k_X9_begin_ S n) s_X9_begin__0 ls st μ := by rw [vc_s, t_X9_begin__0]
theorem w_X9_begin__14 : bb X P m_X9_begin_ h K J s_X9_begin__14 ls st μ = bb X P m_X9_begin_ h K J ((14, .aload_n 0, 1, 0, 0, 0, .inl 0, []) ::
  (15, .invokevirtual 285, 3, 196, 1, 0, .inl 0, [1504, 8]) ::
  (18, .aload_n 0, 1, 0, 0, 0, .inl 0, []) ::
  (19, .aload_n 0, 1, 0, 0, 0, .inl 0, []) ::
  (20, .getfield 13, 3, 8, 14, 3, .inr (.inr (16, 925, 2)), [1210]) ::
  (23, .sipush 621, 3, 0, 0, 0, .inl (nI 621), []) ::
  (26, .invokevirtual 274, 3, 242, 3, 0, .inl 0, [1508, 8]) ::
  (29, .iconst 1, 1, 0, 0, 0, .inl (nI 1), []) ::
  (30, .ireturn, 1, 1, 0, 0, .inl 0, []) :: []) ls st μ := by rw [s_X9_begin__14]
theorem v_X9_begin__14 : vc X P m_X9_begin_ h K k_X9_begin_ S (n + 1) 14 ls st μ = if 14 ∈ S then mAt X m_X9_begin_ h K 14 ls st μ else bb X P m_X9_begin_ h K (vc X P m_X9_begin_ h K k_X9_begin_ S n) s_X9_begin__14 ls st μ := by rw [vc_s, t_X9_begin__14]
end
section
variable {X : mC} {P : mP} {h : Nat} {K : MV → Mem → Prop} {J : mJ} {ls : List (Nat × MV)} {st : List MV} {μ : Mem} {S : List Nat} {n : Nat}
theorem w_X9_bits_0 : bb X P m_X9_bits h K J s_X9_bits_0 ls st μ = bb X P m_X9_bits h K J ((0, .iconst 0, 1, 0, 0, 0, .inl (nI 0), []) ::
  (1, .istore_n 1, 1, 1, 0, 0, .inl 0, []) ::
  (2, .iload_n 0, 1, 0, 0, 0, .inl 0, []) ::
  (3, .istore_n 2, 1, 2, 0, 0, .inl 0, []) :: s_X9_bits_4) ls st μ := by rw [s_X9_bits_0]
theorem v_X9_bits_0 : vc X P m_X9_bits h K k_X9_bits S (n + 1) 0 ls st μ = if 0 ∈ S then mAt X m_X9_bits h K 0 ls st μ else bb X P m_X9_bits h K (vc X P m_X9_bits h K k_X9_bits S n) s_X9_bits_0 ls st μ := by rw [vc_s, t_X9_bits_0]
theorem w_X9_bits_4 : bb X P m_X9_bits h K J s_X9_bits_4 ls st μ = bb X P m_X9_bits h K J ((4, .iload_n 2, 1, 2, 0, 0, .inl 0, []) ::
  (5, .ifCond .eq 15, 3, 20, 0, 0, .inl 0, []) ::
  (8, .iinc 1 1, 3, 1, 0, 0, .inl (nI 1), []) ::
  (11, .iload_n 2, 1, 2, 0, 0, .inl 0, []) ::
  (12, .iload_n 2, 1, 2, 0, 0, .inl 0, []) ::
  (13, .iconst 1, 1, 0, 0, 0, .inl (nI 1), []) ::
  (14, .isub, 1, 0, 0, 0, .inl 0, []) ::
  (15, .iand, 1, 0, 0, 0, .inl 0, []) ::
  (16, .istore_n 2, 1, 2, 0, 0, .inl 0, []) ::
  (17, .goto (-13), 3, 4, 0, 0, .inl 0, []) :: s_X9_bits_20) ls st μ := by rw [s_X9_bits_4]
theorem v_X9_bits_4 : vc X P m_X9_bits h K k_X9_bits S (n + 1) 4 ls st μ = if 4 ∈ S then mAt X m_X9_bits h K 4 ls st μ else bb X P m_X9_bits h K (vc X P m_X9_bits h K k_X9_bits S n) s_X9_bits_4 ls st μ := by rw [vc_s, t_X9_bits_4]
theorem w_X9_bits_20 : bb X P m_X9_bits h K J s_X9_bits_20 ls st μ = bb X P m_X9_bits h K J ((20, .iload_n 1, 1, 1, 0, 0, .inl 0, []) ::
  (21, .ireturn, 1, 0, 0, 0, .inl 0, []) :: []) ls st μ := by rw [s_X9_bits_20]
theorem v_X9_bits_20 : vc X P m_X9_bits h K k_X9_bits S (n + 1) 20 ls st μ = if 20 ∈ S then mAt X m_X9_bits h K 20 ls st μ else bb X P m_X9_bits h K (vc X P m_X9_bits h K k_X9_bits S n) s_X9_bits_20 ls st μ := by rw [vc_s, t_X9_bits_20]
end
section
variable {X : mC} {P : mP} {h : Nat} {K : MV → Mem → Prop} {J : mJ} {ls : List (Nat × MV)} {st : List MV} {μ : Mem} {S : List Nat} {n : Nat}
theorem w_X9_bring_0 : bb X P m_X9_bring h K J s_X9_bring_0 ls st μ = bb X P m_X9_bring h K J ((0, .iconst 0, 1, 0, 0, 0, .inl (nI 0), []) ::
  (1, .istore 4, 2, 4, 0, 0, .inl 0, []) :: s_X9_bring_3) ls st μ := by rw [s_X9_bring_0]
theorem v_X9_bring_0 : vc X P m_X9_bring h K k_X9_bring S (n + 1) 0 ls st μ = if 0 ∈ S then mAt X m_X9_bring h K 0 ls st μ else bb X P m_X9_bring h K (vc X P m_X9_bring h K k_X9_bring S n) s_X9_bring_0 ls st μ := by rw [vc_s, t_X9_bring_0]
theorem w_X9_bring_3 : bb X P m_X9_bring h K J s_X9_bring_3 ls st μ = bb X P m_X9_bring h K J ((3, .iload 4, 2, 4, 0, 0, .inl 0, []) ::
  (5, .aload_n 0, 1, 0, 0, 0, .inl 0, []) ::
  (6, .getfield 13, 3, 8, 14, 3, .inr (.inr (16, 925, 2)), [1210]) ::
  (9, .sipush 278, 3, 0, 0, 0, .inl (nI 278), []) ::
  (12, .iaload, 1, 0, 0, 0, .inl 0, []) ::
  (13, .if_icmp .ge 180, 3, 193, 0, 0, .inl 0, []) ::
  (16, .sipush 279, 3, 0, 0, 0, .inl (nI 279), []) ::
  (19, .iconst 5, 1, 0, 0, 0, .inl (nI 5), []) ::
  (20, .iload 4, 2, 4, 0, 0, .inl 0, []) ::
  (22, .imul, 1, 0, 0, 0, .inl 0, []) ::
  (23, .iadd, 1, 0, 0, 0, .inl 0, []) ::
  (24, .istore 5, 2, 5, 0, 0, .inl 0, []) ::
  (26, .aload_n 0, 1, 0, 0, 0, .inl 0, []) ::
  (27, .getfield 13, 3, 8, 14, 3, .inr (.inr (16, 925, 2)), [1210]) ::
  (30, .iload 5, 2, 5, 0, 0, .inl 0, []) ::
  (32, .iaload, 1, 0, 0, 0, .inl 0, []) ::
  (33, .iconst 1, 1, 0, 0, 0, .inl (nI 1), []) ::
  (34, .if_icmp .ne 153, 3, 187, 0, 0, .inl 0, []) ::
  (37, .aload_n 0, 1, 0, 0, 0, .inl 0, []) ::
  (38, .getfield 13, 3, 8, 14, 3, .inr (.inr (16, 925, 2)), [1210]) ::
  (41, .iload 5, 2, 5, 0, 0, .inl 0, []) ::
  (43, .iconst 4, 1, 0, 0, 0, .inl (nI 4), []) ::
  (44, .iadd, 1, 0, 0, 0, .inl 0, []) ::
  (45, .iaload, 1, 0, 0, 0, .inl 0, []) ::
  (46, .iload_n 3, 1, 3, 0, 0, .inl 0, []) ::
  (47, .if_icmp .eq 6, 3, 53, 0, 0, .inl 0, []) ::
  (50, .goto 137, 3, 187, 0, 0, .inl 0, []) :: s_X9_bring_53) ls st μ := by rw [s_X9_bring_3]
theorem v_X9_bring_3 : vc X P m_X9_bring h K k_X9_bring S (n + 1) 3 ls st μ = if 3 ∈ S then mAt X m_X9_bring h K 3 ls st μ else bb X P m_X9_bring h K (vc X P m_X9_bring h K k_X9_bring S n) s_X9_bring_3 ls st μ := by rw [vc_s, t_X9_bring_3]
theorem w_X9_bring_53 : bb X P m_X9_bring h K J s_X9_bring_53 ls st μ = bb X P m_X9_bring h K J ((53, .aload_n 0, 1, 0, 0, 0, .inl 0, []) ::
  (54, .getfield 13, 3, 8, 14, 3, .inr (.inr (16, 925, 2)), [1210]) ::
  (57, .iload 5, 2, 5, 0, 0, .inl 0, []) ::
  (59, .iconst 1, 1, 0, 0, 0, .inl (nI 1), []) ::
  (60, .iadd, 1, 0, 0, 0, .inl 0, []) ::
  (61, .iaload, 1, 0, 0, 0, .inl 0, []) ::
  (62, .aload_n 0, 1, 0, 0, 0, .inl 0, []) ::
  (63, .getfield 13, 3, 8, 14, 3, .inr (.inr (16, 925, 2)), [1210]) ::
  (66, .iload 5, 2, 5, 0, 0, .inl 0, []) ::
  (68, .iconst 2, 1, 0, 0, 0, .inl (nI 2), []) ::
  (69, .iadd, 1, 0, 0, 0, .inl 0, []) ::
  (70, .iaload, 1, 0, 0, 0, .inl 0, []) ::
  (71, .invokestatic 182, 3, 148, 2, 1, .inl 0, [1437]) ::
  (74, .istore 6, 2, 6, 0, 0, .inl 0, []) ::
  (76, .aload_n 0, 1, 0, 0, 0, .inl 0, []) ::
  (77, .getfield 39, 3, 8, 22, 3, .inr (.inr (16, 278, 10)), [1218]) ::
  (80, .bipush 86, 2, 0, 0, 0, .inl (nI 86), []) ::
  (82, .iload 6, 2, 6, 0, 0, .inl 0, []) ::
  (84, .iadd, 1, 0, 0, 0, .inl 0, []) ::
  (85, .iaload, 1, 0, 0, 0, .inl 0, []) ::
  (86, .aload_n 1, 1, 1, 0, 0, .inl 0, []) ::
  (87, .iload_n 2, 1, 2, 0, 0, .inl 0, []) ::
  (88, .iconst 2, 1, 0, 0, 0, .inl (nI 2), []) ::
  (89, .iadd, 1, 0, 0, 0, .inl 0, []) ::
  (90, .iload 6, 2, 6, 0, 0, .inl 0, []) ::
  (92, .iadd, 1, 0, 0, 0, .inl 0, []) ::
  (93, .iaload, 1, 0, 0, 0, .inl 0, []) ::
  (94, .isub, 1, 0, 0, 0, .inl 0, []) ::
  (95, .istore 7, 2, 7, 0, 0, .inl 0, []) ::
  (97, .aload_n 0, 1, 0, 0, 0, .inl 0, []) ::
  (98, .getfield 13, 3, 8, 14, 3, .inr (.inr (16, 925, 2)), [1210]) ::
  (101, .iload 5, 2, 5, 0, 0, .inl 0, []) ::
  (103, .iconst 3, 1, 0, 0, 0, .inl (nI 3), []) ::
  (104, .iadd, 1, 0, 0, 0, .inl 0, []) ::
  (105, .iaload, 1, 0, 0, 0, .inl 0, []) ::
  (106, .iload 7, 2, 7, 0, 0, .inl 0, []) ::
  (108, .invokestatic 247, 3, 199, 2, 1, .inl 0, [1528]) ::
  (111, .istore 8, 2, 8, 0, 0, .inl 0, []) ::
  (113, .aload_n 1, 1, 1, 0, 0, .inl 0, []) ::
  (114, .iload_n 2, 1, 2, 0, 0, .inl 0, []) ::
  (115, .iconst 2, 1, 0, 0, 0, .inl (nI 2), []) ::
  (116, .iadd, 1, 0, 0, 0, .inl 0, []) ::
  (117, .iload 6, 2, 6, 0, 0, .inl 0, []) ::
  (119, .iadd, 1, 0, 0, 0, .inl 0, []) ::
  (120, .dup2, 1, 0, 0, 0, .inl 0, []) ::
  (121, .iaload, 1, 0, 0, 0, .inl 0, []) ::
  (122, .iload 8, 2, 8, 0, 0, .inl 0, []) ::
  (124, .iadd, 1, 0, 0, 0, .inl 0, []) ::
  (125, .iastore, 1, 0, 0, 0, .inl 0, []) ::
  (126, .aload_n 1, 1, 1, 0, 0, .inl 0, []) ::
  (127, .iload_n 2, 1, 2, 0, 0, .inl 0, []) ::
  (128, .sipush 266, 3, 0, 0, 0, .inl (nI 266), []) ::
  (131, .iadd, 1, 0, 0, 0, .inl 0, []) ::
  (132, .aload_n 0, 1, 0, 0, 0, .inl 0, []) ::
  (133, .getfield 13, 3, 8, 14, 3, .inr (.inr (16, 925, 2)), [1210]) ::
  (136, .iload 5, 2, 5, 0, 0, .inl 0, []) ::
  (138, .iconst 2, 1, 0, 0, 0, .inl (nI 2), []) ::
  (139, .iadd, 1, 0, 0, 0, .inl 0, []) ::
  (140, .iaload, 1, 0, 0, 0, .inl 0, []) ::
  (141, .iadd, 1, 0, 0, 0, .inl 0, []) ::
  (142, .dup2, 1, 0, 0, 0, .inl 0, []) ::
  (143, .iaload, 1, 0, 0, 0, .inl 0, []) ::
  (144, .aload_n 0, 1, 0, 0, 0, .inl 0, []) ::
  (145, .getfield 13, 3, 8, 14, 3, .inr (.inr (16, 925, 2)), [1210]) ::
  (148, .iload 5, 2, 5, 0, 0, .inl 0, []) ::
  (150, .iconst 3, 1, 0, 0, 0, .inl (nI 3), []) ::
  (151, .iadd, 1, 0, 0, 0, .inl 0, []) ::
  (152, .iaload, 1, 0, 0, 0, .inl 0, []) ::
  (153, .iadd, 1, 0, 0, 0, .inl 0, []) ::
  (154, .iastore, 1, 0, 0, 0, .inl 0, []) ::
  (155, .aload_n 1, 1, 1, 0, 0, .inl 0, []) ::
  (156, .iload_n 2, 1, 2, 0, 0, .inl 0, []) ::
  (157, .sipush 284, 3, 0, 0, 0, .inl (nI 284), []) ::
  (160, .iadd, 1, 0, 0, 0, .inl 0, []) ::
  (161, .aload_n 0, 1, 0, 0, 0, .inl 0, []) ::
  (162, .getfield 13, 3, 8, 14, 3, .inr (.inr (16, 925, 2)), [1210]) ::
  (165, .iload 5, 2, 5, 0, 0, .inl 0, []) ::
  (167, .iconst 2, 1, 0, 0, 0, .inl (nI 2), []) ::
  (168, .iadd, 1, 0, 0, 0, .inl 0, []) ::
  (169, .iaload, 1, 0, 0, 0, .inl 0, []) ::
  (170, .iadd, 1, 0, 0, 0, .inl 0, []) ::
  (171, .dup2, 1, 0, 0, 0, .inl 0, []) ::
  (172, .iaload, 1, 0, 0, 0, .inl 0, []) ::
  (173, .aload_n 0, 1, 0, 0, 0, .inl 0, []) ::
  (174, .getfield 13, 3, 8, 14, 3, .inr (.inr (16, 925, 2)), [1210]) ::
  (177, .iload 5, 2, 5, 0, 0, .inl 0, []) ::
  (179, .iconst 3, 1, 0, 0, 0, .inl (nI 3), []) ::
  (180, .iadd, 1, 0, 0, 0, .inl 0, []) ::
  (181, .iaload, 1, 0, 0, 0, .inl 0, []) ::
  (182, .iload 8, 2, 8, 0, 0, .inl 0, []) ::
  (184, .isub, 1, 0, 0, 0, .inl 0, []) ::
  (185, .iadd, 1, 0, 0, 0, .inl 0, []) ::
  (186, .iastore, 1, 0, 0, 0, .inl 0, []) :: s_X9_bring_187) ls st μ := by rw [s_X9_bring_53]
theorem v_X9_bring_53 : vc X P m_X9_bring h K k_X9_bring S (n + 1) 53 ls st μ = if 53 ∈ S then mAt X m_X9_bring h K 53 ls st μ else bb X P m_X9_bring h K (vc X P m_X9_bring h K k_X9_bring S n) s_X9_bring_53 ls st μ := by rw [vc_s, t_X9_bring_53]
theorem w_X9_bring_187 : bb X P m_X9_bring h K J s_X9_bring_187 ls st μ = bb X P m_X9_bring h K J ((187, .iinc 4 1, 3, 4, 0, 0, .inl (nI 1), []) ::
  (190, .goto (-187), 3, 3, 0, 0, .inl 0, []) :: s_X9_bring_193) ls st μ := by rw [s_X9_bring_187]
theorem v_X9_bring_187 : vc X P m_X9_bring h K k_X9_bring S (n + 1) 187 ls st μ = if 187 ∈ S then mAt X m_X9_bring h K 187 ls st μ else bb X P m_X9_bring h K (vc X P m_X9_bring h K k_X9_bring S n) s_X9_bring_187 ls st μ := by rw [vc_s, t_X9_bring_187]
theorem w_X9_bring_193 : bb X P m_X9_bring h K J s_X9_bring_193 ls st μ = bb X P m_X9_bring h K J ((193, .return_, 1, 0, 0, 0, .inl 0, []) :: []) ls st μ := by rw [s_X9_bring_193]
theorem v_X9_bring_193 : vc X P m_X9_bring h K k_X9_bring S (n + 1) 193 ls st μ = if 193 ∈ S then mAt X m_X9_bring h K 193 ls st μ else bb X P m_X9_bring h K (vc X P m_X9_bring h K k_X9_bring S n) s_X9_bring_193 ls st μ := by rw [vc_s, t_X9_bring_193]
end
section
variable {X : mC} {P : mP} {h : Nat} {K : MV → Mem → Prop} {J : mJ} {ls : List (Nat × MV)} {st : List MV} {μ : Mem} {S : List Nat} {n : Nat}
theorem w_X9_brook_0 : bb X P m_X9_brook h K J s_X9_brook_0 ls st μ = bb X P m_X9_brook h K J ((0, .aload_n 0, 1, 0, 0, 0, .inl 0, []) ::
  (1, .sipush 900, 3, 0, 0, 0, .inl (nI 900), []) ::
  (4, .invokevirtual 213, 3, 141, 2, 0, .inl 0, [1353, 8]) ::
  (7, .iconst 0, 1, 0, 0, 0, .inl (nI 0), []) ::
  (8, .istore_n 1, 1, 1, 0, 0, .inl 0, []) :: s_X9_brook_9) ls st μ := by rw [s_X9_brook_0]
theorem v_X9_brook_0 : vc X P m_X9_brook h K k_X9_brook S (n + 1) 0 ls st μ = if 0 ∈ S then mAt X m_X9_brook h K 0 ls st μ else bb X P m_X9_brook h K (vc X P m_X9_brook h K k_X9_brook S n) s_X9_brook_0 ls st μ := by rw [vc_s, t_X9_brook_0]
theorem w_X9_brook_9 : bb X P m_X9_brook h K J s_X9_brook_9 ls st μ = bb X P m_X9_brook h K J ((9, .iload_n 1, 1, 1, 0, 0, .inl 0, []) ::
  (10, .sipush 278, 3, 0, 0, 0, .inl (nI 278), []) ::
  (13, .if_icmp .ge 16, 3, 29, 0, 0, .inl 0, []) ::
  (16, .aload_n 0, 1, 0, 0, 0, .inl 0, []) ::
  (17, .getfield 16, 3, 8, 15, 3, .inr (.inr (16, 278, 3)), [1211]) ::
  (20, .iload_n 1, 1, 1, 0, 0, .inl 0, []) ::
  (21, .iconst 0, 1, 0, 0, 0, .inl (nI 0), []) ::
  (22, .iastore, 1, 0, 0, 0, .inl 0, []) ::
  (23, .iinc 1 1, 3, 1, 0, 0, .inl (nI 1), []) ::
  (26, .goto (-17), 3, 9, 0, 0, .inl 0, []) :: s_X9_brook_29) ls st μ := by rw [s_X9_brook_9]
theorem v_X9_brook_9 : vc X P m_X9_brook h K k_X9_brook S (n + 1) 9 ls st μ = if 9 ∈ S then mAt X m_X9_brook h K 9 ls st μ else bb X P m_X9_brook h K (vc X P m_X9_brook h K k_X9_brook S n) s_X9_brook_9 ls st μ := by rw [vc_s, t_X9_brook_9]
theorem w_X9_brook_29 : bb X P m_X9_brook h K J s_X9_brook_29 ls st μ = bb X P m_X9_brook h K J ((29, .iconst 0, 1, 0, 0, 0, .inl (nI 0), []) ::
  (30, .istore_n 1, 1, 1, 0, 0, .inl 0, []) :: s_X9_brook_31) ls st μ := by rw [s_X9_brook_29]
theorem v_X9_brook_29 : vc X P m_X9_brook h K k_X9_brook S (n + 1) 29 ls st μ = if 29 ∈ S then mAt X m_X9_brook h K 29 ls st μ else bb X P m_X9_brook h K (vc X P m_X9_brook h K k_X9_brook S n) s_X9_brook_29 ls st μ := by rw [vc_s, t_X9_brook_29]
theorem w_X9_brook_31 : bb X P m_X9_brook h K J s_X9_brook_31 ls st μ = bb X P m_X9_brook h K J ((31, .aload_n 0, 1, 0, 0, 0, .inl 0, []) ::
  (32, .getfield 98, 3, 8, 7, 0, .inl 0, [1203]) ::
  (35, .ifCond .eq 23, 3, 58, 0, 0, .inl 0, []) ::
  (38, .aload_n 0, 1, 0, 0, 0, .inl 0, []) ::
  (39, .invokevirtual 216, 3, 224, 1, 1, .inl 0, [1377, 8]) ::
  (42, .ifCond .ne 10, 3, 52, 0, 0, .inl 0, []) ::
  (45, .iconst (-1), 1, 0, 0, 0, .inl (-1), []) ::
  (46, .aload_n 0, 1, 0, 0, 0, .inl 0, []) ::
  (47, .getfield 137, 3, 8, 11, 0, .inl 0, [1207]) ::
  (50, .isub, 1, 0, 0, 0, .inl 0, []) ::
  (51, .ireturn, 1, 0, 0, 0, .inl 0, []) :: s_X9_brook_52) ls st μ := by rw [s_X9_brook_31]
theorem v_X9_brook_31 : vc X P m_X9_brook h K k_X9_brook S (n + 1) 31 ls st μ = if 31 ∈ S then mAt X m_X9_brook h K 31 ls st μ else bb X P m_X9_brook h K (vc X P m_X9_brook h K k_X9_brook S n) s_X9_brook_31 ls st μ := by rw [vc_s, t_X9_brook_31]
theorem w_X9_brook_52 : bb X P m_X9_brook h K J s_X9_brook_52 ls st μ = bb X P m_X9_brook h K J ((52, .iinc 1 1, 3, 1, 0, 0, .inl (nI 1), []) ::
  (55, .goto (-24), 3, 31, 0, 0, .inl 0, []) :: s_X9_brook_58) ls st μ := by rw [s_X9_brook_52]
theorem v_X9_brook_52 : vc X P m_X9_brook h K k_X9_brook S (n + 1) 52 ls st μ = if 52 ∈ S then mAt X m_X9_brook h K 52 ls st μ else bb X P m_X9_brook h K (vc X P m_X9_brook h K k_X9_brook S n) s_X9_brook_52 ls st μ := by rw [vc_s, t_X9_brook_52]
theorem w_X9_brook_58 : bb X P m_X9_brook h K J s_X9_brook_58 ls st μ = bb X P m_X9_brook h K J ((58, .iconst 0, 1, 0, 0, 0, .inl (nI 0), []) ::
  (59, .istore_n 2, 1, 2, 0, 0, .inl 0, []) :: s_X9_brook_60) ls st μ := by rw [s_X9_brook_58]
theorem v_X9_brook_58 : vc X P m_X9_brook h K k_X9_brook S (n + 1) 58 ls st μ = if 58 ∈ S then mAt X m_X9_brook h K 58 ls st μ else bb X P m_X9_brook h K (vc X P m_X9_brook h K k_X9_brook S n) s_X9_brook_58 ls st μ := by rw [vc_s, t_X9_brook_58]
theorem w_X9_brook_60 : bb X P m_X9_brook h K J s_X9_brook_60 ls st μ = bb X P m_X9_brook h K J ((60, .iload_n 2, 1, 2, 0, 0, .inl 0, []) ::
  (61, .sipush 278, 3, 0, 0, 0, .inl (nI 278), []) ::
  (64, .if_icmp .ge 21, 3, 85, 0, 0, .inl 0, []) ::
  (67, .aload_n 0, 1, 0, 0, 0, .inl 0, []) ::
  (68, .getfield 13, 3, 8, 14, 3, .inr (.inr (16, 925, 2)), [1210]) ::
  (71, .iload_n 2, 1, 2, 0, 0, .inl 0, []) ::
  (72, .aload_n 0, 1, 0, 0, 0, .inl 0, []) ::
  (73, .getfield 16, 3, 8, 15, 3, .inr (.inr (16, 278, 3)), [1211]) ::
  (76, .iload_n 2, 1, 2, 0, 0, .inl 0, []) ::
  (77, .iaload, 1, 0, 0, 0, .inl 0, []) ::
  (78, .iastore, 1, 0, 0, 0, .inl 0, []) ::
  (79, .iinc 2 1, 3, 2, 0, 0, .inl (nI 1), []) ::
  (82, .goto (-22), 3, 60, 0, 0, .inl 0, []) :: s_X9_brook_85) ls st μ := by rw [s_X9_brook_60]
theorem v_X9_brook_60 : vc X P m_X9_brook h K k_X9_brook S (n + 1) 60 ls st μ = if 60 ∈ S then mAt X m_X9_brook h K 60 ls st μ else bb X P m_X9_brook h K (vc X P m_X9_brook h K k_X9_brook S n) s_X9_brook_60 ls st μ := by rw [vc_s, t_X9_brook_60]
theorem w_X9_brook_85 : bb X P m_X9_brook h K J s_X9_brook_85 ls st μ = bb X P m_X9_brook h K J ((85, .sipush 278, 3, 0, 0, 0, .inl (nI 278), []) ::
  (88, .istore_n 2, 1, 2, 0, 0, .inl 0, []) :: s_X9_brook_89) ls st μ := by rw [s_X9_brook_85]
theorem v_X9_brook_85 : vc X P m_X9_brook h K k_X9_brook S (n + 1) 85 ls st μ = if 85 ∈ S then mAt X m_X9_brook h K 85 ls st μ else bb X P m_X9_brook h K (vc X P m_X9_brook h K k_X9_brook S n) s_X9_brook_85 ls st μ := by rw [vc_s, t_X9_brook_85]
theorem w_X9_brook_89 : bb X P m_X9_brook h K J s_X9_brook_89 ls st μ = bb X P m_X9_brook h K J ((89, .iload_n 2, 1, 2, 0, 0, .inl 0, []) ::
  (90, .sipush 925, 3, 0, 0, 0, .inl (nI 925), []) ::
  (93, .if_icmp .ge 16, 3, 109, 0, 0, .inl 0, []) ::
  (96, .aload_n 0, 1, 0, 0, 0, .inl 0, []) ::
  (97, .getfield 13, 3, 8, 14, 3, .inr (.inr (16, 925, 2)), [1210]) ::
  (100, .iload_n 2, 1, 2, 0, 0, .inl 0, []) ::
  (101, .iconst 0, 1, 0, 0, 0, .inl (nI 0), []) ::
  (102, .iastore, 1, 0, 0, 0, .inl 0, []) ::
  (103, .iinc 2 1, 3, 2, 0, 0, .inl (nI 1), []) ::
  (106, .goto (-17), 3, 89, 0, 0, .inl 0, []) :: s_X9_brook_109) ls st μ := by rw [s_X9_brook_89]
theorem v_X9_brook_89 : vc X P m_X9_brook h K k_X9_brook S (n + 1) 89 ls st μ = if 89 ∈ S then mAt X m_X9_brook h K 89 ls st μ else bb X P m_X9_brook h K (vc X P m_X9_brook h K k_X9_brook S n) s_X9_brook_89 ls st μ := by rw [vc_s, t_X9_brook_89]
theorem w_X9_brook_109 : bb X P m_X9_brook h K J s_X9_brook_109 ls st μ = bb X P m_X9_brook h K J ((109, .iconst 0, 1, 0, 0, 0, .inl (nI 0), []) ::
  (110, .istore_n 2, 1, 2, 0, 0, .inl 0, []) :: s_X9_brook_111) ls st μ := by rw [s_X9_brook_109]
theorem v_X9_brook_109 : vc X P m_X9_brook h K k_X9_brook S (n + 1) 109 ls st μ = if 109 ∈ S then mAt X m_X9_brook h K 109 ls st μ else bb X P m_X9_brook h K (vc X P m_X9_brook h K k_X9_brook S n) s_X9_brook_109 ls st μ := by rw [vc_s, t_X9_brook_109]
theorem w_X9_brook_111 : bb X P m_X9_brook h K J s_X9_brook_111 ls st μ = bb X P m_X9_brook h K J ((111, .iload_n 2, 1, 2, 0, 0, .inl 0, []) ::
  (112, .bipush 14, 2, 0, 0, 0, .inl (nI 14), []) ::
  (114, .if_icmp .ge 21, 3, 135, 0, 0, .inl 0, []) ::
  (117, .aload_n 0, 1, 0, 0, 0, .inl 0, []) ::
  (118, .getfield 25, 3, 8, 18, 3, .inr (.inr (17, 14, 6)), [1214]) ::
  (121, .iload_n 2, 1, 2, 0, 0, .inl 0, []) ::
  (122, .aload_n 0, 1, 0, 0, 0, .inl 0, []) ::
  (123, .getfield 29, 3, 8, 19, 3, .inr (.inr (17, 14, 7)), [1215]) ::
  (126, .iload_n 2, 1, 2, 0, 0, .inl 0, []) ::
  (127, .laload, 1, 0, 0, 0, .inl 0, []) ::
  (128, .lastore, 1, 0, 0, 0, .inl 0, []) ::
  (129, .iinc 2 1, 3, 2, 0, 0, .inl (nI 1), []) ::
  (132, .goto (-21), 3, 111, 0, 0, .inl 0, []) :: s_X9_brook_135) ls st μ := by rw [s_X9_brook_111]
theorem v_X9_brook_111 : vc X P m_X9_brook h K k_X9_brook S (n + 1) 111 ls st μ = if 111 ∈ S then mAt X m_X9_brook h K 111 ls st μ else bb X P m_X9_brook h K (vc X P m_X9_brook h K k_X9_brook S n) s_X9_brook_111 ls st μ := by rw [vc_s, t_X9_brook_111]
theorem w_X9_brook_135 : bb X P m_X9_brook h K J s_X9_brook_135 ls st μ = bb X P m_X9_brook h K J ((135, .iload_n 1, 1, 1, 0, 0, .inl 0, []) ::
  (136, .ireturn, 1, 0, 0, 0, .inl 0, []) :: []) ls st μ := by rw [s_X9_brook_135]
theorem v_X9_brook_135 : vc X P m_X9_brook h K k_X9_brook S (n + 1) 135 ls st μ = if 135 ∈ S then mAt X m_X9_brook h K 135 ls st μ else bb X P m_X9_brook h K (vc X P m_X9_brook h K k_X9_brook S n) s_X9_brook_135 ls st μ := by rw [vc_s, t_X9_brook_135]
end
section
variable {X : mC} {P : mP} {h : Nat} {K : MV → Mem → Prop} {J : mJ} {ls : List (Nat × MV)} {st : List MV} {μ : Mem} {S : List Nat} {n : Nat}
theorem w_X9_by_0 : bb X P m_X9_by h K J s_X9_by_0 ls st μ = bb X P m_X9_by h K J ((0, .aload_n 0, 1, 0, 0, 0, .inl 0, []) ::
  (1, .iconst 0, 1, 0, 0, 0, .inl (nI 0), []) ::
  (2, .putfield 76, 3, 8, 0, 0, .inl 0, [1196]) ::
  (5, .aload_n 0, 1, 0, 0, 0, .inl 0, []) ::
  (6, .iload_n 1, 1, 1, 0, 0, .inl 0, []) ::
  (7, .invokevirtual 300, 3, 181, 2, 1, .inl 0, [1610, 8]) ::
  (10, .ifCond .eq 19, 3, 29, 0, 0, .inl 0, []) ::
  (13, .iload_n 2, 1, 2, 0, 0, .inl 0, []) ::
  (14, .invokestatic 303, 3, 176, 1, 1, .inl 0, [1614]) ::
  (17, .ifCond .eq 12, 3, 29, 0, 0, .inl 0, []) ::
  (20, .aload_n 0, 1, 0, 0, 0, .inl 0, []) ::
  (21, .iload_n 1, 1, 1, 0, 0, .inl 0, []) ::
  (22, .iload_n 2, 1, 2, 0, 0, .inl 0, []) ::
  (23, .invokevirtual 306, 3, 204, 3, 1, .inl 0, [1617, 8]) ::
  (26, .goto 4, 3, 30, 0, 0, .inl 0, []) :: s_X9_by_29) ls st μ := by rw [s_X9_by_0]
theorem v_X9_by_0 : vc X P m_X9_by h K k_X9_by S (n + 1) 0 ls st μ = if 0 ∈ S then mAt X m_X9_by h K 0 ls st μ else bb X P m_X9_by h K (vc X P m_X9_by h K k_X9_by S n) s_X9_by_0 ls st μ := by rw [vc_s, t_X9_by_0]
theorem w_X9_by_29 : bb X P m_X9_by h K J s_X9_by_29 ls st μ = bb X P m_X9_by h K J ((29, .iconst (-1), 1, 0, 0, 0, .inl (-1), []) :: s_X9_by_30) ls st μ := by rw [s_X9_by_29]
theorem v_X9_by_29 : vc X P m_X9_by h K k_X9_by S (n + 1) 29 ls st μ = if 29 ∈ S then mAt X m_X9_by h K 29 ls st μ else bb X P m_X9_by h K (vc X P m_X9_by h K k_X9_by S n) s_X9_by_29 ls st μ := by rw [vc_s, t_X9_by_29]
theorem w_X9_by_30 : bb X P m_X9_by h K J s_X9_by_30 ls st μ = bb X P m_X9_by h K J ((30, .ireturn, 1, 0, 0, 0, .inl 0, []) :: []) ls st μ := by rw [s_X9_by_30]
theorem v_X9_by_30 : vc X P m_X9_by h K k_X9_by S (n + 1) 30 ls st μ = if 30 ∈ S then mAt X m_X9_by h K 30 ls st μ else bb X P m_X9_by h K (vc X P m_X9_by h K k_X9_by S n) s_X9_by_30 ls st μ := by rw [vc_s, t_X9_by_30]
end
section
variable {X : mC} {P : mP} {h : Nat} {K : MV → Mem → Prop} {J : mJ} {ls : List (Nat × MV)} {st : List MV} {μ : Mem} {S : List Nat} {n : Nat}
theorem w_X9_byteAt_0 : bb X P m_X9_byteAt h K J s_X9_byteAt_0 ls st μ = bb X P m_X9_byteAt h K J ((0, .aload_n 0, 1, 0, 0, 0, .inl 0, []) ::
  (1, .iconst 0, 1, 0, 0, 0, .inl (nI 0), []) ::
  (2, .putfield 76, 3, 8, 0, 0, .inl 0, [1196]) ::
  (5, .iload_n 1, 1, 1, 0, 0, .inl 0, []) ::
  (6, .ifCond .lt 20, 3, 26, 0, 0, .inl 0, []) ::
  (9, .iload_n 1, 1, 1, 0, 0, .inl 0, []) ::
  (10, .aload_n 0, 1, 0, 0, 0, .inl 0, []) ::
  (11, .getfield 343, 3, 8, 38, 0, .inl 0, [1234]) ::
  (14, .if_icmp .ge 12, 3, 26, 0, 0, .inl 0, []) ::
  (17, .aload_n 0, 1, 0, 0, 0, .inl 0, []) ::
  (18, .getfield 67, 3, 8, 36, 3, .inr (.inr (16, 160, 18)), [1232]) ::
  (21, .iload_n 1, 1, 1, 0, 0, .inl 0, []) ::
  (22, .iaload, 1, 0, 0, 0, .inl 0, []) ::
  (23, .goto 4, 3, 27, 0, 0, .inl 0, []) :: s_X9_byteAt_26) ls st μ := by rw [s_X9_byteAt_0]
theorem v_X9_byteAt_0 : vc X P m_X9_byteAt h K k_X9_byteAt S (n + 1) 0 ls st μ = if 0 ∈ S then mAt X m_X9_byteAt h K 0 ls st μ else bb X P m_X9_byteAt h K (vc X P m_X9_byteAt h K k_X9_byteAt S n) s_X9_byteAt_0 ls st μ := by rw [vc_s, t_X9_byteAt_0]
theorem w_X9_byteAt_26 : bb X P m_X9_byteAt h K J s_X9_byteAt_26 ls st μ = bb X P m_X9_byteAt h K J ((26, .iconst (-1), 1, 0, 0, 0, .inl (-1), []) :: s_X9_byteAt_27) ls st μ := by rw [s_X9_byteAt_26]
theorem v_X9_byteAt_26 : vc X P m_X9_byteAt h K k_X9_byteAt S (n + 1) 26 ls st μ = if 26 ∈ S then mAt X m_X9_byteAt h K 26 ls st μ else bb X P m_X9_byteAt h K (vc X P m_X9_byteAt h K k_X9_byteAt S n) s_X9_byteAt_26 ls st μ := by rw [vc_s, t_X9_byteAt_26]
theorem w_X9_byteAt_27 : bb X P m_X9_byteAt h K J s_X9_byteAt_27 ls st μ = bb X P m_X9_byteAt h K J ((27, .ireturn, 1, 0, 0, 0, .inl 0, []) :: []) ls st μ := by rw [s_X9_byteAt_27]
theorem v_X9_byteAt_27 : vc X P m_X9_byteAt h K k_X9_byteAt S (n + 1) 27 ls st μ = if 27 ∈ S then mAt X m_X9_byteAt h K 27 ls st μ else bb X P m_X9_byteAt h K (vc X P m_X9_byteAt h K k_X9_byteAt S n) s_X9_byteAt_27 ls st μ := by rw [vc_s, t_X9_byteAt_27]
end
section
variable {X : mC} {P : mP} {h : Nat} {K : MV → Mem → Prop} {J : mJ} {ls : List (Nat × MV)} {st : List MV} {μ : Mem} {S : List Nat} {n : Nat}
theorem w_X9_cell_0 : bb X P m_X9_cell h K J s_X9_cell_0 ls st μ = bb X P m_X9_cell h K J ((0, .bipush 6, 2, 0, 0, 0, .inl (nI 6), []) ::
  (2, .iload_n 0, 1, 0, 0, 0, .inl 0, []) ::
  (3, .imul, 1, 0, 0, 0, .inl 0, []) ::
  (4, .iload_n 1, 1, 1, 0, 0, .inl 0, []) ::
  (5, .iadd, 1, 0, 0, 0, .inl 0, []) ::
  (6, .ireturn, 1, 0, 0, 0, .inl 0, []) :: []) ls st μ := by rw [s_X9_cell_0]
theorem v_X9_cell_0 : vc X P m_X9_cell h K k_X9_cell S (n + 1) 0 ls st μ = if 0 ∈ S then mAt X m_X9_cell h K 0 ls st μ else bb X P m_X9_cell h K (vc X P m_X9_cell h K k_X9_cell S n) s_X9_cell_0 ls st μ := by rw [vc_s, t_X9_cell_0]
end
section
variable {X : mC} {P : mP} {h : Nat} {K : MV → Mem → Prop} {J : mJ} {ls : List (Nat × MV)} {st : List MV} {μ : Mem} {S : List Nat} {n : Nat}
theorem w_X9_change_0 : bb X P m_X9_change h K J s_X9_change_0 ls st μ = bb X P m_X9_change h K J ((0, .aload_n 0, 1, 0, 0, 0, .inl 0, []) ::
  (1, .getfield 39, 3, 8, 22, 3, .inr (.inr (16, 278, 10)), [1218]) ::
  (4, .iload_n 1, 1, 1, 0, 0, .inl 0, []) ::
  (5, .iaload, 1, 0, 0, 0, .inl 0, []) ::
  (6, .istore_n 3, 1, 3, 0, 0, .inl 0, []) ::
  (7, .aload_n 0, 1, 0, 0, 0, .inl 0, []) ::
  (8, .getfield 39, 3, 8, 22, 3, .inr (.inr (16, 278, 10)), [1218]) ::
  (11, .iload_n 1, 1, 1, 0, 0, .inl 0, []) ::
  (12, .aload_n 0, 1, 0, 0, 0, .inl 0, []) ::
  (13, .getfield 39, 3, 8, 22, 3, .inr (.inr (16, 278, 10)), [1218]) ::
  (16, .iload_n 2, 1, 2, 0, 0, .inl 0, []) ::
  (17, .iaload, 1, 0, 0, 0, .inl 0, []) ::
  (18, .iastore, 1, 0, 0, 0, .inl 0, []) ::
  (19, .aload_n 0, 1, 0, 0, 0, .inl 0, []) ::
  (20, .getfield 39, 3, 8, 22, 3, .inr (.inr (16, 278, 10)), [1218]) ::
  (23, .iload_n 2, 1, 2, 0, 0, .inl 0, []) ::
  (24, .iload_n 3, 1, 3, 0, 0, .inl 0, []) ::
  (25, .iastore, 1, 0, 0, 0, .inl 0, []) ::
  (26, .return_, 1, 0, 0, 0, .inl 0, []) :: []) ls st μ := by rw [s_X9_change_0]
theorem v_X9_change_0 : vc X P m_X9_change h K k_X9_change S (n + 1) 0 ls st μ = if 0 ∈ S then mAt X m_X9_change h K 0 ls st μ else bb X P m_X9_change h K (vc X P m_X9_change h K k_X9_change S n) s_X9_change_0 ls st μ := by rw [vc_s, t_X9_change_0]
end
section
variable {X : mC} {P : mP} {h : Nat} {K : MV → Mem → Prop} {J : mJ} {ls : List (Nat × MV)} {st : List MV} {μ : Mem} {S : List Nat} {n : Nat}
theorem w_X9_come_0 : bb X P m_X9_come h K J s_X9_come_0 ls st μ = bb X P m_X9_come h K J ((0, .bipush 24, 2, 0, 0, 0, .inl (nI 24), []) ::
  (2, .istore_n 2, 1, 2, 0, 0, .inl 0, []) :: s_X9_come_3) ls st μ := by rw [s_X9_come_0]
theorem v_X9_come_0 : vc X P m_X9_come h K k_X9_come S (n + 1) 0 ls st μ = if 0 ∈ S then mAt X m_X9_come h K 0 ls st μ else bb X P m_X9_come h K (vc X P m_X9_come h K k_X9_come S n) s_X9_come_0 ls st μ := by rw [vc_s, t_X9_come_0]
theorem w_X9_come_3 : bb X P m_X9_come h K J s_X9_come_3 ls st μ = bb X P m_X9_come h K J ((3, .iload_n 2, 1, 2, 0, 0, .inl 0, []) ::
  (4, .ifCond .lt 35, 3, 39, 0, 0, .inl 0, []) ::
  (7, .aload_n 0, 1, 0, 0, 0, .inl 0, []) ::
  (8, .getfield 7, 3, 8, 1, 3, .inr (.inr (16, 940, 1)), [1197]) ::
  (11, .aload_n 0, 1, 0, 0, 0, .inl 0, []) ::
  (12, .getfield 79, 3, 8, 2, 0, .inl 0, [1198]) ::
  (15, .iload_n 1, 1, 1, 0, 0, .inl 0, []) ::
  (16, .iload_n 2, 1, 2, 0, 0, .inl 0, []) ::
  (17, .iushr, 1, 0, 0, 0, .inl 0, []) ::
  (18, .sipush 255, 3, 0, 0, 0, .inl (nI 255), []) ::
  (21, .iand, 1, 0, 0, 0, .inl 0, []) ::
  (22, .iastore, 1, 0, 0, 0, .inl 0, []) ::
  (23, .aload_n 0, 1, 0, 0, 0, .inl 0, []) ::
  (24, .dup, 1, 0, 0, 0, .inl 0, []) ::
  (25, .getfield 79, 3, 8, 2, 0, .inl 0, [1198]) ::
  (28, .iconst 1, 1, 0, 0, 0, .inl (nI 1), []) ::
  (29, .iadd, 1, 0, 0, 0, .inl 0, []) ::
  (30, .putfield 79, 3, 8, 2, 0, .inl 0, [1198]) ::
  (33, .iinc 2 (-8), 3, 2, 0, 0, .inl (-8), []) ::
  (36, .goto (-33), 3, 3, 0, 0, .inl 0, []) :: s_X9_come_39) ls st μ := by rw [s_X9_come_3]
theorem v_X9_come_3 : vc X P m_X9_come h K k_X9_come S (n + 1) 3 ls st μ = if 3 ∈ S then mAt X m_X9_come h K 3 ls st μ else bb X P m_X9_come h K (vc X P m_X9_come h K k_X9_come S n) s_X9_come_3 ls st μ := by rw [vc_s, t_X9_come_3]
theorem w_X9_come_39 : bb X P m_X9_come h K J s_X9_come_39 ls st μ = bb X P m_X9_come h K J ((39, .return_, 1, 0, 0, 0, .inl 0, []) :: []) ls st μ := by rw [s_X9_come_39]
theorem v_X9_come_39 : vc X P m_X9_come h K k_X9_come S (n + 1) 39 ls st μ = if 39 ∈ S then mAt X m_X9_come h K 39 ls st μ else bb X P m_X9_come h K (vc X P m_X9_come h K k_X9_come S n) s_X9_come_39 ls st μ := by rw [vc_s, t_X9_come_39]
end
section
variable {X : mC} {P : mP} {h : Nat} {K : MV → Mem → Prop} {J : mJ} {ls : List (Nat × MV)} {st : List MV} {μ : Mem} {S : List Nat} {n : Nat}
theorem w_X9_comes_0 : bb X P m_X9_comes h K J s_X9_comes_0 ls st μ = bb X P m_X9_comes h K J ((0, .aload_n 0, 1, 0, 0, 0, .inl 0, []) ::
  (1, .iconst 0, 1, 0, 0, 0, .inl (nI 0), []) ::
  (2, .putfield 76, 3, 8, 0, 0, .inl 0, [1196]) ::
  (5, .aload_n 0, 1, 0, 0, 0, .inl 0, []) ::
  (6, .iload_n 1, 1, 1, 0, 0, .inl 0, []) ::
  (7, .iload_n 2, 1, 2, 0, 0, .inl 0, []) ::
  (8, .invokevirtual 291, 3, 188, 3, 1, .inl 0, [1562, 8]) ::
  (11, .ifCond .eq 20, 3, 31, 0, 0, .inl 0, []) ::
  (14, .aload_n 0, 1, 0, 0, 0, .inl 0, []) ::
  (15, .getfield 13, 3, 8, 14, 3, .inr (.inr (16, 925, 2)), [1210]) ::
  (18, .sipush 719, 3, 0, 0, 0, .inl (nI 719), []) ::
  (21, .iload_n 1, 1, 1, 0, 0, .inl 0, []) ::
  (22, .iload_n 2, 1, 2, 0, 0, .inl 0, []) ::
  (23, .invokestatic 182, 3, 148, 2, 1, .inl 0, [1437]) ::
  (26, .iadd, 1, 0, 0, 0, .inl 0, []) ::
  (27, .iaload, 1, 0, 0, 0, .inl 0, []) ::
  (28, .goto 4, 3, 32, 0, 0, .inl 0, []) :: s_X9_comes_31) ls st μ := by rw [s_X9_comes_0]
theorem v_X9_comes_0 : vc X P m_X9_comes h K k_X9_comes S (n + 1) 0 ls st μ = if 0 ∈ S then mAt X m_X9_comes h K 0 ls st μ else bb X P m_X9_comes h K (vc X P m_X9_comes h K k_X9_comes S n) s_X9_comes_0 ls st μ := by rw [vc_s, t_X9_comes_0]
theorem w_X9_comes_31 : bb X P m_X9_comes h K J s_X9_comes_31 ls st μ = bb X P m_X9_comes h K J ((31, .iconst (-1), 1, 0, 0, 0, .inl (-1), []) :: s_X9_comes_32) ls st μ := by rw [s_X9_comes_31]
theorem v_X9_comes_31 : vc X P m_X9_comes h K k_X9_comes S (n + 1) 31 ls st μ = if 31 ∈ S then mAt X m_X9_comes h K 31 ls st μ else bb X P m_X9_comes h K (vc X P m_X9_comes h K k_X9_comes S n) s_X9_comes_31 ls st μ := by rw [vc_s, t_X9_comes_31]
theorem w_X9_comes_32 : bb X P m_X9_comes h K J s_X9_comes_32 ls st μ = bb X P m_X9_comes h K J ((32, .ireturn, 1, 0, 0, 0, .inl 0, []) :: []) ls st μ := by rw [s_X9_comes_32]
theorem v_X9_comes_32 : vc X P m_X9_comes h K k_X9_comes S (n + 1) 32 ls st μ = if 32 ∈ S then mAt X m_X9_comes h K 32 ls st μ else bb X P m_X9_comes h K (vc X P m_X9_comes h K k_X9_comes S n) s_X9_comes_32 ls st μ := by rw [vc_s, t_X9_comes_32]
end
section
variable {X : mC} {P : mP} {h : Nat} {K : MV → Mem → Prop} {J : mJ} {ls : List (Nat × MV)} {st : List MV} {μ : Mem} {S : List Nat} {n : Nat}
theorem w_X9_count_0 : bb X P m_X9_count h K J s_X9_count_0 ls st μ = bb X P m_X9_count h K J ((0, .aload_n 0, 1, 0, 0, 0, .inl 0, []) ::
  (1, .iconst 0, 1, 0, 0, 0, .inl (nI 0), []) ::
  (2, .putfield 76, 3, 8, 0, 0, .inl 0, [1196]) ::
  (5, .iload_n 1, 1, 1, 0, 0, .inl 0, []) ::
  (6, .tableswitch 98 0 7 #[46, 51, 56, 63, 70, 77, 84, 93], 46, 104, 0, 0, .inl 0, [52, 57, 62, 69, 76, 83, 90, 99]) :: s_X9_count_52) ls st μ := by rw [s_X9_count_0]
theorem v_X9_count_0 : vc X P m_X9_count h K k_X9_count S (n + 1) 0 ls st μ = if 0 ∈ S then mAt X m_X9_count h K 0 ls st μ else bb X P m_X9_count h K (vc X P m_X9_count h K k_X9_count S n) s_X9_count_0 ls st μ := by rw [vc_s, t_X9_count_0]
theorem w_X9_count_52 : bb X P m_X9_count h K J s_X9_count_52 ls st μ = bb X P m_X9_count h K J ((52, .aload_n 0, 1, 0, 0, 0, .inl 0, []) ::
  (53, .invokevirtual 222, 3, 165, 1, 1, .inl 0, [1484, 8]) ::
  (56, .ireturn, 1, 0, 0, 0, .inl 0, []) :: s_X9_count_57) ls st μ := by rw [s_X9_count_52]
theorem v_X9_count_52 : vc X P m_X9_count h K k_X9_count S (n + 1) 52 ls st μ = if 52 ∈ S then mAt X m_X9_count h K 52 ls st μ else bb X P m_X9_count h K (vc X P m_X9_count h K k_X9_count S n) s_X9_count_52 ls st μ := by rw [vc_s, t_X9_count_52]
theorem w_X9_count_57 : bb X P m_X9_count h K J s_X9_count_57 ls st μ = bb X P m_X9_count h K J ((57, .aload_n 0, 1, 0, 0, 0, .inl 0, []) ::
  (58, .invokevirtual 219, 3, 253, 1, 1, .inl 0, [1472, 8]) ::
  (61, .ireturn, 1, 0, 0, 0, .inl 0, []) :: s_X9_count_62) ls st μ := by rw [s_X9_count_57]
theorem v_X9_count_57 : vc X P m_X9_count h K k_X9_count S (n + 1) 57 ls st μ = if 57 ∈ S then mAt X m_X9_count h K 57 ls st μ else bb X P m_X9_count h K (vc X P m_X9_count h K k_X9_count S n) s_X9_count_57 ls st μ := by rw [vc_s, t_X9_count_57]
theorem w_X9_count_62 : bb X P m_X9_count h K J s_X9_count_62 ls st μ = bb X P m_X9_count h K J ((62, .aload_n 0, 1, 0, 0, 0, .inl 0, []) ::
  (63, .getfield 13, 3, 8, 14, 3, .inr (.inr (16, 925, 2)), [1210]) ::
  (66, .iconst 3, 1, 0, 0, 0, .inl (nI 3), []) ::
  (67, .iaload, 1, 0, 0, 0, .inl 0, []) ::
  (68, .ireturn, 1, 0, 0, 0, .inl 0, []) :: s_X9_count_69) ls st μ := by rw [s_X9_count_62]
theorem v_X9_count_62 : vc X P m_X9_count h K k_X9_count S (n + 1) 62 ls st μ = if 62 ∈ S then mAt X m_X9_count h K 62 ls st μ else bb X P m_X9_count h K (vc X P m_X9_count h K k_X9_count S n) s_X9_count_62 ls st μ := by rw [vc_s, t_X9_count_62]
theorem w_X9_count_69 : bb X P m_X9_count h K J s_X9_count_69 ls st μ = bb X P m_X9_count h K J ((69, .aload_n 0, 1, 0, 0, 0, .inl 0, []) ::
  (70, .getfield 13, 3, 8, 14, 3, .inr (.inr (16, 925, 2)), [1210]) ::
  (73, .iconst 4, 1, 0, 0, 0, .inl (nI 4), []) ::
  (74, .iaload, 1, 0, 0, 0, .inl 0, []) ::
  (75, .ireturn, 1, 0, 0, 0, .inl 0, []) :: s_X9_count_76) ls st μ := by rw [s_X9_count_69]
theorem v_X9_count_69 : vc X P m_X9_count h K k_X9_count S (n + 1) 69 ls st μ = if 69 ∈ S then mAt X m_X9_count h K 69 ls st μ else bb X P m_X9_count h K (vc X P m_X9_count h K k_X9_count S n) s_X9_count_69 ls st μ := by rw [vc_s, t_X9_count_69]
theorem w_X9_count_76 : bb X P m_X9_count h K J s_X9_count_76 ls st μ = bb X P m_X9_count h K J ((76, .aload_n 0, 1, 0, 0, 0, .inl 0, []) ::
  (77, .getfield 13, 3, 8, 14, 3, .inr (.inr (16, 925, 2)), [1210]) ::
  (80, .iconst 5, 1, 0, 0, 0, .inl (nI 5), []) ::
  (81, .iaload, 1, 0, 0, 0, .inl 0, []) ::
  (82, .ireturn, 1, 0, 0, 0, .inl 0, []) :: s_X9_count_83) ls st μ := by rw [s_X9_count_76]
theorem v_X9_count_76 : vc X P m_X9_count h K k_X9_count S (n + 1) 76 ls st μ = if 76 ∈ S then mAt X m_X9_count h K 76 ls st μ else bb X P m_X9_count h K (vc X P m_X9_count h K k_X9_count S n) s_X9_count_76 ls st μ := by rw [vc_s, t_X9_count_76]
theorem w_X9_count_83 : bb X P m_X9_count h K J s_X9_count_83 ls st μ = bb X P m_X9_count h K J ((83, .aload_n 0, 1, 0, 0, 0, .inl 0, []) ::
  (84, .getfield 13, 3, 8, 14, 3, .inr (.inr (16, 925, 2)), [1210]) ::
  (87, .iconst 2, 1, 0, 0, 0, .inl (nI 2), []) ::
  (88, .iaload, 1, 0, 0, 0, .inl 0, []) ::
  (89, .ireturn, 1, 0, 0, 0, .inl 0, []) :: s_X9_count_90) ls st μ := by rw [s_X9_count_83]
theorem v_X9_count_83 : vc X P m_X9_count h K k_X9_count S (n + 1) 83 ls st μ = if 83 ∈ S then mAt X m_X9_count h K 83 ls st μ else bb X P m_X9_count h K (vc X P m_X9_count h K k_X9_count S n) s_X9_count_83 ls st μ := by rw [vc_s, t_X9_count_83]
theorem w_X9_count_90 : bb X P m_X9_count h K J s_X9_count_90 ls st μ = bb X P m_X9_count h K J ((90, .aload_n 0, 1, 0, 0, 0, .inl 0, []) ::
  (91, .getfield 13, 3, 8, 14, 3, .inr (.inr (16, 925, 2)), [1210]) ::
  (94, .sipush 278, 3, 0, 0, 0, .inl (nI 278), []) ::
  (97, .iaload, 1, 0, 0, 0, .inl 0, []) ::
  (98, .ireturn, 1, 0, 0, 0, .inl 0, []) :: s_X9_count_99) ls st μ := by rw [s_X9_count_90]
theorem v_X9_count_90 : vc X P m_X9_count h K k_X9_count S (n + 1) 90 ls st μ = if 90 ∈ S then mAt X m_X9_count h K 90 ls st μ else bb X P m_X9_count h K (vc X P m_X9_count h K k_X9_count S n) s_X9_count_90 ls st μ := by rw [vc_s, t_X9_count_90]
theorem w_X9_count_99 : bb X P m_X9_count h K J s_X9_count_99 ls st μ = bb X P m_X9_count h K J ((99, .aload_n 0, 1, 0, 0, 0, .inl 0, []) ::
  (100, .getfield 79, 3, 8, 2, 0, .inl 0, [1198]) ::
  (103, .ireturn, 1, 0, 0, 0, .inl 0, []) :: s_X9_count_104) ls st μ := by rw [s_X9_count_99]
theorem v_X9_count_99 : vc X P m_X9_count h K k_X9_count S (n + 1) 99 ls st μ = if 99 ∈ S then mAt X m_X9_count h K 99 ls st μ else bb X P m_X9_count h K (vc X P m_X9_count h K k_X9_count S n) s_X9_count_99 ls st μ := by rw [vc_s, t_X9_count_99]
theorem w_X9_count_104 : bb X P m_X9_count h K J s_X9_count_104 ls st μ = bb X P m_X9_count h K J ((104, .iconst (-1), 1, 0, 0, 0, .inl (-1), []) ::
  (105, .ireturn, 1, 0, 0, 0, .inl 0, []) :: []) ls st μ := by rw [s_X9_count_104]
theorem v_X9_count_104 : vc X P m_X9_count h K k_X9_count S (n + 1) 104 ls st μ = if 104 ∈ S then mAt X m_X9_count h K 104 ls st μ else bb X P m_X9_count h K (vc X P m_X9_count h K k_X9_count S n) s_X9_count_104 ls st μ := by rw [vc_s, t_X9_count_104]
end
section
variable {X : mC} {P : mP} {h : Nat} {K : MV → Mem → Prop} {J : mJ} {ls : List (Nat × MV)} {st : List MV} {μ : Mem} {S : List Nat} {n : Nat}
theorem w_X9_dry_0 : bb X P m_X9_dry h K J s_X9_dry_0 ls st μ = bb X P m_X9_dry h K J ((0, .aload_n 0, 1, 0, 0, 0, .inl 0, []) ::
  (1, .iconst 0, 1, 0, 0, 0, .inl (nI 0), []) ::
  (2, .putfield 76, 3, 8, 0, 0, .inl 0, [1196]) ::
  (5, .aload_n 0, 1, 0, 0, 0, .inl 0, []) ::
  (6, .iload_n 1, 1, 1, 0, 0, .inl 0, []) ::
  (7, .invokevirtual 225, 3, 190, 2, 1, .inl 0, [1468, 8]) ::
  (10, .ifCond .eq 35, 3, 45, 0, 0, .inl 0, []) ::
  (13, .aload_n 0, 1, 0, 0, 0, .inl 0, []) ::
  (14, .iload_n 2, 1, 2, 0, 0, .inl 0, []) ::
  (15, .invokevirtual 234, 3, 175, 2, 1, .inl 0, [1492, 8]) ::
  (18, .ifCond .eq 27, 3, 45, 0, 0, .inl 0, []) ::
  (21, .iload_n 3, 1, 3, 0, 0, .inl 0, []) ::
  (22, .invokestatic 303, 3, 176, 1, 1, .inl 0, [1614]) ::
  (25, .ifCond .eq 20, 3, 45, 0, 0, .inl 0, []) ::
  (28, .aload_n 0, 1, 0, 0, 0, .inl 0, []) ::
  (29, .getfield 13, 3, 8, 14, 3, .inr (.inr (16, 925, 2)), [1210]) ::
  (32, .sipush 230, 3, 0, 0, 0, .inl (nI 230), []) ::
  (35, .iload_n 1, 1, 1, 0, 0, .inl 0, []) ::
  (36, .iload_n 2, 1, 2, 0, 0, .inl 0, []) ::
  (37, .invokestatic 182, 3, 148, 2, 1, .inl 0, [1437]) ::
  (40, .iadd, 1, 0, 0, 0, .inl 0, []) ::
  (41, .iaload, 1, 0, 0, 0, .inl 0, []) ::
  (42, .ifCond .ne 5, 3, 47, 0, 0, .inl 0, []) :: s_X9_dry_45) ls st μ := by rw [s_X9_dry_0]
theorem v_X9_dry_0 : vc X P m_X9_dry h K k_X9_dry S (n + 1) 0 ls st μ = if 0 ∈ S then mAt X m_X9_dry h K 0 ls st μ else bb X P m_X9_dry h K (vc X P m_X9_dry h K k_X9_dry S n) s_X9_dry_0 ls st μ := by rw [vc_s, t_X9_dry_0]
theorem w_X9_dry_45 : bb X P m_X9_dry h K J s_X9_dry_45 ls st μ = bb X P m_X9_dry h K J ((45, .iconst (-1), 1, 0, 0, 0, .inl (-1), []) ::
  (46, .ireturn, 1, 0, 0, 0, .inl 0, []) :: s_X9_dry_47) ls st μ := by rw [s_X9_dry_45]
theorem v_X9_dry_45 : vc X P m_X9_dry h K k_X9_dry S (n + 1) 45 ls st μ = if 45 ∈ S then mAt X m_X9_dry h K 45 ls st μ else bb X P m_X9_dry h K (vc X P m_X9_dry h K k_X9_dry S n) s_X9_dry_45 ls st μ := by rw [vc_s, t_X9_dry_45]
theorem w_X9_dry_47 : bb X P m_X9_dry h K J s_X9_dry_47 ls st μ = bb X P m_X9_dry h K J ((47, .aload_n 0, 1, 0, 0, 0, .inl 0, []) ::
  (48, .aload_n 0, 1, 0, 0, 0, .inl 0, []) ::
  (49, .invokevirtual 309, 3, 137, 1, 1, .inl 0, [1629, 8]) ::
  (52, .iload_n 3, 1, 3, 0, 0, .inl 0, []) ::
  (53, .invokevirtual 306, 3, 204, 3, 1, .inl 0, [1617, 8]) ::
  (56, .istore 4, 2, 4, 0, 0, .inl 0, []) ::
  (58, .aload_n 0, 1, 0, 0, 0, .inl 0, []) ::
  (59, .invokevirtual 285, 3, 196, 1, 0, .inl 0, [1504, 8]) ::
  (62, .aload_n 0, 1, 0, 0, 0, .inl 0, []) ::
  (63, .getfield 39, 3, 8, 22, 3, .inr (.inr (16, 278, 10)), [1218]) ::
  (66, .sipush 230, 3, 0, 0, 0, .inl (nI 230), []) ::
  (69, .iload_n 1, 1, 1, 0, 0, .inl 0, []) ::
  (70, .iload_n 2, 1, 2, 0, 0, .inl 0, []) ::
  (71, .invokestatic 182, 3, 148, 2, 1, .inl 0, [1437]) ::
  (74, .iadd, 1, 0, 0, 0, .inl 0, []) ::
  (75, .iconst 0, 1, 0, 0, 0, .inl (nI 0), []) ::
  (76, .iastore, 1, 0, 0, 0, .inl 0, []) ::
  (77, .iload 4, 2, 4, 0, 0, .inl 0, []) ::
  (79, .aload_n 0, 1, 0, 0, 0, .inl 0, []) ::
  (80, .iload_n 3, 1, 3, 0, 0, .inl 0, []) ::
  (81, .invokevirtual 297, 3, 238, 2, 1, .inl 0, [1621, 8]) ::
  (84, .isub, 1, 0, 0, 0, .inl 0, []) ::
  (85, .ireturn, 1, 0, 0, 0, .inl 0, []) :: []) ls st μ := by rw [s_X9_dry_47]
theorem v_X9_dry_47 : vc X P m_X9_dry h K k_X9_dry S (n + 1) 47 ls st μ = if 47 ∈ S then mAt X m_X9_dry h K 47 ls st μ else bb X P m_X9_dry h K (vc X P m_X9_dry h K k_X9_dry S n) s_X9_dry_47 ls st μ := by rw [vc_s, t_X9_dry_47]
end
section
variable {X : mC} {P : mP} {h : Nat} {K : MV → Mem → Prop} {J : mJ} {ls : List (Nat × MV)} {st : List MV} {μ : Mem} {S : List Nat} {n : Nat}
theorem w_X9_end_0 : bb X P m_X9_end h K J s_X9_end_0 ls st μ = bb X P m_X9_end h K J ((0, .aload_n 0, 1, 0, 0, 0, .inl 0, []) ::
  (1, .iconst 0, 1, 0, 0, 0, .inl (nI 0), []) ::
  (2, .putfield 76, 3, 8, 0, 0, .inl 0, [1196]) ::
  (5, .iload_n 1, 1, 1, 0, 0, .inl 0, []) ::
  (6, .ifCond .lt 11, 3, 17, 0, 0, .inl 0, []) ::
  (9, .iload_n 1, 1, 1, 0, 0, .inl 0, []) ::
  (10, .aload_n 0, 1, 0, 0, 0, .inl 0, []) ::
  (11, .getfield 79, 3, 8, 2, 0, .inl 0, [1198]) ::
  (14, .if_icmp .le 5, 3, 19, 0, 0, .inl 0, []) :: s_X9_end_17) ls st μ := by rw [s_X9_end_0]
theorem v_X9_end_0 : vc X P m_X9_end h K k_X9_end S (n + 1) 0 ls st μ = if 0 ∈ S then mAt X m_X9_end h K 0 ls st μ else bb X P m_X9_end h K (vc X P m_X9_end h K k_X9_end S n) s_X9_end_0 ls st μ := by rw [vc_s, t_X9_end_0]
theorem w_X9_end_17 : bb X P m_X9_end h K J s_X9_end_17 ls st μ = bb X P m_X9_end h K J ((17, .iconst 0, 1, 0, 0, 0, .inl (nI 0), []) ::
  (18, .ireturn, 1, 1, 0, 0, .inl 0, []) :: s_X9_end_19) ls st μ := by rw [s_X9_end_17]
theorem v_X9_end_17 : vc X P m_X9_end h K k_X9_end S (n + 1) 17 ls st μ = if 17 ∈ S then mAt X m_X9_end h K 17 ls st μ else bb X P m_X9_end h K (vc X P m_X9_end h K k_X9_end S n) s_X9_end_17 ls st μ := by rw [vc_s, t_X9_end_17]
theorem w_X9_end_19 : bb X P m_X9_end h K J s_X9_end_19 ls st μ = bb X P m_X9_end h K J ((19, .aload_n 0, 1, 0, 0, 0, .inl 0, []) ::
  (20, .iload_n 1, 1, 1, 0, 0, .inl 0, []) ::
  (21, .putfield 79, 3, 8, 2, 0, .inl 0, [1198]) ::
  (24, .iconst 1, 1, 0, 0, 0, .inl (nI 1), []) ::
  (25, .ireturn, 1, 1, 0, 0, .inl 0, []) :: []) ls st μ := by rw [s_X9_end_19]
theorem v_X9_end_19 : vc X P m_X9_end h K k_X9_end S (n + 1) 19 ls st μ = if 19 ∈ S then mAt X m_X9_end h K 19 ls st μ else bb X P m_X9_end h K (vc X P m_X9_end h K k_X9_end S n) s_X9_end_19 ls st μ := by rw [vc_s, t_X9_end_19]
end
section
variable {X : mC} {P : mP} {h : Nat} {K : MV → Mem → Prop} {J : mJ} {ls : List (Nat × MV)} {st : List MV} {μ : Mem} {S : List Nat} {n : Nat}
theorem w_X9_exchanged_0 : bb X P m_X9_exchanged h K J s_X9_exchanged_0 ls st μ = bb X P m_X9_exchanged h K J ((0, .aload_n 0, 1, 0, 0, 0, .inl 0, []) ::
  (1, .iconst 0, 1, 0, 0, 0, .inl (nI 0), []) ::
  (2, .putfield 76, 3, 8, 0, 0, .inl 0, [1196]) ::
  (5, .iload_n 1, 1, 1, 0, 0, .inl 0, []) ::
  (6, .invokestatic 303, 3, 176, 1, 1, .inl 0, [1614]) ::
  (9, .ifCond .ne 5, 3, 14, 0, 0, .inl 0, []) ::
  (12, .iconst (-1), 1, 0, 0, 0, .inl (-1), []) ::
  (13, .ireturn, 1, 0, 0, 0, .inl 0, []) :: s_X9_exchanged_14) ls st μ := by rw [s_X9_exchanged_0]
theorem v_X9_exchanged_0 : vc X P m_X9_exchanged h K k_X9_exchanged S (n + 1) 0 ls st μ = if 0 ∈ S then mAt X m_X9_exchanged h K 0 ls st μ else bb X P m_X9_exchanged h K (vc X P m_X9_exchanged h K k_X9_exchanged S n) s_X9_exchanged_0 ls st μ := by rw [vc_s, t_X9_exchanged_0]
theorem w_X9_exchanged_14 : bb X P m_X9_exchanged h K J s_X9_exchanged_14 ls st μ = bb X P m_X9_exchanged h K J ((14, .iconst (-1), 1, 0, 0, 0, .inl (-1), []) ::
  (15, .istore_n 2, 1, 2, 0, 0, .inl 0, []) ::
  (16, .iconst 0, 1, 0, 0, 0, .inl (nI 0), []) ::
  (17, .istore_n 3, 1, 3, 0, 0, .inl 0, []) ::
  (18, .iconst 0, 1, 0, 0, 0, .inl (nI 0), []) ::
  (19, .istore 4, 2, 4, 0, 0, .inl 0, []) :: s_X9_exchanged_21) ls st μ := by rw [s_X9_exchanged_14]
theorem v_X9_exchanged_14 : vc X P m_X9_exchanged h K k_X9_exchanged S (n + 1) 14 ls st μ = if 14 ∈ S then mAt X m_X9_exchanged h K 14 ls st μ else bb X P m_X9_exchanged h K (vc X P m_X9_exchanged h K k_X9_exchanged S n) s_X9_exchanged_14 ls st μ := by rw [vc_s, t_X9_exchanged_14]
theorem w_X9_exchanged_21 : bb X P m_X9_exchanged h K J s_X9_exchanged_21 ls st μ = bb X P m_X9_exchanged h K J ((21, .iload 4, 2, 4, 0, 0, .inl 0, []) ::
  (23, .iconst 1, 1, 0, 0, 0, .inl (nI 1), []) ::
  (24, .iadd, 1, 0, 0, 0, .inl 0, []) ::
  (25, .aload_n 0, 1, 0, 0, 0, .inl 0, []) ::
  (26, .invokevirtual 219, 3, 253, 1, 1, .inl 0, [1472, 8]) ::
  (29, .if_icmp .ge 148, 3, 177, 0, 0, .inl 0, []) ::
  (32, .aload_n 0, 1, 0, 0, 0, .inl 0, []) ::
  (33, .invokevirtual 285, 3, 196, 1, 0, .inl 0, [1504, 8]) ::
  (36, .aload_n 0, 1, 0, 0, 0, .inl 0, []) ::
  (37, .bipush 14, 2, 0, 0, 0, .inl (nI 14), []) ::
  (39, .iload 4, 2, 4, 0, 0, .inl 0, []) ::
  (41, .iadd, 1, 0, 0, 0, .inl 0, []) ::
  (42, .bipush 14, 2, 0, 0, 0, .inl (nI 14), []) ::
  (44, .iload 4, 2, 4, 0, 0, .inl 0, []) ::
  (46, .iadd, 1, 0, 0, 0, .inl 0, []) ::
  (47, .iconst 1, 1, 0, 0, 0, .inl (nI 1), []) ::
  (48, .iadd, 1, 0, 0, 0, .inl 0, []) ::
  (49, .invokevirtual 339, 3, 149, 3, 0, .inl 0, [1711, 8]) ::
  (52, .aload_n 0, 1, 0, 0, 0, .inl 0, []) ::
  (53, .bipush 22, 2, 0, 0, 0, .inl (nI 22), []) ::
  (55, .iload 4, 2, 4, 0, 0, .inl 0, []) ::
  (57, .iadd, 1, 0, 0, 0, .inl 0, []) ::
  (58, .bipush 22, 2, 0, 0, 0, .inl (nI 22), []) ::
  (60, .iload 4, 2, 4, 0, 0, .inl 0, []) ::
  (62, .iadd, 1, 0, 0, 0, .inl 0, []) ::
  (63, .iconst 1, 1, 0, 0, 0, .inl (nI 1), []) ::
  (64, .iadd, 1, 0, 0, 0, .inl 0, []) ::
  (65, .invokevirtual 339, 3, 149, 3, 0, .inl 0, [1711, 8]) ::
  (68, .aload_n 0, 1, 0, 0, 0, .inl 0, []) ::
  (69, .bipush 30, 2, 0, 0, 0, .inl (nI 30), []) ::
  (71, .iload 4, 2, 4, 0, 0, .inl 0, []) ::
  (73, .iadd, 1, 0, 0, 0, .inl 0, []) ::
  (74, .bipush 30, 2, 0, 0, 0, .inl (nI 30), []) ::
  (76, .iload 4, 2, 4, 0, 0, .inl 0, []) ::
  (78, .iadd, 1, 0, 0, 0, .inl 0, []) ::
  (79, .iconst 1, 1, 0, 0, 0, .inl (nI 1), []) ::
  (80, .iadd, 1, 0, 0, 0, .inl 0, []) ::
  (81, .invokevirtual 339, 3, 149, 3, 0, .inl 0, [1711, 8]) ::
  (84, .bipush 38, 2, 0, 0, 0, .inl (nI 38), []) ::
  (86, .istore 5, 2, 5, 0, 0, .inl 0, []) :: s_X9_exchanged_88) ls st μ := by rw [s_X9_exchanged_21]
theorem v_X9_exchanged_21 : vc X P m_X9_exchanged h K k_X9_exchanged S (n + 1) 21 ls st μ = if 21 ∈ S then mAt X m_X9_exchanged h K 21 ls st μ else bb X P m_X9_exchanged h K (vc X P m_X9_exchanged h K k_X9_exchanged S n) s_X9_exchanged_21 ls st μ := by rw [vc_s, t_X9_exchanged_21]
theorem w_X9_exchanged_88 : bb X P m_X9_exchanged h K J s_X9_exchanged_88 ls st μ = bb X P m_X9_exchanged h K J ((88, .iload 5, 2, 5, 0, 0, .inl 0, []) ::
  (90, .sipush 230, 3, 0, 0, 0, .inl (nI 230), []) ::
  (93, .if_icmp .gt 51, 3, 144, 0, 0, .inl 0, []) ::
  (96, .iconst 0, 1, 0, 0, 0, .inl (nI 0), []) ::
  (97, .istore 6, 2, 6, 0, 0, .inl 0, []) :: s_X9_exchanged_99) ls st μ := by rw [s_X9_exchanged_88]
theorem v_X9_exchanged_88 : vc X P m_X9_exchanged h K k_X9_exchanged S (n + 1) 88 ls st μ = if 88 ∈ S then mAt X m_X9_exchanged h K 88 ls st μ else bb X P m_X9_exchanged h K (vc X P m_X9_exchanged h K k_X9_exchanged S n) s_X9_exchanged_88 ls st μ := by rw [vc_s, t_X9_exchanged_88]
theorem w_X9_exchanged_99 : bb X P m_X9_exchanged h K J s_X9_exchanged_99 ls st μ = bb X P m_X9_exchanged h K J ((99, .iload 6, 2, 6, 0, 0, .inl 0, []) ::
  (101, .bipush 6, 2, 0, 0, 0, .inl (nI 6), []) ::
  (103, .if_icmp .ge 35, 3, 138, 0, 0, .inl 0, []) ::
  (106, .aload_n 0, 1, 0, 0, 0, .inl 0, []) ::
  (107, .iload 5, 2, 5, 0, 0, .inl 0, []) ::
  (109, .iload 4, 2, 4, 0, 0, .inl 0, []) ::
  (111, .iload 6, 2, 6, 0, 0, .inl 0, []) ::
  (113, .invokestatic 182, 3, 148, 2, 1, .inl 0, [1437]) ::
  (116, .iadd, 1, 0, 0, 0, .inl 0, []) ::
  (117, .iload 5, 2, 5, 0, 0, .inl 0, []) ::
  (119, .iload 4, 2, 4, 0, 0, .inl 0, []) ::
  (121, .iconst 1, 1, 0, 0, 0, .inl (nI 1), []) ::
  (122, .iadd, 1, 0, 0, 0, .inl 0, []) ::
  (123, .iload 6, 2, 6, 0, 0, .inl 0, []) ::
  (125, .invokestatic 182, 3, 148, 2, 1, .inl 0, [1437]) ::
  (128, .iadd, 1, 0, 0, 0, .inl 0, []) ::
  (129, .invokevirtual 339, 3, 149, 3, 0, .inl 0, [1711, 8]) ::
  (132, .iinc 6 1, 3, 6, 0, 0, .inl (nI 1), []) ::
  (135, .goto (-36), 3, 99, 0, 0, .inl 0, []) :: s_X9_exchanged_138) ls st μ := by rw [s_X9_exchanged_99]
theorem v_X9_exchanged_99 : vc X P m_X9_exchanged h K k_X9_exchanged S (n + 1) 99 ls st μ = if 99 ∈ S then mAt X m_X9_exchanged h K 99 ls st μ else bb X P m_X9_exchanged h K (vc X P m_X9_exchanged h K k_X9_exchanged S n) s_X9_exchanged_99 ls st μ := by rw [vc_s, t_X9_exchanged_99]
theorem w_X9_exchanged_138 : bb X P m_X9_exchanged h K J s_X9_exchanged_138 ls st μ = bb X P m_X9_exchanged h K J ((138, .iinc 5 48, 3, 5, 0, 0, .inl (nI 48), []) ::
  (141, .goto (-53), 3, 88, 0, 0, .inl 0, []) :: s_X9_exchanged_144) ls st μ := by rw [s_X9_exchanged_138]
theorem v_X9_exchanged_138 : vc X P m_X9_exchanged h K k_X9_exchanged S (n + 1) 138 ls st μ = if 138 ∈ S then mAt X m_X9_exchanged h K 138 ls st μ else bb X P m_X9_exchanged h K (vc X P m_X9_exchanged h K k_X9_exchanged S n) s_X9_exchanged_138 ls st μ := by rw [vc_s, t_X9_exchanged_138]
theorem w_X9_exchanged_144 : bb X P m_X9_exchanged h K J s_X9_exchanged_144 ls st μ = bb X P m_X9_exchanged h K J ((144, .aload_n 0, 1, 0, 0, 0, .inl 0, []) ::
  (145, .iload_n 1, 1, 1, 0, 0, .inl 0, []) ::
  (146, .invokevirtual 297, 3, 238, 2, 1, .inl 0, [1621, 8]) ::
  (149, .istore 5, 2, 5, 0, 0, .inl 0, []) ::
  (151, .iload_n 2, 1, 2, 0, 0, .inl 0, []) ::
  (152, .iconst (-1), 1, 0, 0, 0, .inl (-1), []) ::
  (153, .if_icmp .eq 12, 3, 165, 0, 0, .inl 0, []) ::
  (156, .iload 5, 2, 5, 0, 0, .inl 0, []) ::
  (158, .iload_n 3, 1, 3, 0, 0, .inl 0, []) ::
  (159, .if_icmp .gt 6, 3, 165, 0, 0, .inl 0, []) ::
  (162, .goto 9, 3, 171, 0, 0, .inl 0, []) :: s_X9_exchanged_165) ls st μ := by rw [s_X9_exchanged_144]
theorem v_X9_exchanged_144 : vc X P m_X9_exchanged h K k_X9_exchanged S (n + 1) 144 ls st μ = if 144 ∈ S then mAt X m_X9_exchanged h K 144 ls st μ else bb X P m_X9_exchanged h K (vc X P m_X9_exchanged h K k_X9_exchanged S n) s_X9_exchanged_144 ls st μ := by rw [vc_s, t_X9_exchanged_144]
theorem w_X9_exchanged_165 : bb X P m_X9_exchanged h K J s_X9_exchanged_165 ls st μ = bb X P m_X9_exchanged h K J ((165, .iload 4, 2, 4, 0, 0, .inl 0, []) ::
  (167, .istore_n 2, 1, 2, 0, 0, .inl 0, []) ::
  (168, .iload 5, 2, 5, 0, 0, .inl 0, []) ::
  (170, .istore_n 3, 1, 3, 0, 0, .inl 0, []) :: s_X9_exchanged_171) ls st μ := by rw [s_X9_exchanged_165]
theorem v_X9_exchanged_165 : vc X P m_X9_exchanged h K k_X9_exchanged S (n + 1) 165 ls st μ = if 165 ∈ S then mAt X m_X9_exchanged h K 165 ls st μ else bb X P m_X9_exchanged h K (vc X P m_X9_exchanged h K k_X9_exchanged S n) s_X9_exchanged_165 ls st μ := by rw [vc_s, t_X9_exchanged_165]
theorem w_X9_exchanged_171 : bb X P m_X9_exchanged h K J s_X9_exchanged_171 ls st μ = bb X P m_X9_exchanged h K J ((171, .iinc 4 1, 3, 4, 0, 0, .inl (nI 1), []) ::
  (174, .goto (-153), 3, 21, 0, 0, .inl 0, []) :: s_X9_exchanged_177) ls st μ := by rw [s_X9_exchanged_171]
theorem v_X9_exchanged_171 : vc X P m_X9_exchanged h K k_X9_exchanged S (n + 1) 171 ls st μ = if 171 ∈ S then mAt X m_X9_exchanged h K 171 ls st μ else bb X P m_X9_exchanged h K (vc X P m_X9_exchanged h K k_X9_exchanged S n) s_X9_exchanged_171 ls st μ := by rw [vc_s, t_X9_exchanged_171]
theorem w_X9_exchanged_177 : bb X P m_X9_exchanged h K J s_X9_exchanged_177 ls st μ = bb X P m_X9_exchanged h K J ((177, .iload_n 2, 1, 2, 0, 0, .inl 0, []) ::
  (178, .ireturn, 1, 0, 0, 0, .inl 0, []) :: []) ls st μ := by rw [s_X9_exchanged_177]
theorem v_X9_exchanged_177 : vc X P m_X9_exchanged h K k_X9_exchanged S (n + 1) 177 ls st μ = if 177 ∈ S then mAt X m_X9_exchanged h K 177 ls st μ else bb X P m_X9_exchanged h K (vc X P m_X9_exchanged h K k_X9_exchanged S n) s_X9_exchanged_177 ls st μ := by rw [vc_s, t_X9_exchanged_177]
end
section
variable {X : mC} {P : mP} {h : Nat} {K : MV → Mem → Prop} {J : mJ} {ls : List (Nat × MV)} {st : List MV} {μ : Mem} {S : List Nat} {n : Nat}
theorem w_X9_falls_0 : bb X P m_X9_falls h K J s_X9_falls_0 ls st μ = bb X P m_X9_falls h K J ((0, .aload_n 0, 1, 0, 0, 0, .inl 0, []) ::
  (1, .iconst 0, 1, 0, 0, 0, .inl (nI 0), []) ::
  (2, .putfield 76, 3, 8, 0, 0, .inl 0, [1196]) ::
  (5, .aload_n 0, 1, 0, 0, 0, .inl 0, []) ::
  (6, .iload_n 1, 1, 1, 0, 0, .inl 0, []) ::
  (7, .invokevirtual 225, 3, 190, 2, 1, .inl 0, [1468, 8]) ::
  (10, .ifCond .ne 5, 3, 15, 0, 0, .inl 0, []) ::
  (13, .iconst (-1), 1, 0, 0, 0, .inl (-1), []) ::
  (14, .ireturn, 1, 0, 0, 0, .inl 0, []) :: s_X9_falls_15) ls st μ := by rw [s_X9_falls_0]
theorem v_X9_falls_0 : vc X P m_X9_falls h K k_X9_falls S (n + 1) 0 ls st μ = if 0 ∈ S then mAt X m_X9_falls h K 0 ls st μ else bb X P m_X9_falls h K (vc X P m_X9_falls h K k_X9_falls S n) s_X9_falls_0 ls st μ := by rw [vc_s, t_X9_falls_0]
theorem w_X9_falls_15 : bb X P m_X9_falls h K J s_X9_falls_15 ls st μ = bb X P m_X9_falls h K J ((15, .aload_n 0, 1, 0, 0, 0, .inl 0, []) ::
  (16, .aload_n 0, 1, 0, 0, 0, .inl 0, []) ::
  (17, .invokevirtual 309, 3, 137, 1, 1, .inl 0, [1629, 8]) ::
  (20, .invokevirtual 333, 3, 168, 2, 1, .inl 0, [1675, 8]) ::
  (23, .istore_n 2, 1, 2, 0, 0, .inl 0, []) ::
  (24, .iload_n 2, 1, 2, 0, 0, .inl 0, []) ::
  (25, .iload_n 1, 1, 1, 0, 0, .inl 0, []) ::
  (26, .invokestatic 250, 3, 169, 2, 1, .inl 0, [1543]) ::
  (29, .ifCond .ne 5, 3, 34, 0, 0, .inl 0, []) ::
  (32, .iconst (-1), 1, 0, 0, 0, .inl (-1), []) ::
  (33, .ireturn, 1, 0, 0, 0, .inl 0, []) :: s_X9_falls_34) ls st μ := by rw [s_X9_falls_15]
theorem v_X9_falls_15 : vc X P m_X9_falls h K k_X9_falls S (n + 1) 15 ls st μ = if 15 ∈ S then mAt X m_X9_falls h K 15 ls st μ else bb X P m_X9_falls h K (vc X P m_X9_falls h K k_X9_falls S n) s_X9_falls_15 ls st μ := by rw [vc_s, t_X9_falls_15]
theorem w_X9_falls_34 : bb X P m_X9_falls h K J s_X9_falls_34 ls st μ = bb X P m_X9_falls h K J ((34, .iload_n 2, 1, 2, 0, 0, .inl 0, []) ::
  (35, .iconst 1, 1, 0, 0, 0, .inl (nI 1), []) ::
  (36, .iload_n 1, 1, 1, 0, 0, .inl 0, []) ::
  (37, .ishl, 1, 0, 0, 0, .inl 0, []) ::
  (38, .iconst (-1), 1, 0, 0, 0, .inl (-1), []) ::
  (39, .ixor, 1, 0, 0, 0, .inl 0, []) ::
  (40, .iand, 1, 0, 0, 0, .inl 0, []) ::
  (41, .aload_n 0, 1, 0, 0, 0, .inl 0, []) ::
  (42, .aload_n 0, 1, 0, 0, 0, .inl 0, []) ::
  (43, .invokevirtual 309, 3, 137, 1, 1, .inl 0, [1629, 8]) ::
  (46, .iconst 1, 1, 0, 0, 0, .inl (nI 1), []) ::
  (47, .iload_n 1, 1, 1, 0, 0, .inl 0, []) ::
  (48, .ishl, 1, 0, 0, 0, .inl 0, []) ::
  (49, .iconst (-1), 1, 0, 0, 0, .inl (-1), []) ::
  (50, .ixor, 1, 0, 0, 0, .inl 0, []) ::
  (51, .iand, 1, 0, 0, 0, .inl 0, []) ::
  (52, .invokevirtual 333, 3, 168, 2, 1, .inl 0, [1675, 8]) ::
  (55, .iconst (-1), 1, 0, 0, 0, .inl (-1), []) ::
  (56, .ixor, 1, 0, 0, 0, .inl 0, []) ::
  (57, .iand, 1, 0, 0, 0, .inl 0, []) ::
  (58, .ireturn, 1, 0, 0, 0, .inl 0, []) :: []) ls st μ := by rw [s_X9_falls_34]
theorem v_X9_falls_34 : vc X P m_X9_falls h K k_X9_falls S (n + 1) 34 ls st μ = if 34 ∈ S then mAt X m_X9_falls h K 34 ls st μ else bb X P m_X9_falls h K (vc X P m_X9_falls h K k_X9_falls S n) s_X9_falls_34 ls st μ := by rw [vc_s, t_X9_falls_34]
end
section
variable {X : mC} {P : mP} {h : Nat} {K : MV → Mem → Prop} {J : mJ} {ls : List (Nat × MV)} {st : List MV} {μ : Mem} {S : List Nat} {n : Nat}
theorem w_X9_fault_0 : bb X P m_X9_fault h K J s_X9_fault_0 ls st μ = bb X P m_X9_fault h K J ((0, .aload_n 0, 1, 0, 0, 0, .inl 0, []) ::
  (1, .iconst 0, 1, 0, 0, 0, .inl (nI 0), []) ::
  (2, .putfield 76, 3, 8, 0, 0, .inl 0, [1196]) ::
  (5, .aload_n 0, 1, 0, 0, 0, .inl 0, []) ::
  (6, .getfield 134, 3, 8, 10, 0, .inl 0, [1206]) ::
  (9, .ireturn, 1, 0, 0, 0, .inl 0, []) :: []) ls st μ := by rw [s_X9_fault_0]
theorem v_X9_fault_0 : vc X P m_X9_fault h K k_X9_fault S (n + 1) 0 ls st μ = if 0 ∈ S then mAt X m_X9_fault h K 0 ls st μ else bb X P m_X9_fault h K (vc X P m_X9_fault h K k_X9_fault S n) s_X9_fault_0 ls st μ := by rw [vc_s, t_X9_fault_0]
end
section
variable {X : mC} {P : mP} {h : Nat} {K : MV → Mem → Prop} {J : mJ} {ls : List (Nat × MV)} {st : List MV} {μ : Mem} {S : List Nat} {n : Nat}
theorem w_X9_fed_0 : bb X P m_X9_fed h K J s_X9_fed_0 ls st μ = bb X P m_X9_fed h K J ((0, .aload_n 0, 1, 0, 0, 0, .inl 0, []) ::
  (1, .iconst 0, 1, 0, 0, 0, .inl (nI 0), []) ::
  (2, .putfield 76, 3, 8, 0, 0, .inl 0, [1196]) ::
  (5, .aload_n 0, 1, 0, 0, 0, .inl 0, []) ::
  (6, .iload_n 1, 1, 1, 0, 0, .inl 0, []) ::
  (7, .invokevirtual 300, 3, 181, 2, 1, .inl 0, [1610, 8]) ::
  (10, .ifCond .eq 7, 3, 17, 0, 0, .inl 0, []) ::
  (13, .iload_n 1, 1, 1, 0, 0, .inl 0, []) ::
  (14, .ifCond .ne 5, 3, 19, 0, 0, .inl 0, []) :: s_X9_fed_17) ls st μ := by rw [s_X9_fed_0]
theorem v_X9_fed_0 : vc X P m_X9_fed h K k_X9_fed S (n + 1) 0 ls st μ = if 0 ∈ S then mAt X m_X9_fed h K 0 ls st μ else bb X P m_X9_fed h K (vc X P m_X9_fed h K k_X9_fed S n) s_X9_fed_0 ls st μ := by rw [vc_s, t_X9_fed_0]
theorem w_X9_fed_17 : bb X P m_X9_fed h K J s_X9_fed_17 ls st μ = bb X P m_X9_fed h K J ((17, .iconst (-1), 1, 0, 0, 0, .inl (-1), []) ::
  (18, .ireturn, 1, 0, 0, 0, .inl 0, []) :: s_X9_fed_19) ls st μ := by rw [s_X9_fed_17]
theorem v_X9_fed_17 : vc X P m_X9_fed h K k_X9_fed S (n + 1) 17 ls st μ = if 17 ∈ S then mAt X m_X9_fed h K 17 ls st μ else bb X P m_X9_fed h K (vc X P m_X9_fed h K k_X9_fed S n) s_X9_fed_17 ls st μ := by rw [vc_s, t_X9_fed_17]
theorem w_X9_fed_19 : bb X P m_X9_fed h K J s_X9_fed_19 ls st μ = bb X P m_X9_fed h K J ((19, .aload_n 0, 1, 0, 0, 0, .inl 0, []) ::
  (20, .iload_n 1, 1, 1, 0, 0, .inl 0, []) ::
  (21, .invokevirtual 331, 3, 184, 2, 1, .inl 0, [1659, 8]) ::
  (24, .ifCond .eq 5, 3, 29, 0, 0, .inl 0, []) ::
  (27, .iconst 0, 1, 0, 0, 0, .inl (nI 0), []) ::
  (28, .ireturn, 1, 0, 0, 0, .inl 0, []) :: s_X9_fed_29) ls st μ := by rw [s_X9_fed_19]
theorem v_X9_fed_19 : vc X P m_X9_fed h K k_X9_fed S (n + 1) 19 ls st μ = if 19 ∈ S then mAt X m_X9_fed h K 19 ls st μ else bb X P m_X9_fed h K (vc X P m_X9_fed h K k_X9_fed S n) s_X9_fed_19 ls st μ := by rw [vc_s, t_X9_fed_19]
theorem w_X9_fed_29 : bb X P m_X9_fed h K J s_X9_fed_29 ls st μ = bb X P m_X9_fed h K J ((29, .iconst 0, 1, 0, 0, 0, .inl (nI 0), []) ::
  (30, .istore_n 2, 1, 2, 0, 0, .inl 0, []) :: s_X9_fed_31) ls st μ := by rw [s_X9_fed_29]
theorem v_X9_fed_29 : vc X P m_X9_fed h K k_X9_fed S (n + 1) 29 ls st μ = if 29 ∈ S then mAt X m_X9_fed h K 29 ls st μ else bb X P m_X9_fed h K (vc X P m_X9_fed h K k_X9_fed S n) s_X9_fed_29 ls st μ := by rw [vc_s, t_X9_fed_29]
theorem w_X9_fed_31 : bb X P m_X9_fed h K J s_X9_fed_31 ls st μ = bb X P m_X9_fed h K J ((31, .iload_n 1, 1, 1, 0, 0, .inl 0, []) ::
  (32, .iload_n 2, 1, 2, 0, 0, .inl 0, []) ::
  (33, .invokestatic 250, 3, 169, 2, 1, .inl 0, [1543]) ::
  (36, .ifCond .ne 9, 3, 45, 0, 0, .inl 0, []) ::
  (39, .iinc 2 1, 3, 2, 0, 0, .inl (nI 1), []) ::
  (42, .goto (-11), 3, 31, 0, 0, .inl 0, []) :: s_X9_fed_45) ls st μ := by rw [s_X9_fed_31]
theorem v_X9_fed_31 : vc X P m_X9_fed h K k_X9_fed S (n + 1) 31 ls st μ = if 31 ∈ S then mAt X m_X9_fed h K 31 ls st μ else bb X P m_X9_fed h K (vc X P m_X9_fed h K k_X9_fed S n) s_X9_fed_31 ls st μ := by rw [vc_s, t_X9_fed_31]
theorem w_X9_fed_45 : bb X P m_X9_fed h K J s_X9_fed_45 ls st μ = bb X P m_X9_fed h K J ((45, .iconst 1, 1, 0, 0, 0, .inl (nI 1), []) ::
  (46, .istore_n 3, 1, 3, 0, 0, .inl 0, []) :: s_X9_fed_47) ls st μ := by rw [s_X9_fed_45]
theorem v_X9_fed_45 : vc X P m_X9_fed h K k_X9_fed S (n + 1) 45 ls st μ = if 45 ∈ S then mAt X m_X9_fed h K 45 ls st μ else bb X P m_X9_fed h K (vc X P m_X9_fed h K k_X9_fed S n) s_X9_fed_45 ls st μ := by rw [vc_s, t_X9_fed_45]
theorem w_X9_fed_47 : bb X P m_X9_fed h K J s_X9_fed_47 ls st μ = bb X P m_X9_fed h K J ((47, .iload_n 3, 1, 3, 0, 0, .inl 0, []) ::
  (48, .bipush 100, 2, 0, 0, 0, .inl (nI 100), []) ::
  (50, .if_icmp .ge 47, 3, 97, 0, 0, .inl 0, []) ::
  (53, .iconst 0, 1, 0, 0, 0, .inl (nI 0), []) ::
  (54, .istore 4, 2, 4, 0, 0, .inl 0, []) :: s_X9_fed_56) ls st μ := by rw [s_X9_fed_47]
theorem v_X9_fed_47 : vc X P m_X9_fed h K k_X9_fed S (n + 1) 47 ls st μ = if 47 ∈ S then mAt X m_X9_fed h K 47 ls st μ else bb X P m_X9_fed h K (vc X P m_X9_fed h K k_X9_fed S n) s_X9_fed_47 ls st μ := by rw [vc_s, t_X9_fed_47]
theorem w_X9_fed_56 : bb X P m_X9_fed h K J s_X9_fed_56 ls st μ = bb X P m_X9_fed h K J ((56, .iload 4, 2, 4, 0, 0, .inl 0, []) ::
  (58, .aload_n 0, 1, 0, 0, 0, .inl 0, []) ::
  (59, .invokevirtual 222, 3, 165, 1, 1, .inl 0, [1484, 8]) ::
  (62, .if_icmp .ge 29, 3, 91, 0, 0, .inl 0, []) ::
  (65, .aload_n 0, 1, 0, 0, 0, .inl 0, []) ::
  (66, .iload_n 1, 1, 1, 0, 0, .inl 0, []) ::
  (67, .iload_n 2, 1, 2, 0, 0, .inl 0, []) ::
  (68, .iload 4, 2, 4, 0, 0, .inl 0, []) ::
  (70, .iload_n 3, 1, 3, 0, 0, .inl 0, []) ::
  (71, .invokevirtual 327, 3, 183, 5, 1, .inl 0, [1663, 8]) ::
  (74, .ifCond .eq 11, 3, 85, 0, 0, .inl 0, []) ::
  (77, .bipush 10, 2, 0, 0, 0, .inl (nI 10), []) ::
  (79, .iload_n 3, 1, 3, 0, 0, .inl 0, []) ::
  (80, .imul, 1, 0, 0, 0, .inl 0, []) ::
  (81, .iload 4, 2, 4, 0, 0, .inl 0, []) ::
  (83, .iadd, 1, 0, 0, 0, .inl 0, []) ::
  (84, .ireturn, 1, 0, 0, 0, .inl 0, []) :: s_X9_fed_85) ls st μ := by rw [s_X9_fed_56]
theorem v_X9_fed_56 : vc X P m_X9_fed h K k_X9_fed S (n + 1) 56 ls st μ = if 56 ∈ S then mAt X m_X9_fed h K 56 ls st μ else bb X P m_X9_fed h K (vc X P m_X9_fed h K k_X9_fed S n) s_X9_fed_56 ls st μ := by rw [vc_s, t_X9_fed_56]
theorem w_X9_fed_85 : bb X P m_X9_fed h K J s_X9_fed_85 ls st μ = bb X P m_X9_fed h K J ((85, .iinc 4 1, 3, 4, 0, 0, .inl (nI 1), []) ::
  (88, .goto (-32), 3, 56, 0, 0, .inl 0, []) :: s_X9_fed_91) ls st μ := by rw [s_X9_fed_85]
theorem v_X9_fed_85 : vc X P m_X9_fed h K k_X9_fed S (n + 1) 85 ls st μ = if 85 ∈ S then mAt X m_X9_fed h K 85 ls st μ else bb X P m_X9_fed h K (vc X P m_X9_fed h K k_X9_fed S n) s_X9_fed_85 ls st μ := by rw [vc_s, t_X9_fed_85]
theorem w_X9_fed_91 : bb X P m_X9_fed h K J s_X9_fed_91 ls st μ = bb X P m_X9_fed h K J ((91, .iinc 3 1, 3, 3, 0, 0, .inl (nI 1), []) ::
  (94, .goto (-47), 3, 47, 0, 0, .inl 0, []) :: s_X9_fed_97) ls st μ := by rw [s_X9_fed_91]
theorem v_X9_fed_91 : vc X P m_X9_fed h K k_X9_fed S (n + 1) 91 ls st μ = if 91 ∈ S then mAt X m_X9_fed h K 91 ls st μ else bb X P m_X9_fed h K (vc X P m_X9_fed h K k_X9_fed S n) s_X9_fed_91 ls st μ := by rw [vc_s, t_X9_fed_91]
theorem w_X9_fed_97 : bb X P m_X9_fed h K J s_X9_fed_97 ls st μ = bb X P m_X9_fed h K J ((97, .iconst (-1), 1, 0, 0, 0, .inl (-1), []) ::
  (98, .ireturn, 1, 0, 0, 0, .inl 0, []) :: []) ls st μ := by rw [s_X9_fed_97]
theorem v_X9_fed_97 : vc X P m_X9_fed h K k_X9_fed S (n + 1) 97 ls st μ = if 97 ∈ S then mAt X m_X9_fed h K 97 ls st μ else bb X P m_X9_fed h K (vc X P m_X9_fed h K k_X9_fed S n) s_X9_fed_97 ls st μ := by rw [vc_s, t_X9_fed_97]
end
section
variable {X : mC} {P : mP} {h : Nat} {K : MV → Mem → Prop} {J : mJ} {ls : List (Nat × MV)} {st : List MV} {μ : Mem} {S : List Nat} {n : Nat}
theorem w_X9_feed_0 : bb X P m_X9_feed h K J s_X9_feed_0 ls st μ = bb X P m_X9_feed h K J ((0, .aload_n 0, 1, 0, 0, 0, .inl 0, []) ::
  (1, .iconst 0, 1, 0, 0, 0, .inl (nI 0), []) ::
  (2, .putfield 76, 3, 8, 0, 0, .inl 0, [1196]) ::
  (5, .aload_n 0, 1, 0, 0, 0, .inl 0, []) ::
  (6, .getfield 79, 3, 8, 2, 0, .inl 0, [1198]) ::
  (9, .bipush 20, 2, 0, 0, 0, .inl (nI 20), []) ::
  (11, .iadd, 1, 0, 0, 0, .inl 0, []) ::
  (12, .sipush 940, 3, 0, 0, 0, .inl (nI 940), []) ::
  (15, .if_icmp .le 5, 3, 20, 0, 0, .inl 0, []) ::
  (18, .iconst (-1), 1, 0, 0, 0, .inl (-1), []) ::
  (19, .ireturn, 1, 0, 0, 0, .inl 0, []) :: s_X9_feed_20) ls st μ := by rw [s_X9_feed_0]
theorem v_X9_feed_0 : vc X P m_X9_feed h K k_X9_feed S (n + 1) 0 ls st μ = if 0 ∈ S then mAt X m_X9_feed h K 0 ls st μ else bb X P m_X9_feed h K (vc X P m_X9_feed h K k_X9_feed S n) s_X9_feed_0 ls st μ := by rw [vc_s, t_X9_feed_0]
theorem w_X9_feed_20 : bb X P m_X9_feed h K J s_X9_feed_20 ls st μ = bb X P m_X9_feed h K J ((20, .aload_n 0, 1, 0, 0, 0, .inl 0, []) ::
  (21, .iload_n 1, 1, 1, 0, 0, .inl 0, []) ::
  (22, .invokevirtual 82, 3, 150, 2, 0, .inl 0, [1341, 8]) ::
  (25, .aload_n 0, 1, 0, 0, 0, .inl 0, []) ::
  (26, .iload_n 2, 1, 2, 0, 0, .inl 0, []) ::
  (27, .invokevirtual 82, 3, 150, 2, 0, .inl 0, [1341, 8]) ::
  (30, .aload_n 0, 1, 0, 0, 0, .inl 0, []) ::
  (31, .iload_n 3, 1, 3, 0, 0, .inl 0, []) ::
  (32, .invokevirtual 82, 3, 150, 2, 0, .inl 0, [1341, 8]) ::
  (35, .aload_n 0, 1, 0, 0, 0, .inl 0, []) ::
  (36, .iload 4, 2, 4, 0, 0, .inl 0, []) ::
  (38, .invokevirtual 82, 3, 150, 2, 0, .inl 0, [1341, 8]) ::
  (41, .aload_n 0, 1, 0, 0, 0, .inl 0, []) ::
  (42, .iload 5, 2, 5, 0, 0, .inl 0, []) ::
  (44, .invokevirtual 82, 3, 150, 2, 0, .inl 0, [1341, 8]) ::
  (47, .aload_n 0, 1, 0, 0, 0, .inl 0, []) ::
  (48, .getfield 79, 3, 8, 2, 0, .inl 0, [1198]) ::
  (51, .ireturn, 1, 0, 0, 0, .inl 0, []) :: []) ls st μ := by rw [s_X9_feed_20]
theorem v_X9_feed_20 : vc X P m_X9_feed h K k_X9_feed S (n + 1) 20 ls st μ = if 20 ∈ S then mAt X m_X9_feed h K 20 ls st μ else bb X P m_X9_feed h K (vc X P m_X9_feed h K k_X9_feed S n) s_X9_feed_20 ls st μ := by rw [vc_s, t_X9_feed_20]
end
section
variable {X : mC} {P : mP} {h : Nat} {K : MV → Mem → Prop} {J : mJ} {ls : List (Nat × MV)} {st : List MV} {μ : Mem} {S : List Nat} {n : Nat}
theorem w_X9_fill_0 : bb X P m_X9_fill h K J s_X9_fill_0 ls st μ = bb X P m_X9_fill h K J ((0, .iload_n 3, 1, 3, 0, 0, .inl 0, []) ::
  (1, .iload 4, 2, 4, 0, 0, .inl 0, []) ::
  (3, .invokestatic 182, 3, 148, 2, 1, .inl 0, [1437]) ::
  (6, .istore 5, 2, 5, 0, 0, .inl 0, []) ::
  (8, .aload_n 0, 1, 0, 0, 0, .inl 0, []) ::
  (9, .getfield 39, 3, 8, 22, 3, .inr (.inr (16, 278, 10)), [1218]) ::
  (12, .sipush 230, 3, 0, 0, 0, .inl (nI 230), []) ::
  (15, .iload 5, 2, 5, 0, 0, .inl 0, []) ::
  (17, .iadd, 1, 0, 0, 0, .inl 0, []) ::
  (18, .iaload, 1, 0, 0, 0, .inl 0, []) ::
  (19, .istore 6, 2, 6, 0, 0, .inl 0, []) ::
  (21, .aload_n 0, 1, 0, 0, 0, .inl 0, []) ::
  (22, .getfield 45, 3, 8, 24, 3, .inr (.inr (16, 6, 12)), [1220]) ::
  (25, .iload 4, 2, 4, 0, 0, .inl 0, []) ::
  (27, .dup2, 1, 0, 0, 0, .inl 0, []) ::
  (28, .iaload, 1, 0, 0, 0, .inl 0, []) ::
  (29, .iload 6, 2, 6, 0, 0, .inl 0, []) ::
  (31, .iadd, 1, 0, 0, 0, .inl 0, []) ::
  (32, .iastore, 1, 0, 0, 0, .inl 0, []) ::
  (33, .aload_n 1, 1, 1, 0, 0, .inl 0, []) ::
  (34, .iload_n 2, 1, 2, 0, 0, .inl 0, []) ::
  (35, .sipush 260, 3, 0, 0, 0, .inl (nI 260), []) ::
  (38, .iadd, 1, 0, 0, 0, .inl 0, []) ::
  (39, .iload 4, 2, 4, 0, 0, .inl 0, []) ::
  (41, .iadd, 1, 0, 0, 0, .inl 0, []) ::
  (42, .dup2, 1, 0, 0, 0, .inl 0, []) ::
  (43, .iaload, 1, 0, 0, 0, .inl 0, []) ::
  (44, .iload 6, 2, 6, 0, 0, .inl 0, []) ::
  (46, .iadd, 1, 0, 0, 0, .inl 0, []) ::
  (47, .iastore, 1, 0, 0, 0, .inl 0, []) ::
  (48, .aload_n 0, 1, 0, 0, 0, .inl 0, []) ::
  (49, .getfield 39, 3, 8, 22, 3, .inr (.inr (16, 278, 10)), [1218]) ::
  (52, .bipush 86, 2, 0, 0, 0, .inl (nI 86), []) ::
  (54, .iload 5, 2, 5, 0, 0, .inl 0, []) ::
  (56, .iadd, 1, 0, 0, 0, .inl 0, []) ::
  (57, .iaload, 1, 0, 0, 0, .inl 0, []) ::
  (58, .aload_n 1, 1, 1, 0, 0, .inl 0, []) ::
  (59, .iload_n 2, 1, 2, 0, 0, .inl 0, []) ::
  (60, .iconst 2, 1, 0, 0, 0, .inl (nI 2), []) ::
  (61, .iadd, 1, 0, 0, 0, .inl 0, []) ::
  (62, .iload 5, 2, 5, 0, 0, .inl 0, []) ::
  (64, .iadd, 1, 0, 0, 0, .inl 0, []) ::
  (65, .iaload, 1, 0, 0, 0, .inl 0, []) ::
  (66, .isub, 1, 0, 0, 0, .inl 0, []) ::
  (67, .istore 7, 2, 7, 0, 0, .inl 0, []) ::
  (69, .aload_n 0, 1, 0, 0, 0, .inl 0, []) ::
  (70, .getfield 39, 3, 8, 22, 3, .inr (.inr (16, 278, 10)), [1218]) ::
  (73, .bipush 38, 2, 0, 0, 0, .inl (nI 38), []) ::
  (75, .iload 5, 2, 5, 0, 0, .inl 0, []) ::
  (77, .iadd, 1, 0, 0, 0, .inl 0, []) ::
  (78, .iaload, 1, 0, 0, 0, .inl 0, []) ::
  (79, .ifCond .ne 7, 3, 86, 0, 0, .inl 0, []) ::
  (82, .iconst 0, 1, 0, 0, 0, .inl (nI 0), []) ::
  (83, .goto 15, 3, 98, 0, 0, .inl 0, []) :: s_X9_fill_86) ls st μ := by rw [s_X9_fill_0]
theorem v_X9_fill_0 : vc X P m_X9_fill h K k_X9_fill S (n + 1) 0 ls st μ = if 0 ∈ S then mAt X m_X9_fill h K 0 ls st μ else bb X P m_X9_fill h K (vc X P m_X9_fill h K k_X9_fill S n) s_X9_fill_0 ls st μ := by rw [vc_s, t_X9_fill_0]
theorem w_X9_fill_86 : bb X P m_X9_fill h K J s_X9_fill_86 ls st μ = bb X P m_X9_fill h K J ((86, .aload_n 0, 1, 0, 0, 0, .inl 0, []) ::
  (87, .getfield 45, 3, 8, 24, 3, .inr (.inr (16, 6, 12)), [1220]) ::
  (90, .iload 4, 2, 4, 0, 0, .inl 0, []) ::
  (92, .iaload, 1, 0, 0, 0, .inl 0, []) ::
  (93, .iload 7, 2, 7, 0, 0, .inl 0, []) ::
  (95, .invokestatic 247, 3, 199, 2, 1, .inl 0, [1528]) :: s_X9_fill_98) ls st μ := by rw [s_X9_fill_86]
theorem v_X9_fill_86 : vc X P m_X9_fill h K k_X9_fill S (n + 1) 86 ls st μ = if 86 ∈ S then mAt X m_X9_fill h K 86 ls st μ else bb X P m_X9_fill h K (vc X P m_X9_fill h K k_X9_fill S n) s_X9_fill_86 ls st μ := by rw [vc_s, t_X9_fill_86]
theorem w_X9_fill_98 : bb X P m_X9_fill h K J s_X9_fill_98 ls st μ = bb X P m_X9_fill h K J ((98, .istore 8, 2, 8, 0, 0, .inl 0, []) ::
  (100, .iload 8, 2, 8, 0, 0, .inl 0, []) ::
  (102, .ifCond .gt 4, 3, 106, 0, 0, .inl 0, []) ::
  (105, .return_, 1, 0, 0, 0, .inl 0, []) :: s_X9_fill_106) ls st μ := by rw [s_X9_fill_98]
theorem v_X9_fill_98 : vc X P m_X9_fill h K k_X9_fill S (n + 1) 98 ls st μ = if 98 ∈ S then mAt X m_X9_fill h K 98 ls st μ else bb X P m_X9_fill h K (vc X P m_X9_fill h K k_X9_fill S n) s_X9_fill_98 ls st μ := by rw [vc_s, t_X9_fill_98]
theorem w_X9_fill_106 : bb X P m_X9_fill h K J s_X9_fill_106 ls st μ = bb X P m_X9_fill h K J ((106, .aload_n 1, 1, 1, 0, 0, .inl 0, []) ::
  (107, .iload_n 2, 1, 2, 0, 0, .inl 0, []) ::
  (108, .iconst 2, 1, 0, 0, 0, .inl (nI 2), []) ::
  (109, .iadd, 1, 0, 0, 0, .inl 0, []) ::
  (110, .iload 5, 2, 5, 0, 0, .inl 0, []) ::
  (112, .iadd, 1, 0, 0, 0, .inl 0, []) ::
  (113, .dup2, 1, 0, 0, 0, .inl 0, []) ::
  (114, .iaload, 1, 0, 0, 0, .inl 0, []) ::
  (115, .iload 8, 2, 8, 0, 0, .inl 0, []) ::
  (117, .iadd, 1, 0, 0, 0, .inl 0, []) ::
  (118, .iastore, 1, 0, 0, 0, .inl 0, []) ::
  (119, .aload_n 1, 1, 1, 0, 0, .inl 0, []) ::
  (120, .iload_n 2, 1, 2, 0, 0, .inl 0, []) ::
  (121, .bipush 50, 2, 0, 0, 0, .inl (nI 50), []) ::
  (123, .iadd, 1, 0, 0, 0, .inl 0, []) ::
  (124, .iload 5, 2, 5, 0, 0, .inl 0, []) ::
  (126, .iadd, 1, 0, 0, 0, .inl 0, []) ::
  (127, .dup2, 1, 0, 0, 0, .inl 0, []) ::
  (128, .iaload, 1, 0, 0, 0, .inl 0, []) ::
  (129, .aload_n 0, 1, 0, 0, 0, .inl 0, []) ::
  (130, .getfield 48, 3, 8, 25, 3, .inr (.inr (16, 6, 13)), [1221]) ::
  (133, .iload 4, 2, 4, 0, 0, .inl 0, []) ::
  (135, .iaload, 1, 0, 0, 0, .inl 0, []) ::
  (136, .ior, 1, 0, 0, 0, .inl 0, []) ::
  (137, .iastore, 1, 0, 0, 0, .inl 0, []) ::
  (138, .aload_n 1, 1, 1, 0, 0, .inl 0, []) ::
  (139, .iload_n 2, 1, 2, 0, 0, .inl 0, []) ::
  (140, .bipush 98, 2, 0, 0, 0, .inl (nI 98), []) ::
  (142, .iadd, 1, 0, 0, 0, .inl 0, []) ::
  (143, .iload 5, 2, 5, 0, 0, .inl 0, []) ::
  (145, .iadd, 1, 0, 0, 0, .inl 0, []) ::
  (146, .dup2, 1, 0, 0, 0, .inl 0, []) ::
  (147, .iaload, 1, 0, 0, 0, .inl 0, []) ::
  (148, .aload_n 0, 1, 0, 0, 0, .inl 0, []) ::
  (149, .getfield 51, 3, 8, 26, 3, .inr (.inr (16, 6, 14)), [1222]) ::
  (152, .iload 4, 2, 4, 0, 0, .inl 0, []) ::
  (154, .iaload, 1, 0, 0, 0, .inl 0, []) ::
  (155, .ior, 1, 0, 0, 0, .inl 0, []) ::
  (156, .iastore, 1, 0, 0, 0, .inl 0, []) ::
  (157, .aload_n 0, 1, 0, 0, 0, .inl 0, []) ::
  (158, .getfield 45, 3, 8, 24, 3, .inr (.inr (16, 6, 12)), [1220]) ::
  (161, .iload 4, 2, 4, 0, 0, .inl 0, []) ::
  (163, .dup2, 1, 0, 0, 0, .inl 0, []) ::
  (164, .iaload, 1, 0, 0, 0, .inl 0, []) ::
  (165, .iload 8, 2, 8, 0, 0, .inl 0, []) ::
  (167, .isub, 1, 0, 0, 0, .inl 0, []) ::
  (168, .iastore, 1, 0, 0, 0, .inl 0, []) ::
  (169, .aload_n 0, 1, 0, 0, 0, .inl 0, []) ::
  (170, .getfield 45, 3, 8, 24, 3, .inr (.inr (16, 6, 12)), [1220]) ::
  (173, .iload 4, 2, 4, 0, 0, .inl 0, []) ::
  (175, .iaload, 1, 0, 0, 0, .inl 0, []) ::
  (176, .ifCond .le 4, 3, 180, 0, 0, .inl 0, []) ::
  (179, .return_, 1, 0, 0, 0, .inl 0, []) :: s_X9_fill_180) ls st μ := by rw [s_X9_fill_106]
theorem v_X9_fill_106 : vc X P m_X9_fill h K k_X9_fill S (n + 1) 106 ls st μ = if 106 ∈ S then mAt X m_X9_fill h K 106 ls st μ else bb X P m_X9_fill h K (vc X P m_X9_fill h K k_X9_fill S n) s_X9_fill_106 ls st μ := by rw [vc_s, t_X9_fill_106]
theorem w_X9_fill_180 : bb X P m_X9_fill h K J s_X9_fill_180 ls st μ = bb X P m_X9_fill h K J ((180, .aload_n 0, 1, 0, 0, 0, .inl 0, []) ::
  (181, .getfield 48, 3, 8, 25, 3, .inr (.inr (16, 6, 13)), [1221]) ::
  (184, .iload 4, 2, 4, 0, 0, .inl 0, []) ::
  (186, .iconst 0, 1, 0, 0, 0, .inl (nI 0), []) ::
  (187, .iastore, 1, 0, 0, 0, .inl 0, []) ::
  (188, .aload_n 0, 1, 0, 0, 0, .inl 0, []) ::
  (189, .getfield 51, 3, 8, 26, 3, .inr (.inr (16, 6, 14)), [1222]) ::
  (192, .iload 4, 2, 4, 0, 0, .inl 0, []) ::
  (194, .iconst 0, 1, 0, 0, 0, .inl (nI 0), []) ::
  (195, .iastore, 1, 0, 0, 0, .inl 0, []) ::
  (196, .return_, 1, 0, 0, 0, .inl 0, []) :: []) ls st μ := by rw [s_X9_fill_180]
theorem v_X9_fill_180 : vc X P m_X9_fill h K k_X9_fill S (n + 1) 180 ls st μ = if 180 ∈ S then mAt X m_X9_fill h K 180 ls st μ else bb X P m_X9_fill h K (vc X P m_X9_fill h K k_X9_fill S n) s_X9_fill_180 ls st μ := by rw [vc_s, t_X9_fill_180]
end
