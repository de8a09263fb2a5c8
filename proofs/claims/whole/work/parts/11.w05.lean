section
variable {X : mC} {P : mP} {h : Nat} {K : MV → Mem → Prop} {J : mJ} {ls : List (Nat × MV)} {st : List MV} {μ : Mem} {S : List Nat} {n : Nat}
theorem w_X9_kindled_0 : bb X P m_X9_kindled h K J s_X9_kindled_0 ls st μ = bb X P m_X9_kindled h K J ((0, .aload_n 0, 1, 0, 0, 0, .inl 0, []) ::
  (1, .iconst 0, 1, 0, 0, 0, .inl (nI 0), []) ::
  (2, .putfield 76, 3, 8, 0, 0, .inl 0, [1196]) ::
  (5, .aload_n 0, 1, 0, 0, 0, .inl 0, []) ::
  (6, .getfield 63, 3, 8, 35, 0, .inl 0, [1231]) ::
  (9, .ireturn, 1, 0, 0, 0, .inl 0, []) :: []) ls st μ := by rw [s_X9_kindled_0]
theorem v_X9_kindled_0 : vc X P m_X9_kindled h K k_X9_kindled S (n + 1) 0 ls st μ = if 0 ∈ S then mAt X m_X9_kindled h K 0 ls st μ else bb X P m_X9_kindled h K (vc X P m_X9_kindled h K k_X9_kindled S n) s_X9_kindled_0 ls st μ := by rw [vc_s, t_X9_kindled_0]
end
section
variable {X : mC} {P : mP} {h : Nat} {K : MV → Mem → Prop} {J : mJ} {ls : List (Nat × MV)} {st : List MV} {μ : Mem} {S : List Nat} {n : Nat}
theorem w_X9_kindles_0 : bb X P m_X9_kindles h K J s_X9_kindles_0 ls st μ = bb X P m_X9_kindles h K J ((0, .aload_n 0, 1, 0, 0, 0, .inl 0, []) ::
  (1, .invokevirtual 285, 3, 196, 1, 0, .inl 0, [1504, 8]) ::
  (4, .aload_n 0, 1, 0, 0, 0, .inl 0, []) ::
  (5, .aload_n 0, 1, 0, 0, 0, .inl 0, []) ::
  (6, .getfield 42, 3, 8, 23, 3, .inr (.inr (16, 296, 11)), [1219]) ::
  (9, .iconst 0, 1, 0, 0, 0, .inl (nI 0), []) ::
  (10, .invokevirtual 274, 3, 242, 3, 0, .inl 0, [1508, 8]) ::
  (13, .iconst 0, 1, 0, 0, 0, .inl (nI 0), []) ::
  (14, .istore 4, 2, 4, 0, 0, .inl 0, []) :: s_X9_kindles_16) ls st μ := by rw [s_X9_kindles_0]
theorem v_X9_kindles_0 : vc X P m_X9_kindles h K k_X9_kindles S (n + 1) 0 ls st μ = if 0 ∈ S then mAt X m_X9_kindles h K 0 ls st μ else bb X P m_X9_kindles h K (vc X P m_X9_kindles h K k_X9_kindles S n) s_X9_kindles_0 ls st μ := by rw [vc_s, t_X9_kindles_0]
theorem w_X9_kindles_16 : bb X P m_X9_kindles h K J s_X9_kindles_16 ls st μ = bb X P m_X9_kindles h K J ((16, .iload 4, 2, 4, 0, 0, .inl 0, []) ::
  (18, .aload_n 0, 1, 0, 0, 0, .inl 0, []) ::
  (19, .invokevirtual 219, 3, 253, 1, 1, .inl 0, [1472, 8]) ::
  (22, .if_icmp .ge 69, 3, 91, 0, 0, .inl 0, []) ::
  (25, .iconst 0, 1, 0, 0, 0, .inl (nI 0), []) ::
  (26, .istore 5, 2, 5, 0, 0, .inl 0, []) :: s_X9_kindles_28) ls st μ := by rw [s_X9_kindles_16]
theorem v_X9_kindles_16 : vc X P m_X9_kindles h K k_X9_kindles S (n + 1) 16 ls st μ = if 16 ∈ S then mAt X m_X9_kindles h K 16 ls st μ else bb X P m_X9_kindles h K (vc X P m_X9_kindles h K k_X9_kindles S n) s_X9_kindles_16 ls st μ := by rw [vc_s, t_X9_kindles_16]
theorem w_X9_kindles_28 : bb X P m_X9_kindles h K J s_X9_kindles_28 ls st μ = bb X P m_X9_kindles h K J ((28, .iload 5, 2, 5, 0, 0, .inl 0, []) ::
  (30, .aload_n 0, 1, 0, 0, 0, .inl 0, []) ::
  (31, .invokevirtual 222, 3, 165, 1, 1, .inl 0, [1484, 8]) ::
  (34, .if_icmp .ge 51, 3, 85, 0, 0, .inl 0, []) ::
  (37, .aload_n 0, 1, 0, 0, 0, .inl 0, []) ::
  (38, .getfield 42, 3, 8, 23, 3, .inr (.inr (16, 296, 11)), [1219]) ::
  (41, .iconst 2, 1, 0, 0, 0, .inl (nI 2), []) ::
  (42, .iload 4, 2, 4, 0, 0, .inl 0, []) ::
  (44, .iload 5, 2, 5, 0, 0, .inl 0, []) ::
  (46, .invokestatic 182, 3, 148, 2, 1, .inl 0, [1437]) ::
  (49, .iadd, 1, 0, 0, 0, .inl 0, []) ::
  (50, .iload_n 1, 1, 1, 0, 0, .inl 0, []) ::
  (51, .iload 4, 2, 4, 0, 0, .inl 0, []) ::
  (53, .invokestatic 250, 3, 169, 2, 1, .inl 0, [1543]) ::
  (56, .ifCond .eq 21, 3, 77, 0, 0, .inl 0, []) ::
  (59, .aload_n 0, 1, 0, 0, 0, .inl 0, []) ::
  (60, .getfield 39, 3, 8, 22, 3, .inr (.inr (16, 278, 10)), [1218]) ::
  (63, .bipush 38, 2, 0, 0, 0, .inl (nI 38), []) ::
  (65, .iload 4, 2, 4, 0, 0, .inl 0, []) ::
  (67, .iload 5, 2, 5, 0, 0, .inl 0, []) ::
  (69, .invokestatic 182, 3, 148, 2, 1, .inl 0, [1437]) ::
  (72, .iadd, 1, 0, 0, 0, .inl 0, []) ::
  (73, .iaload, 1, 0, 0, 0, .inl 0, []) ::
  (74, .goto 4, 3, 78, 0, 0, .inl 0, []) :: s_X9_kindles_77) ls st μ := by rw [s_X9_kindles_28]
theorem v_X9_kindles_28 : vc X P m_X9_kindles h K k_X9_kindles S (n + 1) 28 ls st μ = if 28 ∈ S then mAt X m_X9_kindles h K 28 ls st μ else bb X P m_X9_kindles h K (vc X P m_X9_kindles h K k_X9_kindles S n) s_X9_kindles_28 ls st μ := by rw [vc_s, t_X9_kindles_28]
theorem w_X9_kindles_77 : bb X P m_X9_kindles h K J s_X9_kindles_77 ls st μ = bb X P m_X9_kindles h K J ((77, .iconst 0, 1, 0, 0, 0, .inl (nI 0), []) :: s_X9_kindles_78) ls st μ := by rw [s_X9_kindles_77]
theorem v_X9_kindles_77 : vc X P m_X9_kindles h K k_X9_kindles S (n + 1) 77 ls st μ = if 77 ∈ S then mAt X m_X9_kindles h K 77 ls st μ else bb X P m_X9_kindles h K (vc X P m_X9_kindles h K k_X9_kindles S n) s_X9_kindles_77 ls st μ := by rw [vc_s, t_X9_kindles_77]
theorem w_X9_kindles_78 : bb X P m_X9_kindles h K J s_X9_kindles_78 ls st μ = bb X P m_X9_kindles h K J ((78, .iastore, 1, 0, 0, 0, .inl 0, []) ::
  (79, .iinc 5 1, 3, 5, 0, 0, .inl (nI 1), []) ::
  (82, .goto (-54), 3, 28, 0, 0, .inl 0, []) :: s_X9_kindles_85) ls st μ := by rw [s_X9_kindles_78]
theorem v_X9_kindles_78 : vc X P m_X9_kindles h K k_X9_kindles S (n + 1) 78 ls st μ = if 78 ∈ S then mAt X m_X9_kindles h K 78 ls st μ else bb X P m_X9_kindles h K (vc X P m_X9_kindles h K k_X9_kindles S n) s_X9_kindles_78 ls st μ := by rw [vc_s, t_X9_kindles_78]
theorem w_X9_kindles_85 : bb X P m_X9_kindles h K J s_X9_kindles_85 ls st μ = bb X P m_X9_kindles h K J ((85, .iinc 4 1, 3, 4, 0, 0, .inl (nI 1), []) ::
  (88, .goto (-72), 3, 16, 0, 0, .inl 0, []) :: s_X9_kindles_91) ls st μ := by rw [s_X9_kindles_85]
theorem v_X9_kindles_85 : vc X P m_X9_kindles h K k_X9_kindles S (n + 1) 85 ls st μ = if 85 ∈ S then mAt X m_X9_kindles h K 85 ls st μ else bb X P m_X9_kindles h K (vc X P m_X9_kindles h K k_X9_kindles S n) s_X9_kindles_85 ls st μ := by rw [vc_s, t_X9_kindles_85]
theorem w_X9_kindles_91 : bb X P m_X9_kindles h K J s_X9_kindles_91 ls st μ = bb X P m_X9_kindles h K J ((91, .iconst 0, 1, 0, 0, 0, .inl (nI 0), []) ::
  (92, .istore 4, 2, 4, 0, 0, .inl 0, []) :: s_X9_kindles_94) ls st μ := by rw [s_X9_kindles_91]
theorem v_X9_kindles_91 : vc X P m_X9_kindles h K k_X9_kindles S (n + 1) 91 ls st μ = if 91 ∈ S then mAt X m_X9_kindles h K 91 ls st μ else bb X P m_X9_kindles h K (vc X P m_X9_kindles h K k_X9_kindles S n) s_X9_kindles_91 ls st μ := by rw [vc_s, t_X9_kindles_91]
theorem w_X9_kindles_94 : bb X P m_X9_kindles h K J s_X9_kindles_94 ls st μ = bb X P m_X9_kindles h K J ((94, .iload 4, 2, 4, 0, 0, .inl 0, []) ::
  (96, .iload_n 3, 1, 3, 0, 0, .inl 0, []) ::
  (97, .if_icmp .ge 18, 3, 115, 0, 0, .inl 0, []) ::
  (100, .aload_n 0, 1, 0, 0, 0, .inl 0, []) ::
  (101, .aload_n 0, 1, 0, 0, 0, .inl 0, []) ::
  (102, .getfield 42, 3, 8, 23, 3, .inr (.inr (16, 296, 11)), [1219]) ::
  (105, .iconst 0, 1, 0, 0, 0, .inl (nI 0), []) ::
  (106, .invokevirtual 278, 3, 171, 3, 0, .inl 0, [1520, 8]) ::
  (109, .iinc 4 1, 3, 4, 0, 0, .inl (nI 1), []) ::
  (112, .goto (-18), 3, 94, 0, 0, .inl 0, []) :: s_X9_kindles_115) ls st μ := by rw [s_X9_kindles_94]
theorem v_X9_kindles_94 : vc X P m_X9_kindles h K k_X9_kindles S (n + 1) 94 ls st μ = if 94 ∈ S then mAt X m_X9_kindles h K 94 ls st μ else bb X P m_X9_kindles h K (vc X P m_X9_kindles h K k_X9_kindles S n) s_X9_kindles_94 ls st μ := by rw [vc_s, t_X9_kindles_94]
theorem w_X9_kindles_115 : bb X P m_X9_kindles h K J s_X9_kindles_115 ls st μ = bb X P m_X9_kindles h K J ((115, .iconst 0, 1, 0, 0, 0, .inl (nI 0), []) ::
  (116, .istore 4, 2, 4, 0, 0, .inl 0, []) :: s_X9_kindles_118) ls st μ := by rw [s_X9_kindles_115]
theorem v_X9_kindles_115 : vc X P m_X9_kindles h K k_X9_kindles S (n + 1) 115 ls st μ = if 115 ∈ S then mAt X m_X9_kindles h K 115 ls st μ else bb X P m_X9_kindles h K (vc X P m_X9_kindles h K k_X9_kindles S n) s_X9_kindles_115 ls st μ := by rw [vc_s, t_X9_kindles_115]
theorem w_X9_kindles_118 : bb X P m_X9_kindles h K J s_X9_kindles_118 ls st μ = bb X P m_X9_kindles h K J ((118, .iload 4, 2, 4, 0, 0, .inl 0, []) ::
  (120, .aload_n 0, 1, 0, 0, 0, .inl 0, []) ::
  (121, .invokevirtual 219, 3, 253, 1, 1, .inl 0, [1472, 8]) ::
  (124, .if_icmp .ge 34, 3, 158, 0, 0, .inl 0, []) ::
  (127, .iload_n 2, 1, 2, 0, 0, .inl 0, []) ::
  (128, .iload 4, 2, 4, 0, 0, .inl 0, []) ::
  (130, .invokestatic 250, 3, 169, 2, 1, .inl 0, [1543]) ::
  (133, .ifCond .eq 19, 3, 152, 0, 0, .inl 0, []) ::
  (136, .aload_n 0, 1, 0, 0, 0, .inl 0, []) ::
  (137, .getfield 42, 3, 8, 23, 3, .inr (.inr (16, 296, 11)), [1219]) ::
  (140, .sipush 212, 3, 0, 0, 0, .inl (nI 212), []) ::
  (143, .iload 4, 2, 4, 0, 0, .inl 0, []) ::
  (145, .iadd, 1, 0, 0, 0, .inl 0, []) ::
  (146, .iaload, 1, 0, 0, 0, .inl 0, []) ::
  (147, .ifCond .ne 5, 3, 152, 0, 0, .inl 0, []) ::
  (150, .iconst 0, 1, 0, 0, 0, .inl (nI 0), []) ::
  (151, .ireturn, 1, 1, 0, 0, .inl 0, []) :: s_X9_kindles_152) ls st μ := by rw [s_X9_kindles_118]
theorem v_X9_kindles_118 : vc X P m_X9_kindles h K k_X9_kindles S (n + 1) 118 ls st μ = if 118 ∈ S then mAt X m_X9_kindles h K 118 ls st μ else bb X P m_X9_kindles h K (vc X P m_X9_kindles h K k_X9_kindles S n) s_X9_kindles_118 ls st μ := by rw [vc_s, t_X9_kindles_118]
theorem w_X9_kindles_152 : bb X P m_X9_kindles h K J s_X9_kindles_152 ls st μ = bb X P m_X9_kindles h K J ((152, .iinc 4 1, 3, 4, 0, 0, .inl (nI 1), []) ::
  (155, .goto (-37), 3, 118, 0, 0, .inl 0, []) :: s_X9_kindles_158) ls st μ := by rw [s_X9_kindles_152]
theorem v_X9_kindles_152 : vc X P m_X9_kindles h K k_X9_kindles S (n + 1) 152 ls st μ = if 152 ∈ S then mAt X m_X9_kindles h K 152 ls st μ else bb X P m_X9_kindles h K (vc X P m_X9_kindles h K k_X9_kindles S n) s_X9_kindles_152 ls st μ := by rw [vc_s, t_X9_kindles_152]
theorem w_X9_kindles_158 : bb X P m_X9_kindles h K J s_X9_kindles_158 ls st μ = bb X P m_X9_kindles h K J ((158, .iconst 1, 1, 0, 0, 0, .inl (nI 1), []) ::
  (159, .ireturn, 1, 1, 0, 0, .inl 0, []) :: []) ls st μ := by rw [s_X9_kindles_158]
theorem v_X9_kindles_158 : vc X P m_X9_kindles h K k_X9_kindles S (n + 1) 158 ls st μ = if 158 ∈ S then mAt X m_X9_kindles h K 158 ls st μ else bb X P m_X9_kindles h K (vc X P m_X9_kindles h K k_X9_kindles S n) s_X9_kindles_158 ls st μ := by rw [vc_s, t_X9_kindles_158]
end
section
variable {X : mC} {P : mP} {h : Nat} {K : MV → Mem → Prop} {J : mJ} {ls : List (Nat × MV)} {st : List MV} {μ : Mem} {S : List Nat} {n : Nat}
theorem w_X9_lacks_0 : bb X P m_X9_lacks h K J s_X9_lacks_0 ls st μ = bb X P m_X9_lacks h K J ((0, .aload_n 0, 1, 0, 0, 0, .inl 0, []) ::
  (1, .iconst 0, 1, 0, 0, 0, .inl (nI 0), []) ::
  (2, .putfield 76, 3, 8, 0, 0, .inl 0, [1196]) ::
  (5, .aload_n 0, 1, 0, 0, 0, .inl 0, []) ::
  (6, .iload_n 1, 1, 1, 0, 0, .inl 0, []) ::
  (7, .iload_n 2, 1, 2, 0, 0, .inl 0, []) ::
  (8, .invokevirtual 291, 3, 188, 3, 1, .inl 0, [1562, 8]) ::
  (11, .ifCond .eq 20, 3, 31, 0, 0, .inl 0, []) ::
  (14, .aload_n 0, 1, 0, 0, 0, .inl 0, []) ::
  (15, .getfield 13, 3, 8, 14, 3, .inr (.inr (16, 925, 2)), [1210]) ::
  (18, .sipush 767, 3, 0, 0, 0, .inl (nI 767), []) ::
  (21, .iload_n 1, 1, 1, 0, 0, .inl 0, []) ::
  (22, .iload_n 2, 1, 2, 0, 0, .inl 0, []) ::
  (23, .invokestatic 182, 3, 148, 2, 1, .inl 0, [1437]) ::
  (26, .iadd, 1, 0, 0, 0, .inl 0, []) ::
  (27, .iaload, 1, 0, 0, 0, .inl 0, []) ::
  (28, .goto 4, 3, 32, 0, 0, .inl 0, []) :: s_X9_lacks_31) ls st μ := by rw [s_X9_lacks_0]
theorem v_X9_lacks_0 : vc X P m_X9_lacks h K k_X9_lacks S (n + 1) 0 ls st μ = if 0 ∈ S then mAt X m_X9_lacks h K 0 ls st μ else bb X P m_X9_lacks h K (vc X P m_X9_lacks h K k_X9_lacks S n) s_X9_lacks_0 ls st μ := by rw [vc_s, t_X9_lacks_0]
theorem w_X9_lacks_31 : bb X P m_X9_lacks h K J s_X9_lacks_31 ls st μ = bb X P m_X9_lacks h K J ((31, .iconst (-1), 1, 0, 0, 0, .inl (-1), []) :: s_X9_lacks_32) ls st μ := by rw [s_X9_lacks_31]
theorem v_X9_lacks_31 : vc X P m_X9_lacks h K k_X9_lacks S (n + 1) 31 ls st μ = if 31 ∈ S then mAt X m_X9_lacks h K 31 ls st μ else bb X P m_X9_lacks h K (vc X P m_X9_lacks h K k_X9_lacks S n) s_X9_lacks_31 ls st μ := by rw [vc_s, t_X9_lacks_31]
theorem w_X9_lacks_32 : bb X P m_X9_lacks h K J s_X9_lacks_32 ls st μ = bb X P m_X9_lacks h K J ((32, .ireturn, 1, 0, 0, 0, .inl 0, []) :: []) ls st μ := by rw [s_X9_lacks_32]
theorem v_X9_lacks_32 : vc X P m_X9_lacks h K k_X9_lacks S (n + 1) 32 ls st μ = if 32 ∈ S then mAt X m_X9_lacks h K 32 ls st μ else bb X P m_X9_lacks h K (vc X P m_X9_lacks h K k_X9_lacks S n) s_X9_lacks_32 ls st μ := by rw [vc_s, t_X9_lacks_32]
end
section
variable {X : mC} {P : mP} {h : Nat} {K : MV → Mem → Prop} {J : mJ} {ls : List (Nat × MV)} {st : List MV} {μ : Mem} {S : List Nat} {n : Nat}
theorem w_X9_layRule_0 : bb X P m_X9_layRule h K J s_X9_layRule_0 ls st μ = bb X P m_X9_layRule h K J ((0, .iconst 0, 1, 0, 0, 0, .inl (nI 0), []) ::
  (1, .istore_n 1, 1, 1, 0, 0, .inl 0, []) :: s_X9_layRule_2) ls st μ := by rw [s_X9_layRule_0]
theorem v_X9_layRule_0 : vc X P m_X9_layRule h K k_X9_layRule S (n + 1) 0 ls st μ = if 0 ∈ S then mAt X m_X9_layRule h K 0 ls st μ else bb X P m_X9_layRule h K (vc X P m_X9_layRule h K k_X9_layRule S n) s_X9_layRule_0 ls st μ := by rw [vc_s, t_X9_layRule_0]
theorem w_X9_layRule_2 : bb X P m_X9_layRule h K J s_X9_layRule_2 ls st μ = bb X P m_X9_layRule h K J ((2, .iload_n 1, 1, 1, 0, 0, .inl 0, []) ::
  (3, .sipush 278, 3, 0, 0, 0, .inl (nI 278), []) ::
  (6, .if_icmp .ge 21, 3, 27, 0, 0, .inl 0, []) ::
  (9, .aload_n 0, 1, 0, 0, 0, .inl 0, []) ::
  (10, .getfield 39, 3, 8, 22, 3, .inr (.inr (16, 278, 10)), [1218]) ::
  (13, .iload_n 1, 1, 1, 0, 0, .inl 0, []) ::
  (14, .aload_n 0, 1, 0, 0, 0, .inl 0, []) ::
  (15, .getfield 13, 3, 8, 14, 3, .inr (.inr (16, 925, 2)), [1210]) ::
  (18, .iload_n 1, 1, 1, 0, 0, .inl 0, []) ::
  (19, .iaload, 1, 0, 0, 0, .inl 0, []) ::
  (20, .iastore, 1, 0, 0, 0, .inl 0, []) ::
  (21, .iinc 1 1, 3, 1, 0, 0, .inl (nI 1), []) ::
  (24, .goto (-22), 3, 2, 0, 0, .inl 0, []) :: s_X9_layRule_27) ls st μ := by rw [s_X9_layRule_2]
theorem v_X9_layRule_2 : vc X P m_X9_layRule h K k_X9_layRule S (n + 1) 2 ls st μ = if 2 ∈ S then mAt X m_X9_layRule h K 2 ls st μ else bb X P m_X9_layRule h K (vc X P m_X9_layRule h K k_X9_layRule S n) s_X9_layRule_2 ls st μ := by rw [vc_s, t_X9_layRule_2]
theorem w_X9_layRule_27 : bb X P m_X9_layRule h K J s_X9_layRule_27 ls st μ = bb X P m_X9_layRule h K J ((27, .aload_n 0, 1, 0, 0, 0, .inl 0, []) ::
  (28, .iconst 0, 1, 0, 0, 0, .inl (nI 0), []) ::
  (29, .putfield 237, 3, 8, 27, 0, .inl 0, [1223]) ::
  (32, .aload_n 0, 1, 0, 0, 0, .inl 0, []) ::
  (33, .iconst (-1), 1, 0, 0, 0, .inl (-1), []) ::
  (34, .putfield 240, 3, 8, 28, 0, .inl 0, [1224]) ::
  (37, .aload_n 0, 1, 0, 0, 0, .inl 0, []) ::
  (38, .iconst 0, 1, 0, 0, 0, .inl (nI 0), []) ::
  (39, .putfield 243, 3, 8, 29, 2, .inl 0, [1225]) ::
  (42, .return_, 1, 0, 0, 0, .inl 0, []) :: []) ls st μ := by rw [s_X9_layRule_27]
theorem v_X9_layRule_27 : vc X P m_X9_layRule h K k_X9_layRule S (n + 1) 27 ls st μ = if 27 ∈ S then mAt X m_X9_layRule h K 27 ls st μ else bb X P m_X9_layRule h K (vc X P m_X9_layRule h K k_X9_layRule S n) s_X9_layRule_27 ls st μ := by rw [vc_s, t_X9_layRule_27]
end
section
variable {X : mC} {P : mP} {h : Nat} {K : MV → Mem → Prop} {J : mJ} {ls : List (Nat × MV)} {st : List MV} {μ : Mem} {S : List Nat} {n : Nat}
theorem w_X9_layValues_0 : bb X P m_X9_layValues h K J s_X9_layValues_0 ls st μ = bb X P m_X9_layValues h K J ((0, .iconst 0, 1, 0, 0, 0, .inl (nI 0), []) ::
  (1, .istore_n 2, 1, 2, 0, 0, .inl 0, []) :: s_X9_layValues_2) ls st μ := by rw [s_X9_layValues_0]
theorem v_X9_layValues_0 : vc X P m_X9_layValues h K k_X9_layValues S (n + 1) 0 ls st μ = if 0 ∈ S then mAt X m_X9_layValues h K 0 ls st μ else bb X P m_X9_layValues h K (vc X P m_X9_layValues h K k_X9_layValues S n) s_X9_layValues_0 ls st μ := by rw [vc_s, t_X9_layValues_0]
theorem w_X9_layValues_2 : bb X P m_X9_layValues h K J s_X9_layValues_2 ls st μ = bb X P m_X9_layValues h K J ((2, .aload_n 0, 1, 0, 0, 0, .inl 0, []) ::
  (3, .iload_n 2, 1, 2, 0, 0, .inl 0, []) ::
  (4, .invokevirtual 300, 3, 181, 2, 1, .inl 0, [1610, 8]) ::
  (7, .ifCond .eq 21, 3, 28, 0, 0, .inl 0, []) ::
  (10, .aload_n 0, 1, 0, 0, 0, .inl 0, []) ::
  (11, .getfield 57, 3, 8, 31, 3, .inr (.inr (16, 256, 16)), [1227]) ::
  (14, .iload_n 2, 1, 2, 0, 0, .inl 0, []) ::
  (15, .aload_n 0, 1, 0, 0, 0, .inl 0, []) ::
  (16, .iload_n 2, 1, 2, 0, 0, .inl 0, []) ::
  (17, .iload_n 1, 1, 1, 0, 0, .inl 0, []) ::
  (18, .invokevirtual 306, 3, 204, 3, 1, .inl 0, [1617, 8]) ::
  (21, .iastore, 1, 0, 0, 0, .inl 0, []) ::
  (22, .iinc 2 1, 3, 2, 0, 0, .inl (nI 1), []) ::
  (25, .goto (-23), 3, 2, 0, 0, .inl 0, []) :: s_X9_layValues_28) ls st μ := by rw [s_X9_layValues_2]
theorem v_X9_layValues_2 : vc X P m_X9_layValues h K k_X9_layValues S (n + 1) 2 ls st μ = if 2 ∈ S then mAt X m_X9_layValues h K 2 ls st μ else bb X P m_X9_layValues h K (vc X P m_X9_layValues h K k_X9_layValues S n) s_X9_layValues_2 ls st μ := by rw [vc_s, t_X9_layValues_2]
theorem w_X9_layValues_28 : bb X P m_X9_layValues h K J s_X9_layValues_28 ls st μ = bb X P m_X9_layValues h K J ((28, .return_, 1, 0, 0, 0, .inl 0, []) :: []) ls st μ := by rw [s_X9_layValues_28]
theorem v_X9_layValues_28 : vc X P m_X9_layValues h K k_X9_layValues S (n + 1) 28 ls st μ = if 28 ∈ S then mAt X m_X9_layValues h K 28 ls st μ else bb X P m_X9_layValues h K (vc X P m_X9_layValues h K k_X9_layValues S n) s_X9_layValues_28 ls st μ := by rw [vc_s, t_X9_layValues_28]
end
section
variable {X : mC} {P : mP} {h : Nat} {K : MV → Mem → Prop} {J : mJ} {ls : List (Nat × MV)} {st : List MV} {μ : Mem} {S : List Nat} {n : Nat}
theorem w_X9_lays_0 : bb X P m_X9_lays h K J s_X9_lays_0 ls st μ = bb X P m_X9_lays h K J ((0, .iconst 4, 1, 0, 0, 0, .inl (nI 4), []) ::
  (1, .aload_n 0, 1, 0, 0, 0, .inl 0, []) ::
  (2, .getfield 362, 3, 8, 41, 0, .inl 0, [1237]) ::
  (5, .imul, 1, 0, 0, 0, .inl 0, []) ::
  (6, .istore 5, 2, 5, 0, 0, .inl 0, []) ::
  (8, .aload_n 0, 1, 0, 0, 0, .inl 0, []) ::
  (9, .getfield 73, 3, 8, 40, 3, .inr (.inr (16, 240, 20)), [1236]) ::
  (12, .iload 5, 2, 5, 0, 0, .inl 0, []) ::
  (14, .iload_n 1, 1, 1, 0, 0, .inl 0, []) ::
  (15, .iastore, 1, 0, 0, 0, .inl 0, []) ::
  (16, .aload_n 0, 1, 0, 0, 0, .inl 0, []) ::
  (17, .getfield 73, 3, 8, 40, 3, .inr (.inr (16, 240, 20)), [1236]) ::
  (20, .iload 5, 2, 5, 0, 0, .inl 0, []) ::
  (22, .iconst 1, 1, 0, 0, 0, .inl (nI 1), []) ::
  (23, .iadd, 1, 0, 0, 0, .inl 0, []) ::
  (24, .iload_n 2, 1, 2, 0, 0, .inl 0, []) ::
  (25, .iastore, 1, 0, 0, 0, .inl 0, []) ::
  (26, .aload_n 0, 1, 0, 0, 0, .inl 0, []) ::
  (27, .getfield 73, 3, 8, 40, 3, .inr (.inr (16, 240, 20)), [1236]) ::
  (30, .iload 5, 2, 5, 0, 0, .inl 0, []) ::
  (32, .iconst 2, 1, 0, 0, 0, .inl (nI 2), []) ::
  (33, .iadd, 1, 0, 0, 0, .inl 0, []) ::
  (34, .iload_n 3, 1, 3, 0, 0, .inl 0, []) ::
  (35, .iastore, 1, 0, 0, 0, .inl 0, []) ::
  (36, .aload_n 0, 1, 0, 0, 0, .inl 0, []) ::
  (37, .getfield 73, 3, 8, 40, 3, .inr (.inr (16, 240, 20)), [1236]) ::
  (40, .iload 5, 2, 5, 0, 0, .inl 0, []) ::
  (42, .iconst 3, 1, 0, 0, 0, .inl (nI 3), []) ::
  (43, .iadd, 1, 0, 0, 0, .inl 0, []) ::
  (44, .iload 4, 2, 4, 0, 0, .inl 0, []) ::
  (46, .iastore, 1, 0, 0, 0, .inl 0, []) ::
  (47, .aload_n 0, 1, 0, 0, 0, .inl 0, []) ::
  (48, .dup, 1, 0, 0, 0, .inl 0, []) ::
  (49, .getfield 362, 3, 8, 41, 0, .inl 0, [1237]) ::
  (52, .iconst 1, 1, 0, 0, 0, .inl (nI 1), []) ::
  (53, .iadd, 1, 0, 0, 0, .inl 0, []) ::
  (54, .putfield 362, 3, 8, 41, 0, .inl 0, [1237]) ::
  (57, .aload_n 0, 1, 0, 0, 0, .inl 0, []) ::
  (58, .getfield 362, 3, 8, 41, 0, .inl 0, [1237]) ::
  (61, .iconst 1, 1, 0, 0, 0, .inl (nI 1), []) ::
  (62, .isub, 1, 0, 0, 0, .inl 0, []) ::
  (63, .ireturn, 1, 0, 0, 0, .inl 0, []) :: []) ls st μ := by rw [s_X9_lays_0]
theorem v_X9_lays_0 : vc X P m_X9_lays h K k_X9_lays S (n + 1) 0 ls st μ = if 0 ∈ S then mAt X m_X9_lays h K 0 ls st μ else bb X P m_X9_lays h K (vc X P m_X9_lays h K k_X9_lays S n) s_X9_lays_0 ls st μ := by rw [vc_s, t_X9_lays_0]
end
section
variable {X : mC} {P : mP} {h : Nat} {K : MV → Mem → Prop} {J : mJ} {ls : List (Nat × MV)} {st : List MV} {μ : Mem} {S : List Nat} {n : Nat}
theorem w_X9_less_0 : bb X P m_X9_less h K J s_X9_less_0 ls st μ = bb X P m_X9_less h K J ((0, .iload_n 0, 1, 0, 0, 0, .inl 0, []) ::
  (1, .iload_n 1, 1, 1, 0, 0, .inl 0, []) ::
  (2, .if_icmp .ge 7, 3, 9, 0, 0, .inl 0, []) ::
  (5, .iload_n 0, 1, 0, 0, 0, .inl 0, []) ::
  (6, .goto 4, 3, 10, 0, 0, .inl 0, []) :: s_X9_less_9) ls st μ := by rw [s_X9_less_0]
theorem v_X9_less_0 : vc X P m_X9_less h K k_X9_less S (n + 1) 0 ls st μ = if 0 ∈ S then mAt X m_X9_less h K 0 ls st μ else bb X P m_X9_less h K (vc X P m_X9_less h K k_X9_less S n) s_X9_less_0 ls st μ := by rw [vc_s, t_X9_less_0]
theorem w_X9_less_9 : bb X P m_X9_less h K J s_X9_less_9 ls st μ = bb X P m_X9_less h K J ((9, .iload_n 1, 1, 1, 0, 0, .inl 0, []) :: s_X9_less_10) ls st μ := by rw [s_X9_less_9]
theorem v_X9_less_9 : vc X P m_X9_less h K k_X9_less S (n + 1) 9 ls st μ = if 9 ∈ S then mAt X m_X9_less h K 9 ls st μ else bb X P m_X9_less h K (vc X P m_X9_less h K k_X9_less S n) s_X9_less_9 ls st μ := by rw [vc_s, t_X9_less_9]
theorem w_X9_less_10 : bb X P m_X9_less h K J s_X9_less_10 ls st μ = bb X P m_X9_less h K J ((10, .ireturn, 1, 0, 0, 0, .inl 0, []) :: []) ls st μ := by rw [s_X9_less_10]
theorem v_X9_less_10 : vc X P m_X9_less h K k_X9_less S (n + 1) 10 ls st μ = if 10 ∈ S then mAt X m_X9_less h K 10 ls st μ else bb X P m_X9_less h K (vc X P m_X9_less h K k_X9_less S n) s_X9_less_10 ls st μ := by rw [vc_s, t_X9_less_10]
end
section
variable {X : mC} {P : mP} {h : Nat} {K : MV → Mem → Prop} {J : mJ} {ls : List (Nat × MV)} {st : List MV} {μ : Mem} {S : List Nat} {n : Nat}
theorem w_X9_longer_0 : bb X P m_X9_longer h K J s_X9_longer_0 ls st μ = bb X P m_X9_longer h K J ((0, .aload_n 0, 1, 0, 0, 0, .inl 0, []) ::
  (1, .iconst 0, 1, 0, 0, 0, .inl (nI 0), []) ::
  (2, .putfield 76, 3, 8, 0, 0, .inl 0, [1196]) ::
  (5, .iload_n 1, 1, 1, 0, 0, .inl 0, []) ::
  (6, .iconst 1, 1, 0, 0, 0, .inl (nI 1), []) ::
  (7, .bipush 11, 2, 0, 0, 0, .inl (nI 11), []) ::
  (9, .invokestatic 143, 3, 177, 3, 1, .inl 0, [1414]) ::
  (12, .ifCond .eq 10, 3, 22, 0, 0, .inl 0, []) ::
  (15, .iload_n 2, 1, 2, 0, 0, .inl 0, []) ::
  (16, .invokestatic 303, 3, 176, 1, 1, .inl 0, [1614]) ::
  (19, .ifCond .ne 5, 3, 24, 0, 0, .inl 0, []) :: s_X9_longer_22) ls st μ := by rw [s_X9_longer_0]
theorem v_X9_longer_0 : vc X P m_X9_longer h K k_X9_longer S (n + 1) 0 ls st μ = if 0 ∈ S then mAt X m_X9_longer h K 0 ls st μ else bb X P m_X9_longer h K (vc X P m_X9_longer h K k_X9_longer S n) s_X9_longer_0 ls st μ := by rw [vc_s, t_X9_longer_0]
theorem w_X9_longer_22 : bb X P m_X9_longer h K J s_X9_longer_22 ls st μ = bb X P m_X9_longer h K J ((22, .iconst (-1), 1, 0, 0, 0, .inl (-1), []) ::
  (23, .ireturn, 1, 0, 0, 0, .inl 0, []) :: s_X9_longer_24) ls st μ := by rw [s_X9_longer_22]
theorem v_X9_longer_22 : vc X P m_X9_longer h K k_X9_longer S (n + 1) 22 ls st μ = if 22 ∈ S then mAt X m_X9_longer h K 22 ls st μ else bb X P m_X9_longer h K (vc X P m_X9_longer h K k_X9_longer S n) s_X9_longer_22 ls st μ := by rw [vc_s, t_X9_longer_22]
theorem w_X9_longer_24 : bb X P m_X9_longer h K J s_X9_longer_24 ls st μ = bb X P m_X9_longer h K J ((24, .iconst (-1), 1, 0, 0, 0, .inl (-1), []) ::
  (25, .istore_n 3, 1, 3, 0, 0, .inl 0, []) ::
  (26, .iconst 0, 1, 0, 0, 0, .inl (nI 0), []) ::
  (27, .istore 4, 2, 4, 0, 0, .inl 0, []) ::
  (29, .iconst 0, 1, 0, 0, 0, .inl (nI 0), []) ::
  (30, .istore 5, 2, 5, 0, 0, .inl 0, []) :: s_X9_longer_32) ls st μ := by rw [s_X9_longer_24]
theorem v_X9_longer_24 : vc X P m_X9_longer h K k_X9_longer S (n + 1) 24 ls st μ = if 24 ∈ S then mAt X m_X9_longer h K 24 ls st μ else bb X P m_X9_longer h K (vc X P m_X9_longer h K k_X9_longer S n) s_X9_longer_24 ls st μ := by rw [vc_s, t_X9_longer_24]
theorem w_X9_longer_32 : bb X P m_X9_longer h K J s_X9_longer_32 ls st μ = bb X P m_X9_longer h K J ((32, .iload 5, 2, 5, 0, 0, .inl 0, []) ::
  (34, .aload_n 0, 1, 0, 0, 0, .inl 0, []) ::
  (35, .invokevirtual 219, 3, 253, 1, 1, .inl 0, [1472, 8]) ::
  (38, .if_icmp .ge 69, 3, 107, 0, 0, .inl 0, []) ::
  (41, .aload_n 0, 1, 0, 0, 0, .inl 0, []) ::
  (42, .invokevirtual 285, 3, 196, 1, 0, .inl 0, [1504, 8]) ::
  (45, .aload_n 0, 1, 0, 0, 0, .inl 0, []) ::
  (46, .getfield 39, 3, 8, 22, 3, .inr (.inr (16, 278, 10)), [1218]) ::
  (49, .bipush 22, 2, 0, 0, 0, .inl (nI 22), []) ::
  (51, .iload 5, 2, 5, 0, 0, .inl 0, []) ::
  (53, .iadd, 1, 0, 0, 0, .inl 0, []) ::
  (54, .bipush 11, 2, 0, 0, 0, .inl (nI 11), []) ::
  (56, .aload_n 0, 1, 0, 0, 0, .inl 0, []) ::
  (57, .getfield 39, 3, 8, 22, 3, .inr (.inr (16, 278, 10)), [1218]) ::
  (60, .bipush 22, 2, 0, 0, 0, .inl (nI 22), []) ::
  (62, .iload 5, 2, 5, 0, 0, .inl 0, []) ::
  (64, .iadd, 1, 0, 0, 0, .inl 0, []) ::
  (65, .iaload, 1, 0, 0, 0, .inl 0, []) ::
  (66, .iload_n 1, 1, 1, 0, 0, .inl 0, []) ::
  (67, .iadd, 1, 0, 0, 0, .inl 0, []) ::
  (68, .invokestatic 247, 3, 199, 2, 1, .inl 0, [1528]) ::
  (71, .iastore, 1, 0, 0, 0, .inl 0, []) ::
  (72, .aload_n 0, 1, 0, 0, 0, .inl 0, []) ::
  (73, .iload_n 2, 1, 2, 0, 0, .inl 0, []) ::
  (74, .invokevirtual 297, 3, 238, 2, 1, .inl 0, [1621, 8]) ::
  (77, .istore 6, 2, 6, 0, 0, .inl 0, []) ::
  (79, .iload_n 3, 1, 3, 0, 0, .inl 0, []) ::
  (80, .iconst (-1), 1, 0, 0, 0, .inl (-1), []) ::
  (81, .if_icmp .eq 13, 3, 94, 0, 0, .inl 0, []) ::
  (84, .iload 6, 2, 6, 0, 0, .inl 0, []) ::
  (86, .iload 4, 2, 4, 0, 0, .inl 0, []) ::
  (88, .if_icmp .gt 6, 3, 94, 0, 0, .inl 0, []) ::
  (91, .goto 10, 3, 101, 0, 0, .inl 0, []) :: s_X9_longer_94) ls st μ := by rw [s_X9_longer_32]
theorem v_X9_longer_32 : vc X P m_X9_longer h K k_X9_longer S (n + 1) 32 ls st μ = if 32 ∈ S then mAt X m_X9_longer h K 32 ls st μ else bb X P m_X9_longer h K (vc X P m_X9_longer h K k_X9_longer S n) s_X9_longer_32 ls st μ := by rw [vc_s, t_X9_longer_32]
theorem w_X9_longer_94 : bb X P m_X9_longer h K J s_X9_longer_94 ls st μ = bb X P m_X9_longer h K J ((94, .iload 5, 2, 5, 0, 0, .inl 0, []) ::
  (96, .istore_n 3, 1, 3, 0, 0, .inl 0, []) ::
  (97, .iload 6, 2, 6, 0, 0, .inl 0, []) ::
  (99, .istore 4, 2, 4, 0, 0, .inl 0, []) :: s_X9_longer_101) ls st μ := by rw [s_X9_longer_94]
theorem v_X9_longer_94 : vc X P m_X9_longer h K k_X9_longer S (n + 1) 94 ls st μ = if 94 ∈ S then mAt X m_X9_longer h K 94 ls st μ else bb X P m_X9_longer h K (vc X P m_X9_longer h K k_X9_longer S n) s_X9_longer_94 ls st μ := by rw [vc_s, t_X9_longer_94]
theorem w_X9_longer_101 : bb X P m_X9_longer h K J s_X9_longer_101 ls st μ = bb X P m_X9_longer h K J ((101, .iinc 5 1, 3, 5, 0, 0, .inl (nI 1), []) ::
  (104, .goto (-72), 3, 32, 0, 0, .inl 0, []) :: s_X9_longer_107) ls st μ := by rw [s_X9_longer_101]
theorem v_X9_longer_101 : vc X P m_X9_longer h K k_X9_longer S (n + 1) 101 ls st μ = if 101 ∈ S then mAt X m_X9_longer h K 101 ls st μ else bb X P m_X9_longer h K (vc X P m_X9_longer h K k_X9_longer S n) s_X9_longer_101 ls st μ := by rw [vc_s, t_X9_longer_101]
theorem w_X9_longer_107 : bb X P m_X9_longer h K J s_X9_longer_107 ls st μ = bb X P m_X9_longer h K J ((107, .iload_n 3, 1, 3, 0, 0, .inl 0, []) ::
  (108, .ireturn, 1, 0, 0, 0, .inl 0, []) :: []) ls st μ := by rw [s_X9_longer_107]
theorem v_X9_longer_107 : vc X P m_X9_longer h K k_X9_longer S (n + 1) 107 ls st μ = if 107 ∈ S then mAt X m_X9_longer h K 107 ls st μ else bb X P m_X9_longer h K (vc X P m_X9_longer h K k_X9_longer S n) s_X9_longer_107 ls st μ := by rw [vc_s, t_X9_longer_107]
end
section
variable {X : mC} {P : mP} {h : Nat} {K : MV → Mem → Prop} {J : mJ} {ls : List (Nat × MV)} {st : List MV} {μ : Mem} {S : List Nat} {n : Nat}
theorem w_X9_lose_0 : bb X P m_X9_lose h K J s_X9_lose_0 ls st μ = bb X P m_X9_lose h K J ((0, .aload_n 0, 1, 0, 0, 0, .inl 0, []) ::
  (1, .getfield 45, 3, 8, 24, 3, .inr (.inr (16, 6, 12)), [1220]) ::
  (4, .iload_n 3, 1, 3, 0, 0, .inl 0, []) ::
  (5, .iaload, 1, 0, 0, 0, .inl 0, []) ::
  (6, .aload_n 0, 1, 0, 0, 0, .inl 0, []) ::
  (7, .getfield 39, 3, 8, 22, 3, .inr (.inr (16, 278, 10)), [1218]) ::
  (10, .bipush 8, 2, 0, 0, 0, .inl (nI 8), []) ::
  (12, .iload_n 3, 1, 3, 0, 0, .inl 0, []) ::
  (13, .iadd, 1, 0, 0, 0, .inl 0, []) ::
  (14, .iaload, 1, 0, 0, 0, .inl 0, []) ::
  (15, .invokestatic 247, 3, 199, 2, 1, .inl 0, [1528]) ::
  (18, .istore 4, 2, 4, 0, 0, .inl 0, []) ::
  (20, .aload_n 0, 1, 0, 0, 0, .inl 0, []) ::
  (21, .getfield 45, 3, 8, 24, 3, .inr (.inr (16, 6, 12)), [1220]) ::
  (24, .iload_n 3, 1, 3, 0, 0, .inl 0, []) ::
  (25, .dup2, 1, 0, 0, 0, .inl 0, []) ::
  (26, .iaload, 1, 0, 0, 0, .inl 0, []) ::
  (27, .iload 4, 2, 4, 0, 0, .inl 0, []) ::
  (29, .isub, 1, 0, 0, 0, .inl 0, []) ::
  (30, .iastore, 1, 0, 0, 0, .inl 0, []) ::
  (31, .aload_n 1, 1, 1, 0, 0, .inl 0, []) ::
  (32, .iload_n 2, 1, 2, 0, 0, .inl 0, []) ::
  (33, .sipush 284, 3, 0, 0, 0, .inl (nI 284), []) ::
  (36, .iadd, 1, 0, 0, 0, .inl 0, []) ::
  (37, .iload_n 3, 1, 3, 0, 0, .inl 0, []) ::
  (38, .iadd, 1, 0, 0, 0, .inl 0, []) ::
  (39, .dup2, 1, 0, 0, 0, .inl 0, []) ::
  (40, .iaload, 1, 0, 0, 0, .inl 0, []) ::
  (41, .iload 4, 2, 4, 0, 0, .inl 0, []) ::
  (43, .iadd, 1, 0, 0, 0, .inl 0, []) ::
  (44, .iastore, 1, 0, 0, 0, .inl 0, []) ::
  (45, .aload_n 0, 1, 0, 0, 0, .inl 0, []) ::
  (46, .getfield 45, 3, 8, 24, 3, .inr (.inr (16, 6, 12)), [1220]) ::
  (49, .iload_n 3, 1, 3, 0, 0, .inl 0, []) ::
  (50, .iaload, 1, 0, 0, 0, .inl 0, []) ::
  (51, .ifCond .le 4, 3, 55, 0, 0, .inl 0, []) ::
  (54, .return_, 1, 0, 0, 0, .inl 0, []) :: s_X9_lose_55) ls st μ := by rw [s_X9_lose_0]
theorem v_X9_lose_0 : vc X P m_X9_lose h K k_X9_lose S (n + 1) 0 ls st μ = if 0 ∈ S then mAt X m_X9_lose h K 0 ls st μ else bb X P m_X9_lose h K (vc X P m_X9_lose h K k_X9_lose S n) s_X9_lose_0 ls st μ := by rw [vc_s, t_X9_lose_0]
theorem w_X9_lose_55 : bb X P m_X9_lose h K J s_X9_lose_55 ls st μ = bb X P m_X9_lose h K J ((55, .aload_n 0, 1, 0, 0, 0, .inl 0, []) ::
  (56, .getfield 48, 3, 8, 25, 3, .inr (.inr (16, 6, 13)), [1221]) ::
  (59, .iload_n 3, 1, 3, 0, 0, .inl 0, []) ::
  (60, .iconst 0, 1, 0, 0, 0, .inl (nI 0), []) ::
  (61, .iastore, 1, 0, 0, 0, .inl 0, []) ::
  (62, .aload_n 0, 1, 0, 0, 0, .inl 0, []) ::
  (63, .getfield 51, 3, 8, 26, 3, .inr (.inr (16, 6, 14)), [1222]) ::
  (66, .iload_n 3, 1, 3, 0, 0, .inl 0, []) ::
  (67, .iconst 0, 1, 0, 0, 0, .inl (nI 0), []) ::
  (68, .iastore, 1, 0, 0, 0, .inl 0, []) ::
  (69, .return_, 1, 0, 0, 0, .inl 0, []) :: []) ls st μ := by rw [s_X9_lose_55]
theorem v_X9_lose_55 : vc X P m_X9_lose h K k_X9_lose S (n + 1) 55 ls st μ = if 55 ∈ S then mAt X m_X9_lose h K 55 ls st μ else bb X P m_X9_lose h K (vc X P m_X9_lose h K k_X9_lose S n) s_X9_lose_55 ls st μ := by rw [vc_s, t_X9_lose_55]
end
section
variable {X : mC} {P : mP} {h : Nat} {K : MV → Mem → Prop} {J : mJ} {ls : List (Nat × MV)} {st : List MV} {μ : Mem} {S : List Nat} {n : Nat}
theorem w_X9_loss_0 : bb X P m_X9_loss h K J s_X9_loss_0 ls st μ = bb X P m_X9_loss h K J ((0, .aload_n 0, 1, 0, 0, 0, .inl 0, []) ::
  (1, .iconst 0, 1, 0, 0, 0, .inl (nI 0), []) ::
  (2, .putfield 76, 3, 8, 0, 0, .inl 0, [1196]) ::
  (5, .aload_n 0, 1, 0, 0, 0, .inl 0, []) ::
  (6, .iload_n 1, 1, 1, 0, 0, .inl 0, []) ::
  (7, .invokevirtual 234, 3, 175, 2, 1, .inl 0, [1492, 8]) ::
  (10, .ifCond .eq 15, 3, 25, 0, 0, .inl 0, []) ::
  (13, .aload_n 0, 1, 0, 0, 0, .inl 0, []) ::
  (14, .getfield 13, 3, 8, 14, 3, .inr (.inr (16, 925, 2)), [1210]) ::
  (17, .bipush 8, 2, 0, 0, 0, .inl (nI 8), []) ::
  (19, .iload_n 1, 1, 1, 0, 0, .inl 0, []) ::
  (20, .iadd, 1, 0, 0, 0, .inl 0, []) ::
  (21, .iaload, 1, 0, 0, 0, .inl 0, []) ::
  (22, .goto 4, 3, 26, 0, 0, .inl 0, []) :: s_X9_loss_25) ls st μ := by rw [s_X9_loss_0]
theorem v_X9_loss_0 : vc X P m_X9_loss h K k_X9_loss S (n + 1) 0 ls st μ = if 0 ∈ S then mAt X m_X9_loss h K 0 ls st μ else bb X P m_X9_loss h K (vc X P m_X9_loss h K k_X9_loss S n) s_X9_loss_0 ls st μ := by rw [vc_s, t_X9_loss_0]
theorem w_X9_loss_25 : bb X P m_X9_loss h K J s_X9_loss_25 ls st μ = bb X P m_X9_loss h K J ((25, .iconst (-1), 1, 0, 0, 0, .inl (-1), []) :: s_X9_loss_26) ls st μ := by rw [s_X9_loss_25]
theorem v_X9_loss_25 : vc X P m_X9_loss h K k_X9_loss S (n + 1) 25 ls st μ = if 25 ∈ S then mAt X m_X9_loss h K 25 ls st μ else bb X P m_X9_loss h K (vc X P m_X9_loss h K k_X9_loss S n) s_X9_loss_25 ls st μ := by rw [vc_s, t_X9_loss_25]
theorem w_X9_loss_26 : bb X P m_X9_loss h K J s_X9_loss_26 ls st μ = bb X P m_X9_loss h K J ((26, .ireturn, 1, 0, 0, 0, .inl 0, []) :: []) ls st μ := by rw [s_X9_loss_26]
theorem v_X9_loss_26 : vc X P m_X9_loss h K k_X9_loss S (n + 1) 26 ls st μ = if 26 ∈ S then mAt X m_X9_loss h K 26 ls st μ else bb X P m_X9_loss h K (vc X P m_X9_loss h K k_X9_loss S n) s_X9_loss_26 ls st μ := by rw [vc_s, t_X9_loss_26]
end
section
variable {X : mC} {P : mP} {h : Nat} {K : MV → Mem → Prop} {J : mJ} {ls : List (Nat × MV)} {st : List MV} {μ : Mem} {S : List Nat} {n : Nat}
theorem w_X9_made_0 : bb X P m_X9_made h K J s_X9_made_0 ls st μ = bb X P m_X9_made h K J ((0, .aload_n 0, 1, 0, 0, 0, .inl 0, []) ::
  (1, .iconst 0, 1, 0, 0, 0, .inl (nI 0), []) ::
  (2, .putfield 76, 3, 8, 0, 0, .inl 0, [1196]) ::
  (5, .aload_n 0, 1, 0, 0, 0, .inl 0, []) ::
  (6, .invokevirtual 288, 3, 180, 1, 1, .inl 0, [1516, 8]) ::
  (9, .ifCond .eq 17, 3, 26, 0, 0, .inl 0, []) ::
  (12, .aload_n 0, 1, 0, 0, 0, .inl 0, []) ::
  (13, .aload_n 0, 1, 0, 0, 0, .inl 0, []) ::
  (14, .getfield 13, 3, 8, 14, 3, .inr (.inr (16, 925, 2)), [1210]) ::
  (17, .sipush 621, 3, 0, 0, 0, .inl (nI 621), []) ::
  (20, .invokevirtual 281, 3, 205, 3, 1, .inl 0, [1586, 8]) ::
  (23, .goto 4, 3, 27, 0, 0, .inl 0, []) :: s_X9_made_26) ls st μ := by rw [s_X9_made_0]
theorem v_X9_made_0 : vc X P m_X9_made h K k_X9_made S (n + 1) 0 ls st μ = if 0 ∈ S then mAt X m_X9_made h K 0 ls st μ else bb X P m_X9_made h K (vc X P m_X9_made h K k_X9_made S n) s_X9_made_0 ls st μ := by rw [vc_s, t_X9_made_0]
theorem w_X9_made_26 : bb X P m_X9_made h K J s_X9_made_26 ls st μ = bb X P m_X9_made h K J ((26, .iconst (-1), 1, 0, 0, 0, .inl (-1), []) :: s_X9_made_27) ls st μ := by rw [s_X9_made_26]
theorem v_X9_made_26 : vc X P m_X9_made h K k_X9_made S (n + 1) 26 ls st μ = if 26 ∈ S then mAt X m_X9_made h K 26 ls st μ else bb X P m_X9_made h K (vc X P m_X9_made h K k_X9_made S n) s_X9_made_26 ls st μ := by rw [vc_s, t_X9_made_26]
theorem w_X9_made_27 : bb X P m_X9_made h K J s_X9_made_27 ls st μ = bb X P m_X9_made h K J ((27, .ireturn, 1, 0, 0, 0, .inl 0, []) :: []) ls st μ := by rw [s_X9_made_27]
theorem v_X9_made_27 : vc X P m_X9_made h K k_X9_made S (n + 1) 27 ls st μ = if 27 ∈ S then mAt X m_X9_made h K 27 ls st μ else bb X P m_X9_made h K (vc X P m_X9_made h K k_X9_made S n) s_X9_made_27 ls st μ := by rw [vc_s, t_X9_made_27]
end
section
variable {X : mC} {P : mP} {h : Nat} {K : MV → Mem → Prop} {J : mJ} {ls : List (Nat × MV)} {st : List MV} {μ : Mem} {S : List Nat} {n : Nat}
theorem w_X9_madeBy_0 : bb X P m_X9_madeBy h K J s_X9_madeBy_0 ls st μ = bb X P m_X9_madeBy h K J ((0, .aload_n 0, 1, 0, 0, 0, .inl 0, []) ::
  (1, .invokevirtual 285, 3, 196, 1, 0, .inl 0, [1504, 8]) ::
  (4, .aload_n 0, 1, 0, 0, 0, .inl 0, []) ::
  (5, .iconst 1, 1, 0, 0, 0, .inl (nI 1), []) ::
  (6, .aload_n 0, 1, 0, 0, 0, .inl 0, []) ::
  (7, .invokevirtual 219, 3, 253, 1, 1, .inl 0, [1472, 8]) ::
  (10, .ishl, 1, 0, 0, 0, .inl 0, []) ::
  (11, .iconst 1, 1, 0, 0, 0, .inl (nI 1), []) ::
  (12, .isub, 1, 0, 0, 0, .inl 0, []) ::
  (13, .iload_n 1, 1, 1, 0, 0, .inl 0, []) ::
  (14, .iconst (-1), 1, 0, 0, 0, .inl (-1), []) ::
  (15, .ixor, 1, 0, 0, 0, .inl 0, []) ::
  (16, .iand, 1, 0, 0, 0, .inl 0, []) ::
  (17, .putfield 237, 3, 8, 27, 0, .inl 0, [1223]) ::
  (20, .aload_n 0, 1, 0, 0, 0, .inl 0, []) ::
  (21, .iload_n 2, 1, 2, 0, 0, .inl 0, []) ::
  (22, .invokevirtual 297, 3, 238, 2, 1, .inl 0, [1621, 8]) ::
  (25, .ireturn, 1, 0, 0, 0, .inl 0, []) :: []) ls st μ := by rw [s_X9_madeBy_0]
theorem v_X9_madeBy_0 : vc X P m_X9_madeBy h K k_X9_madeBy S (n + 1) 0 ls st μ = if 0 ∈ S then mAt X m_X9_madeBy h K 0 ls st μ else bb X P m_X9_madeBy h K (vc X P m_X9_madeBy h K k_X9_madeBy S n) s_X9_madeBy_0 ls st μ := by rw [vc_s, t_X9_madeBy_0]
end
section
variable {X : mC} {P : mP} {h : Nat} {K : MV → Mem → Prop} {J : mJ} {ls : List (Nat × MV)} {st : List MV} {μ : Mem} {S : List Nat} {n : Nat}
theorem w_X9_madeIn_0 : bb X P m_X9_madeIn h K J s_X9_madeIn_0 ls st μ = bb X P m_X9_madeIn h K J ((0, .iconst 0, 1, 0, 0, 0, .inl (nI 0), []) ::
  (1, .istore_n 3, 1, 3, 0, 0, .inl 0, []) ::
  (2, .iconst 0, 1, 0, 0, 0, .inl (nI 0), []) ::
  (3, .istore 4, 2, 4, 0, 0, .inl 0, []) :: s_X9_madeIn_5) ls st μ := by rw [s_X9_madeIn_0]
theorem v_X9_madeIn_0 : vc X P m_X9_madeIn h K k_X9_madeIn S (n + 1) 0 ls st μ = if 0 ∈ S then mAt X m_X9_madeIn h K 0 ls st μ else bb X P m_X9_madeIn h K (vc X P m_X9_madeIn h K k_X9_madeIn S n) s_X9_madeIn_0 ls st μ := by rw [vc_s, t_X9_madeIn_0]
theorem w_X9_madeIn_5 : bb X P m_X9_madeIn h K J s_X9_madeIn_5 ls st μ = bb X P m_X9_madeIn h K J ((5, .iload 4, 2, 4, 0, 0, .inl 0, []) ::
  (7, .bipush 8, 2, 0, 0, 0, .inl (nI 8), []) ::
  (9, .if_icmp .ge 22, 3, 31, 0, 0, .inl 0, []) ::
  (12, .iload_n 3, 1, 3, 0, 0, .inl 0, []) ::
  (13, .aload_n 1, 1, 1, 0, 0, .inl 0, []) ::
  (14, .iload_n 2, 1, 2, 0, 0, .inl 0, []) ::
  (15, .sipush 228, 3, 0, 0, 0, .inl (nI 228), []) ::
  (18, .iadd, 1, 0, 0, 0, .inl 0, []) ::
  (19, .iload 4, 2, 4, 0, 0, .inl 0, []) ::
  (21, .iadd, 1, 0, 0, 0, .inl 0, []) ::
  (22, .iaload, 1, 0, 0, 0, .inl 0, []) ::
  (23, .iadd, 1, 0, 0, 0, .inl 0, []) ::
  (24, .istore_n 3, 1, 3, 0, 0, .inl 0, []) ::
  (25, .iinc 4 1, 3, 4, 0, 0, .inl (nI 1), []) ::
  (28, .goto (-23), 3, 5, 0, 0, .inl 0, []) :: s_X9_madeIn_31) ls st μ := by rw [s_X9_madeIn_5]
theorem v_X9_madeIn_5 : vc X P m_X9_madeIn h K k_X9_madeIn S (n + 1) 5 ls st μ = if 5 ∈ S then mAt X m_X9_madeIn h K 5 ls st μ else bb X P m_X9_madeIn h K (vc X P m_X9_madeIn h K k_X9_madeIn S n) s_X9_madeIn_5 ls st μ := by rw [vc_s, t_X9_madeIn_5]
theorem w_X9_madeIn_31 : bb X P m_X9_madeIn h K J s_X9_madeIn_31 ls st μ = bb X P m_X9_madeIn h K J ((31, .iload_n 3, 1, 3, 0, 0, .inl 0, []) ::
  (32, .ireturn, 1, 0, 0, 0, .inl 0, []) :: []) ls st μ := by rw [s_X9_madeIn_31]
theorem v_X9_madeIn_31 : vc X P m_X9_madeIn h K k_X9_madeIn S (n + 1) 31 ls st μ = if 31 ∈ S then mAt X m_X9_madeIn h K 31 ls st μ else bb X P m_X9_madeIn h K (vc X P m_X9_madeIn h K k_X9_madeIn S n) s_X9_madeIn_31 ls st μ := by rw [vc_s, t_X9_madeIn_31]
end
section
variable {X : mC} {P : mP} {h : Nat} {K : MV → Mem → Prop} {J : mJ} {ls : List (Nat × MV)} {st : List MV} {μ : Mem} {S : List Nat} {n : Nat}
theorem w_X9_mayGo_0 : bb X P m_X9_mayGo h K J s_X9_mayGo_0 ls st μ = bb X P m_X9_mayGo h K J ((0, .iload 4, 2, 4, 0, 0, .inl 0, []) ::
  (2, .bipush 12, 2, 0, 0, 0, .inl (nI 12), []) ::
  (4, .irem, 1, 0, 0, 0, .inl 0, []) ::
  (5, .aload_n 0, 1, 0, 0, 0, .inl 0, []) ::
  (6, .getfield 39, 3, 8, 22, 3, .inr (.inr (16, 278, 10)), [1218]) ::
  (9, .bipush 14, 2, 0, 0, 0, .inl (nI 14), []) ::
  (11, .iload_n 3, 1, 3, 0, 0, .inl 0, []) ::
  (12, .iadd, 1, 0, 0, 0, .inl 0, []) ::
  (13, .iaload, 1, 0, 0, 0, .inl 0, []) ::
  (14, .aload_n 0, 1, 0, 0, 0, .inl 0, []) ::
  (15, .getfield 39, 3, 8, 22, 3, .inr (.inr (16, 278, 10)), [1218]) ::
  (18, .bipush 22, 2, 0, 0, 0, .inl (nI 22), []) ::
  (20, .iload_n 3, 1, 3, 0, 0, .inl 0, []) ::
  (21, .iadd, 1, 0, 0, 0, .inl 0, []) ::
  (22, .iaload, 1, 0, 0, 0, .inl 0, []) ::
  (23, .invokestatic 143, 3, 177, 3, 1, .inl 0, [1414]) ::
  (26, .ifCond .eq 36, 3, 62, 0, 0, .inl 0, []) ::
  (29, .aload_n 0, 1, 0, 0, 0, .inl 0, []) ::
  (30, .getfield 237, 3, 8, 27, 0, .inl 0, [1223]) ::
  (33, .iload_n 3, 1, 3, 0, 0, .inl 0, []) ::
  (34, .invokestatic 250, 3, 169, 2, 1, .inl 0, [1543]) ::
  (37, .ifCond .ne 25, 3, 62, 0, 0, .inl 0, []) ::
  (40, .iload 4, 2, 4, 0, 0, .inl 0, []) ::
  (42, .bipush 12, 2, 0, 0, 0, .inl (nI 12), []) ::
  (44, .idiv, 1, 0, 0, 0, .inl 0, []) ::
  (45, .aload_n 0, 1, 0, 0, 0, .inl 0, []) ::
  (46, .getfield 240, 3, 8, 28, 0, .inl 0, [1224]) ::
  (49, .if_icmp .eq 13, 3, 62, 0, 0, .inl 0, []) ::
  (52, .aload_n 0, 1, 0, 0, 0, .inl 0, []) ::
  (53, .iload_n 3, 1, 3, 0, 0, .inl 0, []) ::
  (54, .iload 4, 2, 4, 0, 0, .inl 0, []) ::
  (56, .invokevirtual 253, 3, 185, 3, 1, .inl 0, [1546, 8]) ::
  (59, .ifCond .eq 5, 3, 64, 0, 0, .inl 0, []) :: s_X9_mayGo_62) ls st μ := by rw [s_X9_mayGo_0]
theorem v_X9_mayGo_0 : vc X P m_X9_mayGo h K k_X9_mayGo S (n + 1) 0 ls st μ = if 0 ∈ S then mAt X m_X9_mayGo h K 0 ls st μ else bb X P m_X9_mayGo h K (vc X P m_X9_mayGo h K k_X9_mayGo S n) s_X9_mayGo_0 ls st μ := by rw [vc_s, t_X9_mayGo_0]
theorem w_X9_mayGo_62 : bb X P m_X9_mayGo h K J s_X9_mayGo_62 ls st μ = bb X P m_X9_mayGo h K J ((62, .iconst 0, 1, 0, 0, 0, .inl (nI 0), []) ::
  (63, .ireturn, 1, 1, 0, 0, .inl 0, []) :: s_X9_mayGo_64) ls st μ := by rw [s_X9_mayGo_62]
theorem v_X9_mayGo_62 : vc X P m_X9_mayGo h K k_X9_mayGo S (n + 1) 62 ls st μ = if 62 ∈ S then mAt X m_X9_mayGo h K 62 ls st μ else bb X P m_X9_mayGo h K (vc X P m_X9_mayGo h K k_X9_mayGo S n) s_X9_mayGo_62 ls st μ := by rw [vc_s, t_X9_mayGo_62]
theorem w_X9_mayGo_64 : bb X P m_X9_mayGo h K J s_X9_mayGo_64 ls st μ = bb X P m_X9_mayGo h K J ((64, .iconst 1, 1, 0, 0, 0, .inl (nI 1), []) ::
  (65, .istore 5, 2, 5, 0, 0, .inl 0, []) ::
  (67, .iconst 0, 1, 0, 0, 0, .inl (nI 0), []) ::
  (68, .istore 6, 2, 6, 0, 0, .inl 0, []) :: s_X9_mayGo_70) ls st μ := by rw [s_X9_mayGo_64]
theorem v_X9_mayGo_64 : vc X P m_X9_mayGo h K k_X9_mayGo S (n + 1) 64 ls st μ = if 64 ∈ S then mAt X m_X9_mayGo h K 64 ls st μ else bb X P m_X9_mayGo h K (vc X P m_X9_mayGo h K k_X9_mayGo S n) s_X9_mayGo_64 ls st μ := by rw [vc_s, t_X9_mayGo_64]
theorem w_X9_mayGo_70 : bb X P m_X9_mayGo h K J s_X9_mayGo_70 ls st μ = bb X P m_X9_mayGo h K J ((70, .iload 6, 2, 6, 0, 0, .inl 0, []) ::
  (72, .aload_n 0, 1, 0, 0, 0, .inl 0, []) ::
  (73, .getfield 39, 3, 8, 22, 3, .inr (.inr (16, 278, 10)), [1218]) ::
  (76, .iconst 0, 1, 0, 0, 0, .inl (nI 0), []) ::
  (77, .iaload, 1, 0, 0, 0, .inl 0, []) ::
  (78, .if_icmp .ge 58, 3, 136, 0, 0, .inl 0, []) ::
  (81, .iload_n 3, 1, 3, 0, 0, .inl 0, []) ::
  (82, .iload 6, 2, 6, 0, 0, .inl 0, []) ::
  (84, .invokestatic 182, 3, 148, 2, 1, .inl 0, [1437]) ::
  (87, .istore 7, 2, 7, 0, 0, .inl 0, []) ::
  (89, .aload_n 1, 1, 1, 0, 0, .inl 0, []) ::
  (90, .iload_n 2, 1, 2, 0, 0, .inl 0, []) ::
  (91, .iconst 2, 1, 0, 0, 0, .inl (nI 2), []) ::
  (92, .iadd, 1, 0, 0, 0, .inl 0, []) ::
  (93, .iload 7, 2, 7, 0, 0, .inl 0, []) ::
  (95, .iadd, 1, 0, 0, 0, .inl 0, []) ::
  (96, .iaload, 1, 0, 0, 0, .inl 0, []) ::
  (97, .aload_n 0, 1, 0, 0, 0, .inl 0, []) ::
  (98, .getfield 39, 3, 8, 22, 3, .inr (.inr (16, 278, 10)), [1218]) ::
  (101, .bipush 38, 2, 0, 0, 0, .inl (nI 38), []) ::
  (103, .iload 7, 2, 7, 0, 0, .inl 0, []) ::
  (105, .iadd, 1, 0, 0, 0, .inl 0, []) ::
  (106, .iaload, 1, 0, 0, 0, .inl 0, []) ::
  (107, .if_icmp .lt 6, 3, 113, 0, 0, .inl 0, []) ::
  (110, .goto 20, 3, 130, 0, 0, .inl 0, []) :: s_X9_mayGo_113) ls st μ := by rw [s_X9_mayGo_70]
theorem v_X9_mayGo_70 : vc X P m_X9_mayGo h K k_X9_mayGo S (n + 1) 70 ls st μ = if 70 ∈ S then mAt X m_X9_mayGo h K 70 ls st μ else bb X P m_X9_mayGo h K (vc X P m_X9_mayGo h K k_X9_mayGo S n) s_X9_mayGo_70 ls st μ := by rw [vc_s, t_X9_mayGo_70]
theorem w_X9_mayGo_113 : bb X P m_X9_mayGo h K J s_X9_mayGo_113 ls st μ = bb X P m_X9_mayGo h K J ((113, .aload_n 1, 1, 1, 0, 0, .inl 0, []) ::
  (114, .iload_n 2, 1, 2, 0, 0, .inl 0, []) ::
  (115, .sipush 146, 3, 0, 0, 0, .inl (nI 146), []) ::
  (118, .iadd, 1, 0, 0, 0, .inl 0, []) ::
  (119, .iload 7, 2, 7, 0, 0, .inl 0, []) ::
  (121, .iadd, 1, 0, 0, 0, .inl 0, []) ::
  (122, .dup2, 1, 0, 0, 0, .inl 0, []) ::
  (123, .iaload, 1, 0, 0, 0, .inl 0, []) ::
  (124, .iconst 1, 1, 0, 0, 0, .inl (nI 1), []) ::
  (125, .iadd, 1, 0, 0, 0, .inl 0, []) ::
  (126, .iastore, 1, 0, 0, 0, .inl 0, []) ::
  (127, .iconst 0, 1, 0, 0, 0, .inl (nI 0), []) ::
  (128, .istore 5, 2, 5, 0, 0, .inl 0, []) :: s_X9_mayGo_130) ls st μ := by rw [s_X9_mayGo_113]
theorem v_X9_mayGo_113 : vc X P m_X9_mayGo h K k_X9_mayGo S (n + 1) 113 ls st μ = if 113 ∈ S then mAt X m_X9_mayGo h K 113 ls st μ else bb X P m_X9_mayGo h K (vc X P m_X9_mayGo h K k_X9_mayGo S n) s_X9_mayGo_113 ls st μ := by rw [vc_s, t_X9_mayGo_113]
theorem w_X9_mayGo_130 : bb X P m_X9_mayGo h K J s_X9_mayGo_130 ls st μ = bb X P m_X9_mayGo h K J ((130, .iinc 6 1, 3, 6, 0, 0, .inl (nI 1), []) ::
  (133, .goto (-63), 3, 70, 0, 0, .inl 0, []) :: s_X9_mayGo_136) ls st μ := by rw [s_X9_mayGo_130]
theorem v_X9_mayGo_130 : vc X P m_X9_mayGo h K k_X9_mayGo S (n + 1) 130 ls st μ = if 130 ∈ S then mAt X m_X9_mayGo h K 130 ls st μ else bb X P m_X9_mayGo h K (vc X P m_X9_mayGo h K k_X9_mayGo S n) s_X9_mayGo_130 ls st μ := by rw [vc_s, t_X9_mayGo_130]
theorem w_X9_mayGo_136 : bb X P m_X9_mayGo h K J s_X9_mayGo_136 ls st μ = bb X P m_X9_mayGo h K J ((136, .iload 5, 2, 5, 0, 0, .inl 0, []) ::
  (138, .ireturn, 1, 1, 0, 0, .inl 0, []) :: []) ls st μ := by rw [s_X9_mayGo_136]
theorem v_X9_mayGo_136 : vc X P m_X9_mayGo h K k_X9_mayGo S (n + 1) 136 ls st μ = if 136 ∈ S then mAt X m_X9_mayGo h K 136 ls st μ else bb X P m_X9_mayGo h K (vc X P m_X9_mayGo h K k_X9_mayGo S n) s_X9_mayGo_136 ls st μ := by rw [vc_s, t_X9_mayGo_136]
end
section
variable {X : mC} {P : mP} {h : Nat} {K : MV → Mem → Prop} {J : mJ} {ls : List (Nat × MV)} {st : List MV} {μ : Mem} {S : List Nat} {n : Nat}
theorem w_X9_needed_0 : bb X P m_X9_needed h K J s_X9_needed_0 ls st μ = bb X P m_X9_needed h K J ((0, .aload_n 0, 1, 0, 0, 0, .inl 0, []) ::
  (1, .iconst 0, 1, 0, 0, 0, .inl (nI 0), []) ::
  (2, .putfield 76, 3, 8, 0, 0, .inl 0, [1196]) ::
  (5, .aload_n 0, 1, 0, 0, 0, .inl 0, []) ::
  (6, .iload_n 1, 1, 1, 0, 0, .inl 0, []) ::
  (7, .invokevirtual 225, 3, 190, 2, 1, .inl 0, [1468, 8]) ::
  (10, .ifCond .eq 38, 3, 48, 0, 0, .inl 0, []) ::
  (13, .iload_n 2, 1, 2, 0, 0, .inl 0, []) ::
  (14, .invokestatic 303, 3, 176, 1, 1, .inl 0, [1614]) ::
  (17, .ifCond .eq 31, 3, 48, 0, 0, .inl 0, []) ::
  (20, .aload_n 0, 1, 0, 0, 0, .inl 0, []) ::
  (21, .aload_n 0, 1, 0, 0, 0, .inl 0, []) ::
  (22, .invokevirtual 309, 3, 137, 1, 1, .inl 0, [1629, 8]) ::
  (25, .iload_n 2, 1, 2, 0, 0, .inl 0, []) ::
  (26, .invokevirtual 306, 3, 204, 3, 1, .inl 0, [1617, 8]) ::
  (29, .aload_n 0, 1, 0, 0, 0, .inl 0, []) ::
  (30, .aload_n 0, 1, 0, 0, 0, .inl 0, []) ::
  (31, .invokevirtual 309, 3, 137, 1, 1, .inl 0, [1629, 8]) ::
  (34, .iconst 1, 1, 0, 0, 0, .inl (nI 1), []) ::
  (35, .iload_n 1, 1, 1, 0, 0, .inl 0, []) ::
  (36, .ishl, 1, 0, 0, 0, .inl 0, []) ::
  (37, .iconst (-1), 1, 0, 0, 0, .inl (-1), []) ::
  (38, .ixor, 1, 0, 0, 0, .inl 0, []) ::
  (39, .iand, 1, 0, 0, 0, .inl 0, []) ::
  (40, .iload_n 2, 1, 2, 0, 0, .inl 0, []) ::
  (41, .invokevirtual 306, 3, 204, 3, 1, .inl 0, [1617, 8]) ::
  (44, .isub, 1, 0, 0, 0, .inl 0, []) ::
  (45, .goto 4, 3, 49, 0, 0, .inl 0, []) :: s_X9_needed_48) ls st μ := by rw [s_X9_needed_0]
theorem v_X9_needed_0 : vc X P m_X9_needed h K k_X9_needed S (n + 1) 0 ls st μ = if 0 ∈ S then mAt X m_X9_needed h K 0 ls st μ else bb X P m_X9_needed h K (vc X P m_X9_needed h K k_X9_needed S n) s_X9_needed_0 ls st μ := by rw [vc_s, t_X9_needed_0]
theorem w_X9_needed_48 : bb X P m_X9_needed h K J s_X9_needed_48 ls st μ = bb X P m_X9_needed h K J ((48, .iconst (-1), 1, 0, 0, 0, .inl (-1), []) :: s_X9_needed_49) ls st μ := by rw [s_X9_needed_48]
theorem v_X9_needed_48 : vc X P m_X9_needed h K k_X9_needed S (n + 1) 48 ls st μ = if 48 ∈ S then mAt X m_X9_needed h K 48 ls st μ else bb X P m_X9_needed h K (vc X P m_X9_needed h K k_X9_needed S n) s_X9_needed_48 ls st μ := by rw [vc_s, t_X9_needed_48]
theorem w_X9_needed_49 : bb X P m_X9_needed h K J s_X9_needed_49 ls st μ = bb X P m_X9_needed h K J ((49, .ireturn, 1, 0, 0, 0, .inl 0, []) :: []) ls st μ := by rw [s_X9_needed_49]
theorem v_X9_needed_49 : vc X P m_X9_needed h K k_X9_needed S (n + 1) 49 ls st μ = if 49 ∈ S then mAt X m_X9_needed h K 49 ls st μ else bb X P m_X9_needed h K (vc X P m_X9_needed h K k_X9_needed S n) s_X9_needed_49 ls st μ := by rw [vc_s, t_X9_needed_49]
end
section
variable {X : mC} {P : mP} {h : Nat} {K : MV → Mem → Prop} {J : mJ} {ls : List (Nat × MV)} {st : List MV} {μ : Mem} {S : List Nat} {n : Nat}
theorem w_X9_on_0 : bb X P m_X9_on h K J s_X9_on_0 ls st μ = bb X P m_X9_on h K J ((0, .aload_n 0, 1, 0, 0, 0, .inl 0, []) ::
  (1, .iconst 0, 1, 0, 0, 0, .inl (nI 0), []) ::
  (2, .putfield 76, 3, 8, 0, 0, .inl 0, [1196]) ::
  (5, .aload_n 0, 1, 0, 0, 0, .inl 0, []) ::
  (6, .invokevirtual 288, 3, 180, 1, 1, .inl 0, [1516, 8]) ::
  (9, .ifCond .eq 14, 3, 23, 0, 0, .inl 0, []) ::
  (12, .iload_n 1, 1, 1, 0, 0, .inl 0, []) ::
  (13, .iconst 0, 1, 0, 0, 0, .inl (nI 0), []) ::
  (14, .sipush 200, 3, 0, 0, 0, .inl (nI 200), []) ::
  (17, .invokestatic 143, 3, 177, 3, 1, .inl 0, [1414]) ::
  (20, .ifCond .ne 5, 3, 25, 0, 0, .inl 0, []) :: s_X9_on_23) ls st μ := by rw [s_X9_on_0]
theorem v_X9_on_0 : vc X P m_X9_on h K k_X9_on S (n + 1) 0 ls st μ = if 0 ∈ S then mAt X m_X9_on h K 0 ls st μ else bb X P m_X9_on h K (vc X P m_X9_on h K k_X9_on S n) s_X9_on_0 ls st μ := by rw [vc_s, t_X9_on_0]
theorem w_X9_on_23 : bb X P m_X9_on h K J s_X9_on_23 ls st μ = bb X P m_X9_on h K J ((23, .iconst (-1), 1, 0, 0, 0, .inl (-1), []) ::
  (24, .ireturn, 1, 0, 0, 0, .inl 0, []) :: s_X9_on_25) ls st μ := by rw [s_X9_on_23]
theorem v_X9_on_23 : vc X P m_X9_on h K k_X9_on S (n + 1) 23 ls st μ = if 23 ∈ S then mAt X m_X9_on h K 23 ls st μ else bb X P m_X9_on h K (vc X P m_X9_on h K k_X9_on S n) s_X9_on_23 ls st μ := by rw [vc_s, t_X9_on_23]
theorem w_X9_on_25 : bb X P m_X9_on h K J s_X9_on_25 ls st μ = bb X P m_X9_on h K J ((25, .aload_n 0, 1, 0, 0, 0, .inl 0, []) ::
  (26, .invokevirtual 285, 3, 196, 1, 0, .inl 0, [1504, 8]) ::
  (29, .aload_n 0, 1, 0, 0, 0, .inl 0, []) ::
  (30, .iconst 1, 1, 0, 0, 0, .inl (nI 1), []) ::
  (31, .putfield 243, 3, 8, 29, 2, .inl 0, [1225]) ::
  (34, .iconst 0, 1, 0, 0, 0, .inl (nI 0), []) ::
  (35, .istore_n 2, 1, 2, 0, 0, .inl 0, []) :: s_X9_on_36) ls st μ := by rw [s_X9_on_25]
theorem v_X9_on_25 : vc X P m_X9_on h K k_X9_on S (n + 1) 25 ls st μ = if 25 ∈ S then mAt X m_X9_on h K 25 ls st μ else bb X P m_X9_on h K (vc X P m_X9_on h K k_X9_on S n) s_X9_on_25 ls st μ := by rw [vc_s, t_X9_on_25]
theorem w_X9_on_36 : bb X P m_X9_on h K J s_X9_on_36 ls st μ = bb X P m_X9_on h K J ((36, .iload_n 2, 1, 2, 0, 0, .inl 0, []) ::
  (37, .iload_n 1, 1, 1, 0, 0, .inl 0, []) ::
  (38, .if_icmp .ge 34, 3, 72, 0, 0, .inl 0, []) ::
  (41, .aload_n 0, 1, 0, 0, 0, .inl 0, []) ::
  (42, .getfield 13, 3, 8, 14, 3, .inr (.inr (16, 925, 2)), [1210]) ::
  (45, .sipush 622, 3, 0, 0, 0, .inl (nI 622), []) ::
  (48, .iaload, 1, 0, 0, 0, .inl 0, []) ::
  (49, .sipush 200, 3, 0, 0, 0, .inl (nI 200), []) ::
  (52, .if_icmp .ge 20, 3, 72, 0, 0, .inl 0, []) ::
  (55, .aload_n 0, 1, 0, 0, 0, .inl 0, []) ::
  (56, .aload_n 0, 1, 0, 0, 0, .inl 0, []) ::
  (57, .getfield 13, 3, 8, 14, 3, .inr (.inr (16, 925, 2)), [1210]) ::
  (60, .sipush 621, 3, 0, 0, 0, .inl (nI 621), []) ::
  (63, .invokevirtual 278, 3, 171, 3, 0, .inl 0, [1520, 8]) ::
  (66, .iinc 2 1, 3, 2, 0, 0, .inl (nI 1), []) ::
  (69, .goto (-33), 3, 36, 0, 0, .inl 0, []) :: s_X9_on_72) ls st μ := by rw [s_X9_on_36]
theorem v_X9_on_36 : vc X P m_X9_on h K k_X9_on S (n + 1) 36 ls st μ = if 36 ∈ S then mAt X m_X9_on h K 36 ls st μ else bb X P m_X9_on h K (vc X P m_X9_on h K k_X9_on S n) s_X9_on_36 ls st μ := by rw [vc_s, t_X9_on_36]
theorem w_X9_on_72 : bb X P m_X9_on h K J s_X9_on_72 ls st μ = bb X P m_X9_on h K J ((72, .iload_n 2, 1, 2, 0, 0, .inl 0, []) ::
  (73, .ireturn, 1, 0, 0, 0, .inl 0, []) :: []) ls st μ := by rw [s_X9_on_72]
theorem v_X9_on_72 : vc X P m_X9_on h K k_X9_on S (n + 1) 72 ls st μ = if 72 ∈ S then mAt X m_X9_on h K 72 ls st μ else bb X P m_X9_on h K (vc X P m_X9_on h K k_X9_on S n) s_X9_on_72 ls st μ := by rw [vc_s, t_X9_on_72]
end
section
variable {X : mC} {P : mP} {h : Nat} {K : MV → Mem → Prop} {J : mJ} {ls : List (Nat × MV)} {st : List MV} {μ : Mem} {S : List Nat} {n : Nat}
theorem w_X9_order_0 : bb X P m_X9_order h K J s_X9_order_0 ls st μ = bb X P m_X9_order h K J ((0, .aload_n 0, 1, 0, 0, 0, .inl 0, []) ::
  (1, .iconst 0, 1, 0, 0, 0, .inl (nI 0), []) ::
  (2, .putfield 76, 3, 8, 0, 0, .inl 0, [1196]) ::
  (5, .aload_n 0, 1, 0, 0, 0, .inl 0, []) ::
  (6, .invokevirtual 285, 3, 196, 1, 0, .inl 0, [1504, 8]) ::
  (9, .aload_n 0, 1, 0, 0, 0, .inl 0, []) ::
  (10, .aload_n 0, 1, 0, 0, 0, .inl 0, []) ::
  (11, .getfield 42, 3, 8, 23, 3, .inr (.inr (16, 296, 11)), [1219]) ::
  (14, .iconst 0, 1, 0, 0, 0, .inl (nI 0), []) ::
  (15, .invokevirtual 274, 3, 242, 3, 0, .inl 0, [1508, 8]) ::
  (18, .iconst 0, 1, 0, 0, 0, .inl (nI 0), []) ::
  (19, .istore_n 2, 1, 2, 0, 0, .inl 0, []) ::
  (20, .iconst 0, 1, 0, 0, 0, .inl (nI 0), []) ::
  (21, .istore_n 3, 1, 3, 0, 0, .inl 0, []) ::
  (22, .iconst 0, 1, 0, 0, 0, .inl (nI 0), []) ::
  (23, .istore 4, 2, 4, 0, 0, .inl 0, []) :: s_X9_order_25) ls st μ := by rw [s_X9_order_0]
theorem v_X9_order_0 : vc X P m_X9_order h K k_X9_order S (n + 1) 0 ls st μ = if 0 ∈ S then mAt X m_X9_order h K 0 ls st μ else bb X P m_X9_order h K (vc X P m_X9_order h K k_X9_order S n) s_X9_order_0 ls st μ := by rw [vc_s, t_X9_order_0]
theorem w_X9_order_25 : bb X P m_X9_order h K J s_X9_order_25 ls st μ = bb X P m_X9_order h K J ((25, .iload 4, 2, 4, 0, 0, .inl 0, []) ::
  (27, .sipush 200, 3, 0, 0, 0, .inl (nI 200), []) ::
  (30, .if_icmp .ge 80, 3, 110, 0, 0, .inl 0, []) ::
  (33, .aload_n 0, 1, 0, 0, 0, .inl 0, []) ::
  (34, .aload_n 0, 1, 0, 0, 0, .inl 0, []) ::
  (35, .getfield 42, 3, 8, 23, 3, .inr (.inr (16, 296, 11)), [1219]) ::
  (38, .iconst 0, 1, 0, 0, 0, .inl (nI 0), []) ::
  (39, .invokevirtual 278, 3, 171, 3, 0, .inl 0, [1520, 8]) ::
  (42, .iconst 0, 1, 0, 0, 0, .inl (nI 0), []) ::
  (43, .istore 5, 2, 5, 0, 0, .inl 0, []) :: s_X9_order_45) ls st μ := by rw [s_X9_order_25]
theorem v_X9_order_25 : vc X P m_X9_order h K k_X9_order S (n + 1) 25 ls st μ = if 25 ∈ S then mAt X m_X9_order h K 25 ls st μ else bb X P m_X9_order h K (vc X P m_X9_order h K k_X9_order S n) s_X9_order_25 ls st μ := by rw [vc_s, t_X9_order_25]
theorem w_X9_order_45 : bb X P m_X9_order h K J s_X9_order_45 ls st μ = bb X P m_X9_order h K J ((45, .iload 5, 2, 5, 0, 0, .inl 0, []) ::
  (47, .aload_n 0, 1, 0, 0, 0, .inl 0, []) ::
  (48, .invokevirtual 219, 3, 253, 1, 1, .inl 0, [1472, 8]) ::
  (51, .if_icmp .ge 53, 3, 104, 0, 0, .inl 0, []) ::
  (54, .iload_n 3, 1, 3, 0, 0, .inl 0, []) ::
  (55, .iload 5, 2, 5, 0, 0, .inl 0, []) ::
  (57, .invokestatic 250, 3, 169, 2, 1, .inl 0, [1543]) ::
  (60, .ifCond .ne 38, 3, 98, 0, 0, .inl 0, []) ::
  (63, .aload_n 0, 1, 0, 0, 0, .inl 0, []) ::
  (64, .getfield 42, 3, 8, 23, 3, .inr (.inr (16, 296, 11)), [1219]) ::
  (67, .sipush 212, 3, 0, 0, 0, .inl (nI 212), []) ::
  (70, .iload 5, 2, 5, 0, 0, .inl 0, []) ::
  (72, .iadd, 1, 0, 0, 0, .inl 0, []) ::
  (73, .iaload, 1, 0, 0, 0, .inl 0, []) ::
  (74, .ifCond .ne 6, 3, 80, 0, 0, .inl 0, []) ::
  (77, .goto 21, 3, 98, 0, 0, .inl 0, []) :: s_X9_order_80) ls st μ := by rw [s_X9_order_45]
theorem v_X9_order_45 : vc X P m_X9_order h K k_X9_order S (n + 1) 45 ls st μ = if 45 ∈ S then mAt X m_X9_order h K 45 ls st μ else bb X P m_X9_order h K (vc X P m_X9_order h K k_X9_order S n) s_X9_order_45 ls st μ := by rw [vc_s, t_X9_order_45]
theorem w_X9_order_80 : bb X P m_X9_order h K J s_X9_order_80 ls st μ = bb X P m_X9_order h K J ((80, .iload_n 3, 1, 3, 0, 0, .inl 0, []) ::
  (81, .iconst 1, 1, 0, 0, 0, .inl (nI 1), []) ::
  (82, .iload 5, 2, 5, 0, 0, .inl 0, []) ::
  (84, .ishl, 1, 0, 0, 0, .inl 0, []) ::
  (85, .ior, 1, 0, 0, 0, .inl 0, []) ::
  (86, .istore_n 3, 1, 3, 0, 0, .inl 0, []) ::
  (87, .iload_n 2, 1, 2, 0, 0, .inl 0, []) ::
  (88, .iload_n 1, 1, 1, 0, 0, .inl 0, []) ::
  (89, .if_icmp .ne 6, 3, 95, 0, 0, .inl 0, []) ::
  (92, .iload 5, 2, 5, 0, 0, .inl 0, []) ::
  (94, .ireturn, 1, 0, 0, 0, .inl 0, []) :: s_X9_order_95) ls st μ := by rw [s_X9_order_80]
theorem v_X9_order_80 : vc X P m_X9_order h K k_X9_order S (n + 1) 80 ls st μ = if 80 ∈ S then mAt X m_X9_order h K 80 ls st μ else bb X P m_X9_order h K (vc X P m_X9_order h K k_X9_order S n) s_X9_order_80 ls st μ := by rw [vc_s, t_X9_order_80]
theorem w_X9_order_95 : bb X P m_X9_order h K J s_X9_order_95 ls st μ = bb X P m_X9_order h K J ((95, .iinc 2 1, 3, 2, 0, 0, .inl (nI 1), []) :: s_X9_order_98) ls st μ := by rw [s_X9_order_95]
theorem v_X9_order_95 : vc X P m_X9_order h K k_X9_order S (n + 1) 95 ls st μ = if 95 ∈ S then mAt X m_X9_order h K 95 ls st μ else bb X P m_X9_order h K (vc X P m_X9_order h K k_X9_order S n) s_X9_order_95 ls st μ := by rw [vc_s, t_X9_order_95]
theorem w_X9_order_98 : bb X P m_X9_order h K J s_X9_order_98 ls st μ = bb X P m_X9_order h K J ((98, .iinc 5 1, 3, 5, 0, 0, .inl (nI 1), []) ::
  (101, .goto (-56), 3, 45, 0, 0, .inl 0, []) :: s_X9_order_104) ls st μ := by rw [s_X9_order_98]
theorem v_X9_order_98 : vc X P m_X9_order h K k_X9_order S (n + 1) 98 ls st μ = if 98 ∈ S then mAt X m_X9_order h K 98 ls st μ else bb X P m_X9_order h K (vc X P m_X9_order h K k_X9_order S n) s_X9_order_98 ls st μ := by rw [vc_s, t_X9_order_98]
theorem w_X9_order_104 : bb X P m_X9_order h K J s_X9_order_104 ls st μ = bb X P m_X9_order h K J ((104, .iinc 4 1, 3, 4, 0, 0, .inl (nI 1), []) ::
  (107, .goto (-82), 3, 25, 0, 0, .inl 0, []) :: s_X9_order_110) ls st μ := by rw [s_X9_order_104]
theorem v_X9_order_104 : vc X P m_X9_order h K k_X9_order S (n + 1) 104 ls st μ = if 104 ∈ S then mAt X m_X9_order h K 104 ls st μ else bb X P m_X9_order h K (vc X P m_X9_order h K k_X9_order S n) s_X9_order_104 ls st μ := by rw [vc_s, t_X9_order_104]
theorem w_X9_order_110 : bb X P m_X9_order h K J s_X9_order_110 ls st μ = bb X P m_X9_order h K J ((110, .iconst (-1), 1, 0, 0, 0, .inl (-1), []) ::
  (111, .ireturn, 1, 0, 0, 0, .inl 0, []) :: []) ls st μ := by rw [s_X9_order_110]
theorem v_X9_order_110 : vc X P m_X9_order h K k_X9_order S (n + 1) 110 ls st μ = if 110 ∈ S then mAt X m_X9_order h K 110 ls st μ else bb X P m_X9_order h K (vc X P m_X9_order h K k_X9_order S n) s_X9_order_110 ls st μ := by rw [vc_s, t_X9_order_110]
end
section
variable {X : mC} {P : mP} {h : Nat} {K : MV → Mem → Prop} {J : mJ} {ls : List (Nat × MV)} {st : List MV} {μ : Mem} {S : List Nat} {n : Nat}
theorem w_X9_orders_0 : bb X P m_X9_orders h K J s_X9_orders_0 ls st μ = bb X P m_X9_orders h K J ((0, .lconst 1, 1, 0, 0, 0, .inr (.inl 1), []) ::
  (1, .lstore_n 1, 1, 1, 0, 0, .inl 0, []) ::
  (2, .iconst 2, 1, 0, 0, 0, .inl (nI 2), []) ::
  (3, .istore_n 3, 1, 3, 0, 0, .inl 0, []) :: s_X9_orders_4) ls st μ := by rw [s_X9_orders_0]
theorem v_X9_orders_0 : vc X P m_X9_orders h K k_X9_orders S (n + 1) 0 ls st μ = if 0 ∈ S then mAt X m_X9_orders h K 0 ls st μ else bb X P m_X9_orders h K (vc X P m_X9_orders h K k_X9_orders S n) s_X9_orders_0 ls st μ := by rw [vc_s, t_X9_orders_0]
theorem w_X9_orders_4 : bb X P m_X9_orders h K J s_X9_orders_4 ls st μ = bb X P m_X9_orders h K J ((4, .iload_n 3, 1, 3, 0, 0, .inl 0, []) ::
  (5, .iload_n 0, 1, 0, 0, 0, .inl 0, []) ::
  (6, .if_icmp .gt 14, 3, 20, 0, 0, .inl 0, []) ::
  (9, .lload_n 1, 1, 1, 0, 0, .inl 0, []) ::
  (10, .iload_n 3, 1, 3, 0, 0, .inl 0, []) ::
  (11, .i2l, 1, 0, 0, 0, .inl 0, []) ::
  (12, .lmul, 1, 0, 0, 0, .inl 0, []) ::
  (13, .lstore_n 1, 1, 1, 0, 0, .inl 0, []) ::
  (14, .iinc 3 1, 3, 3, 0, 0, .inl (nI 1), []) ::
  (17, .goto (-13), 3, 4, 0, 0, .inl 0, []) :: s_X9_orders_20) ls st μ := by rw [s_X9_orders_4]
theorem v_X9_orders_4 : vc X P m_X9_orders h K k_X9_orders S (n + 1) 4 ls st μ = if 4 ∈ S then mAt X m_X9_orders h K 4 ls st μ else bb X P m_X9_orders h K (vc X P m_X9_orders h K k_X9_orders S n) s_X9_orders_4 ls st μ := by rw [vc_s, t_X9_orders_4]
theorem w_X9_orders_20 : bb X P m_X9_orders h K J s_X9_orders_20 ls st μ = bb X P m_X9_orders h K J ((20, .lload_n 1, 1, 1, 0, 0, .inl 0, []) ::
  (21, .lreturn, 1, 0, 0, 0, .inl 0, []) :: []) ls st μ := by rw [s_X9_orders_20]
theorem v_X9_orders_20 : vc X P m_X9_orders h K k_X9_orders S (n + 1) 20 ls st μ = if 20 ∈ S then mAt X m_X9_orders h K 20 ls st μ else bb X P m_X9_orders h K (vc X P m_X9_orders h K k_X9_orders S n) s_X9_orders_20 ls st μ := by rw [vc_s, t_X9_orders_20]
end
section
variable {X : mC} {P : mP} {h : Nat} {K : MV → Mem → Prop} {J : mJ} {ls : List (Nat × MV)} {st : List MV} {μ : Mem} {S : List Nat} {n : Nat}
theorem w_X9_parts_0 : bb X P m_X9_parts h K J s_X9_parts_0 ls st μ = bb X P m_X9_parts h K J ((0, .aload_n 0, 1, 0, 0, 0, .inl 0, []) ::
  (1, .iconst 0, 1, 0, 0, 0, .inl (nI 0), []) ::
  (2, .putfield 76, 3, 8, 0, 0, .inl 0, [1196]) ::
  (5, .aload_n 0, 1, 0, 0, 0, .inl 0, []) ::
  (6, .invokevirtual 288, 3, 180, 1, 1, .inl 0, [1516, 8]) ::
  (9, .ifCond .eq 21, 3, 30, 0, 0, .inl 0, []) ::
  (12, .aload_n 0, 1, 0, 0, 0, .inl 0, []) ::
  (13, .iload_n 1, 1, 1, 0, 0, .inl 0, []) ::
  (14, .invokevirtual 234, 3, 175, 2, 1, .inl 0, [1492, 8]) ::
  (17, .ifCond .eq 13, 3, 30, 0, 0, .inl 0, []) ::
  (20, .iload_n 2, 1, 2, 0, 0, .inl 0, []) ::
  (21, .iconst 0, 1, 0, 0, 0, .inl (nI 0), []) ::
  (22, .bipush 7, 2, 0, 0, 0, .inl (nI 7), []) ::
  (24, .invokestatic 143, 3, 177, 3, 1, .inl 0, [1414]) ::
  (27, .ifCond .ne 5, 3, 32, 0, 0, .inl 0, []) :: s_X9_parts_30) ls st μ := by rw [s_X9_parts_0]
theorem v_X9_parts_0 : vc X P m_X9_parts h K k_X9_parts S (n + 1) 0 ls st μ = if 0 ∈ S then mAt X m_X9_parts h K 0 ls st μ else bb X P m_X9_parts h K (vc X P m_X9_parts h K k_X9_parts S n) s_X9_parts_0 ls st μ := by rw [vc_s, t_X9_parts_0]
theorem w_X9_parts_30 : bb X P m_X9_parts h K J s_X9_parts_30 ls st μ = bb X P m_X9_parts h K J ((30, .iconst (-1), 1, 0, 0, 0, .inl (-1), []) ::
  (31, .ireturn, 1, 0, 0, 0, .inl 0, []) :: s_X9_parts_32) ls st μ := by rw [s_X9_parts_30]
theorem v_X9_parts_30 : vc X P m_X9_parts h K k_X9_parts S (n + 1) 30 ls st μ = if 30 ∈ S then mAt X m_X9_parts h K 30 ls st μ else bb X P m_X9_parts h K (vc X P m_X9_parts h K k_X9_parts S n) s_X9_parts_30 ls st μ := by rw [vc_s, t_X9_parts_30]
theorem w_X9_parts_32 : bb X P m_X9_parts h K J s_X9_parts_32 ls st μ = bb X P m_X9_parts h K J ((32, .iload_n 2, 1, 2, 0, 0, .inl 0, []) ::
  (33, .bipush 6, 2, 0, 0, 0, .inl (nI 6), []) ::
  (35, .if_icmp .ge 19, 3, 54, 0, 0, .inl 0, []) ::
  (38, .aload_n 0, 1, 0, 0, 0, .inl 0, []) ::
  (39, .getfield 13, 3, 8, 14, 3, .inr (.inr (16, 925, 2)), [1210]) ::
  (42, .sipush 881, 3, 0, 0, 0, .inl (nI 881), []) ::
  (45, .bipush 6, 2, 0, 0, 0, .inl (nI 6), []) ::
  (47, .iload_n 2, 1, 2, 0, 0, .inl 0, []) ::
  (48, .imul, 1, 0, 0, 0, .inl 0, []) ::
  (49, .iadd, 1, 0, 0, 0, .inl 0, []) ::
  (50, .iload_n 1, 1, 1, 0, 0, .inl 0, []) ::
  (51, .iadd, 1, 0, 0, 0, .inl 0, []) ::
  (52, .iaload, 1, 0, 0, 0, .inl 0, []) ::
  (53, .ireturn, 1, 0, 0, 0, .inl 0, []) :: s_X9_parts_54) ls st μ := by rw [s_X9_parts_32]
theorem v_X9_parts_32 : vc X P m_X9_parts h K k_X9_parts S (n + 1) 32 ls st μ = if 32 ∈ S then mAt X m_X9_parts h K 32 ls st μ else bb X P m_X9_parts h K (vc X P m_X9_parts h K k_X9_parts S n) s_X9_parts_32 ls st μ := by rw [vc_s, t_X9_parts_32]
theorem w_X9_parts_54 : bb X P m_X9_parts h K J s_X9_parts_54 ls st μ = bb X P m_X9_parts h K J ((54, .iload_n 2, 1, 2, 0, 0, .inl 0, []) ::
  (55, .bipush 7, 2, 0, 0, 0, .inl (nI 7), []) ::
  (57, .if_icmp .ne 14, 3, 71, 0, 0, .inl 0, []) ::
  (60, .aload_n 0, 1, 0, 0, 0, .inl 0, []) ::
  (61, .getfield 13, 3, 8, 14, 3, .inr (.inr (16, 925, 2)), [1210]) ::
  (64, .sipush 815, 3, 0, 0, 0, .inl (nI 815), []) ::
  (67, .iload_n 1, 1, 1, 0, 0, .inl 0, []) ::
  (68, .iadd, 1, 0, 0, 0, .inl 0, []) ::
  (69, .iaload, 1, 0, 0, 0, .inl 0, []) ::
  (70, .ireturn, 1, 0, 0, 0, .inl 0, []) :: s_X9_parts_71) ls st μ := by rw [s_X9_parts_54]
theorem v_X9_parts_54 : vc X P m_X9_parts h K k_X9_parts S (n + 1) 54 ls st μ = if 54 ∈ S then mAt X m_X9_parts h K 54 ls st μ else bb X P m_X9_parts h K (vc X P m_X9_parts h K k_X9_parts S n) s_X9_parts_54 ls st μ := by rw [vc_s, t_X9_parts_54]
theorem w_X9_parts_71 : bb X P m_X9_parts h K J s_X9_parts_71 ls st μ = bb X P m_X9_parts h K J ((71, .iconst 0, 1, 0, 0, 0, .inl (nI 0), []) ::
  (72, .istore_n 3, 1, 3, 0, 0, .inl 0, []) ::
  (73, .iconst 0, 1, 0, 0, 0, .inl (nI 0), []) ::
  (74, .istore 4, 2, 4, 0, 0, .inl 0, []) :: s_X9_parts_76) ls st μ := by rw [s_X9_parts_71]
theorem v_X9_parts_71 : vc X P m_X9_parts h K k_X9_parts S (n + 1) 71 ls st μ = if 71 ∈ S then mAt X m_X9_parts h K 71 ls st μ else bb X P m_X9_parts h K (vc X P m_X9_parts h K k_X9_parts S n) s_X9_parts_71 ls st μ := by rw [vc_s, t_X9_parts_71]
theorem w_X9_parts_76 : bb X P m_X9_parts h K J s_X9_parts_76 ls st μ = bb X P m_X9_parts h K J ((76, .iload 4, 2, 4, 0, 0, .inl 0, []) ::
  (78, .aload_n 0, 1, 0, 0, 0, .inl 0, []) ::
  (79, .invokevirtual 219, 3, 253, 1, 1, .inl 0, [1472, 8]) ::
  (82, .if_icmp .ge 27, 3, 109, 0, 0, .inl 0, []) ::
  (85, .iload_n 3, 1, 3, 0, 0, .inl 0, []) ::
  (86, .aload_n 0, 1, 0, 0, 0, .inl 0, []) ::
  (87, .getfield 13, 3, 8, 14, 3, .inr (.inr (16, 925, 2)), [1210]) ::
  (90, .sipush 623, 3, 0, 0, 0, .inl (nI 623), []) ::
  (93, .iload 4, 2, 4, 0, 0, .inl 0, []) ::
  (95, .iload_n 1, 1, 1, 0, 0, .inl 0, []) ::
  (96, .invokestatic 182, 3, 148, 2, 1, .inl 0, [1437]) ::
  (99, .iadd, 1, 0, 0, 0, .inl 0, []) ::
  (100, .iaload, 1, 0, 0, 0, .inl 0, []) ::
  (101, .iadd, 1, 0, 0, 0, .inl 0, []) ::
  (102, .istore_n 3, 1, 3, 0, 0, .inl 0, []) ::
  (103, .iinc 4 1, 3, 4, 0, 0, .inl (nI 1), []) ::
  (106, .goto (-30), 3, 76, 0, 0, .inl 0, []) :: s_X9_parts_109) ls st μ := by rw [s_X9_parts_76]
theorem v_X9_parts_76 : vc X P m_X9_parts h K k_X9_parts S (n + 1) 76 ls st μ = if 76 ∈ S then mAt X m_X9_parts h K 76 ls st μ else bb X P m_X9_parts h K (vc X P m_X9_parts h K k_X9_parts S n) s_X9_parts_76 ls st μ := by rw [vc_s, t_X9_parts_76]
theorem w_X9_parts_109 : bb X P m_X9_parts h K J s_X9_parts_109 ls st μ = bb X P m_X9_parts h K J ((109, .iload_n 3, 1, 3, 0, 0, .inl 0, []) ::
  (110, .ireturn, 1, 0, 0, 0, .inl 0, []) :: []) ls st μ := by rw [s_X9_parts_109]
theorem v_X9_parts_109 : vc X P m_X9_parts h K k_X9_parts S (n + 1) 109 ls st μ = if 109 ∈ S then mAt X m_X9_parts h K 109 ls st μ else bb X P m_X9_parts h K (vc X P m_X9_parts h K k_X9_parts S n) s_X9_parts_109 ls st μ := by rw [vc_s, t_X9_parts_109]
end
section
variable {X : mC} {P : mP} {h : Nat} {K : MV → Mem → Prop} {J : mJ} {ls : List (Nat × MV)} {st : List MV} {μ : Mem} {S : List Nat} {n : Nat}
theorem w_X9_plan_0 : bb X P m_X9_plan h K J s_X9_plan_0 ls st μ = bb X P m_X9_plan h K J ((0, .aload_n 0, 1, 0, 0, 0, .inl 0, []) ::
  (1, .sipush 300, 3, 0, 0, 0, .inl (nI 300), []) ::
  (4, .invokevirtual 213, 3, 141, 2, 0, .inl 0, [1353, 8]) ::
  (7, .aload_n 0, 1, 0, 0, 0, .inl 0, []) ::
  (8, .iconst 0, 1, 0, 0, 0, .inl (nI 0), []) ::
  (9, .putfield 356, 3, 8, 39, 0, .inl 0, [1235]) :: s_X9_plan_12) ls st μ := by rw [s_X9_plan_0]
theorem v_X9_plan_0 : vc X P m_X9_plan h K k_X9_plan S (n + 1) 0 ls st μ = if 0 ∈ S then mAt X m_X9_plan h K 0 ls st μ else bb X P m_X9_plan h K (vc X P m_X9_plan h K k_X9_plan S n) s_X9_plan_0 ls st μ := by rw [vc_s, t_X9_plan_0]
theorem w_X9_plan_12 : bb X P m_X9_plan h K J s_X9_plan_12 ls st μ = bb X P m_X9_plan h K J ((12, .aload_n 0, 1, 0, 0, 0, .inl 0, []) ::
  (13, .getfield 98, 3, 8, 7, 0, .inl 0, [1203]) ::
  (16, .ifCond .eq 17, 3, 33, 0, 0, .inl 0, []) ::
  (19, .aload_n 0, 1, 0, 0, 0, .inl 0, []) ::
  (20, .invokevirtual 359, 3, 216, 1, 1, .inl 0, [1747, 8]) ::
  (23, .ifCond .ne (-11), 3, 12, 0, 0, .inl 0, []) ::
  (26, .iconst (-1), 1, 0, 0, 0, .inl (-1), []) ::
  (27, .aload_n 0, 1, 0, 0, 0, .inl 0, []) ::
  (28, .getfield 137, 3, 8, 11, 0, .inl 0, [1207]) ::
  (31, .isub, 1, 0, 0, 0, .inl 0, []) ::
  (32, .ireturn, 1, 0, 0, 0, .inl 0, []) :: s_X9_plan_33) ls st μ := by rw [s_X9_plan_12]
theorem v_X9_plan_12 : vc X P m_X9_plan h K k_X9_plan S (n + 1) 12 ls st μ = if 12 ∈ S then mAt X m_X9_plan h K 12 ls st μ else bb X P m_X9_plan h K (vc X P m_X9_plan h K k_X9_plan S n) s_X9_plan_12 ls st μ := by rw [vc_s, t_X9_plan_12]
theorem w_X9_plan_33 : bb X P m_X9_plan h K J s_X9_plan_33 ls st μ = bb X P m_X9_plan h K J ((33, .iconst 0, 1, 0, 0, 0, .inl (nI 0), []) ::
  (34, .istore_n 1, 1, 1, 0, 0, .inl 0, []) :: s_X9_plan_35) ls st μ := by rw [s_X9_plan_33]
theorem v_X9_plan_33 : vc X P m_X9_plan h K k_X9_plan S (n + 1) 33 ls st μ = if 33 ∈ S then mAt X m_X9_plan h K 33 ls st μ else bb X P m_X9_plan h K (vc X P m_X9_plan h K k_X9_plan S n) s_X9_plan_33 ls st μ := by rw [vc_s, t_X9_plan_33]
theorem w_X9_plan_35 : bb X P m_X9_plan h K J s_X9_plan_35 ls st μ = bb X P m_X9_plan h K J ((35, .iload_n 1, 1, 1, 0, 0, .inl 0, []) ::
  (36, .iconst 5, 1, 0, 0, 0, .inl (nI 5), []) ::
  (37, .aload_n 0, 1, 0, 0, 0, .inl 0, []) ::
  (38, .getfield 356, 3, 8, 39, 0, .inl 0, [1235]) ::
  (41, .imul, 1, 0, 0, 0, .inl 0, []) ::
  (42, .if_icmp .ge 25, 3, 67, 0, 0, .inl 0, []) ::
  (45, .aload_n 0, 1, 0, 0, 0, .inl 0, []) ::
  (46, .getfield 13, 3, 8, 14, 3, .inr (.inr (16, 925, 2)), [1210]) ::
  (49, .sipush 279, 3, 0, 0, 0, .inl (nI 279), []) ::
  (52, .iload_n 1, 1, 1, 0, 0, .inl 0, []) ::
  (53, .iadd, 1, 0, 0, 0, .inl 0, []) ::
  (54, .aload_n 0, 1, 0, 0, 0, .inl 0, []) ::
  (55, .getfield 19, 3, 8, 16, 3, .inr (.inr (16, 100, 4)), [1212]) ::
  (58, .iload_n 1, 1, 1, 0, 0, .inl 0, []) ::
  (59, .iaload, 1, 0, 0, 0, .inl 0, []) ::
  (60, .iastore, 1, 0, 0, 0, .inl 0, []) ::
  (61, .iinc 1 1, 3, 1, 0, 0, .inl (nI 1), []) ::
  (64, .goto (-29), 3, 35, 0, 0, .inl 0, []) :: s_X9_plan_67) ls st μ := by rw [s_X9_plan_35]
theorem v_X9_plan_35 : vc X P m_X9_plan h K k_X9_plan S (n + 1) 35 ls st μ = if 35 ∈ S then mAt X m_X9_plan h K 35 ls st μ else bb X P m_X9_plan h K (vc X P m_X9_plan h K k_X9_plan S n) s_X9_plan_35 ls st μ := by rw [vc_s, t_X9_plan_35]
theorem w_X9_plan_67 : bb X P m_X9_plan h K J s_X9_plan_67 ls st μ = bb X P m_X9_plan h K J ((67, .aload_n 0, 1, 0, 0, 0, .inl 0, []) ::
  (68, .getfield 13, 3, 8, 14, 3, .inr (.inr (16, 925, 2)), [1210]) ::
  (71, .sipush 278, 3, 0, 0, 0, .inl (nI 278), []) ::
  (74, .aload_n 0, 1, 0, 0, 0, .inl 0, []) ::
  (75, .getfield 356, 3, 8, 39, 0, .inl 0, [1235]) ::
  (78, .iastore, 1, 0, 0, 0, .inl 0, []) ::
  (79, .aload_n 0, 1, 0, 0, 0, .inl 0, []) ::
  (80, .getfield 356, 3, 8, 39, 0, .inl 0, [1235]) ::
  (83, .ireturn, 1, 0, 0, 0, .inl 0, []) :: []) ls st μ := by rw [s_X9_plan_67]
theorem v_X9_plan_67 : vc X P m_X9_plan h K k_X9_plan S (n + 1) 67 ls st μ = if 67 ∈ S then mAt X m_X9_plan h K 67 ls st μ else bb X P m_X9_plan h K (vc X P m_X9_plan h K k_X9_plan S n) s_X9_plan_67 ls st μ := by rw [vc_s, t_X9_plan_67]
end
section
variable {X : mC} {P : mP} {h : Nat} {K : MV → Mem → Prop} {J : mJ} {ls : List (Nat × MV)} {st : List MV} {μ : Mem} {S : List Nat} {n : Nat}
theorem w_X9_put_0 : bb X P m_X9_put h K J s_X9_put_0 ls st μ = bb X P m_X9_put h K J ((0, .aload_n 0, 1, 0, 0, 0, .inl 0, []) ::
  (1, .getfield 67, 3, 8, 36, 3, .inr (.inr (16, 160, 18)), [1232]) ::
  (4, .aload_n 0, 1, 0, 0, 0, .inl 0, []) ::
  (5, .getfield 343, 3, 8, 38, 0, .inl 0, [1234]) ::
  (8, .iload_n 1, 1, 1, 0, 0, .inl 0, []) ::
  (9, .iastore, 1, 0, 0, 0, .inl 0, []) ::
  (10, .aload_n 0, 1, 0, 0, 0, .inl 0, []) ::
  (11, .dup, 1, 0, 0, 0, .inl 0, []) ::
  (12, .getfield 343, 3, 8, 38, 0, .inl 0, [1234]) ::
  (15, .iconst 1, 1, 0, 0, 0, .inl (nI 1), []) ::
  (16, .iadd, 1, 0, 0, 0, .inl 0, []) ::
  (17, .putfield 343, 3, 8, 38, 0, .inl 0, [1234]) ::
  (20, .return_, 1, 0, 0, 0, .inl 0, []) :: []) ls st μ := by rw [s_X9_put_0]
theorem v_X9_put_0 : vc X P m_X9_put h K k_X9_put S (n + 1) 0 ls st μ = if 0 ∈ S then mAt X m_X9_put h K 0 ls st μ else bb X P m_X9_put h K (vc X P m_X9_put h K k_X9_put S n) s_X9_put_0 ls st μ := by rw [vc_s, t_X9_put_0]
end
section
variable {X : mC} {P : mP} {h : Nat} {K : MV → Mem → Prop} {J : mJ} {ls : List (Nat × MV)} {st : List MV} {μ : Mem} {S : List Nat} {n : Nat}
theorem w_X9_putName_0 : bb X P m_X9_putName h K J s_X9_putName_0 ls st μ = bb X P m_X9_putName h K J ((0, .iconst 0, 1, 0, 0, 0, .inl (nI 0), []) ::
  (1, .istore_n 3, 1, 3, 0, 0, .inl 0, []) ::
  (2, .lload_n 1, 1, 1, 0, 0, .inl 0, []) ::
  (3, .lstore 4, 2, 4, 0, 0, .inl 0, []) :: s_X9_putName_5) ls st μ := by rw [s_X9_putName_0]
theorem v_X9_putName_0 : vc X P m_X9_putName h K k_X9_putName S (n + 1) 0 ls st μ = if 0 ∈ S then mAt X m_X9_putName h K 0 ls st μ else bb X P m_X9_putName h K (vc X P m_X9_putName h K k_X9_putName S n) s_X9_putName_0 ls st μ := by rw [vc_s, t_X9_putName_0]
theorem w_X9_putName_5 : bb X P m_X9_putName h K J s_X9_putName_5 ls st μ = bb X P m_X9_putName h K J ((5, .lload 4, 2, 4, 0, 0, .inl 0, []) ::
  (7, .lconst 0, 1, 0, 0, 0, .inr (.inl 0), []) ::
  (8, .lcmp, 1, 0, 0, 0, .inl 0, []) ::
  (9, .ifCond .le 33, 3, 42, 0, 0, .inl 0, []) ::
  (12, .aload_n 0, 1, 0, 0, 0, .inl 0, []) ::
  (13, .getfield 70, 3, 8, 37, 3, .inr (.inr (16, 6, 19)), [1233]) ::
  (16, .iload_n 3, 1, 3, 0, 0, .inl 0, []) ::
  (17, .lload 4, 2, 4, 0, 0, .inl 0, []) ::
  (19, .ldc2_w 122, 3, 0, 0, 0, .inr (.inl 27), [1375]) ::
  (22, .lrem, 1, 0, 0, 0, .inl 0, []) ::
  (23, .l2i, 1, 0, 0, 0, .inl 0, []) ::
  (24, .bipush 96, 2, 0, 0, 0, .inl (nI 96), []) ::
  (26, .iadd, 1, 0, 0, 0, .inl 0, []) ::
  (27, .iastore, 1, 0, 0, 0, .inl 0, []) ::
  (28, .iinc 3 1, 3, 3, 0, 0, .inl (nI 1), []) ::
  (31, .lload 4, 2, 4, 0, 0, .inl 0, []) ::
  (33, .ldc2_w 122, 3, 0, 0, 0, .inr (.inl 27), [1375]) ::
  (36, .ldiv, 1, 0, 0, 0, .inl 0, []) ::
  (37, .lstore 4, 2, 4, 0, 0, .inl 0, []) ::
  (39, .goto (-34), 3, 5, 0, 0, .inl 0, []) :: s_X9_putName_42) ls st μ := by rw [s_X9_putName_5]
theorem v_X9_putName_5 : vc X P m_X9_putName h K k_X9_putName S (n + 1) 5 ls st μ = if 5 ∈ S then mAt X m_X9_putName h K 5 ls st μ else bb X P m_X9_putName h K (vc X P m_X9_putName h K k_X9_putName S n) s_X9_putName_5 ls st μ := by rw [vc_s, t_X9_putName_5]
theorem w_X9_putName_42 : bb X P m_X9_putName h K J s_X9_putName_42 ls st μ = bb X P m_X9_putName h K J ((42, .iload_n 3, 1, 3, 0, 0, .inl 0, []) ::
  (43, .iconst 1, 1, 0, 0, 0, .inl (nI 1), []) ::
  (44, .isub, 1, 0, 0, 0, .inl 0, []) ::
  (45, .istore 4, 2, 4, 0, 0, .inl 0, []) :: s_X9_putName_47) ls st μ := by rw [s_X9_putName_42]
theorem v_X9_putName_42 : vc X P m_X9_putName h K k_X9_putName S (n + 1) 42 ls st μ = if 42 ∈ S then mAt X m_X9_putName h K 42 ls st μ else bb X P m_X9_putName h K (vc X P m_X9_putName h K k_X9_putName S n) s_X9_putName_42 ls st μ := by rw [vc_s, t_X9_putName_42]
theorem w_X9_putName_47 : bb X P m_X9_putName h K J s_X9_putName_47 ls st μ = bb X P m_X9_putName h K J ((47, .iload 4, 2, 4, 0, 0, .inl 0, []) ::
  (49, .ifCond .lt 20, 3, 69, 0, 0, .inl 0, []) ::
  (52, .aload_n 0, 1, 0, 0, 0, .inl 0, []) ::
  (53, .aload_n 0, 1, 0, 0, 0, .inl 0, []) ::
  (54, .getfield 70, 3, 8, 37, 3, .inr (.inr (16, 6, 19)), [1233]) ::
  (57, .iload 4, 2, 4, 0, 0, .inl 0, []) ::
  (59, .iaload, 1, 0, 0, 0, .inl 0, []) ::
  (60, .invokevirtual 346, 3, 213, 2, 0, .inl 0, [1731, 8]) ::
  (63, .iinc 4 (-1), 3, 4, 0, 0, .inl (-1), []) ::
  (66, .goto (-19), 3, 47, 0, 0, .inl 0, []) :: s_X9_putName_69) ls st μ := by rw [s_X9_putName_47]
theorem v_X9_putName_47 : vc X P m_X9_putName h K k_X9_putName S (n + 1) 47 ls st μ = if 47 ∈ S then mAt X m_X9_putName h K 47 ls st μ else bb X P m_X9_putName h K (vc X P m_X9_putName h K k_X9_putName S n) s_X9_putName_47 ls st μ := by rw [vc_s, t_X9_putName_47]
theorem w_X9_putName_69 : bb X P m_X9_putName h K J s_X9_putName_69 ls st μ = bb X P m_X9_putName h K J ((69, .return_, 1, 0, 0, 0, .inl 0, []) :: []) ls st μ := by rw [s_X9_putName_69]
theorem v_X9_putName_69 : vc X P m_X9_putName h K k_X9_putName S (n + 1) 69 ls st μ = if 69 ∈ S then mAt X m_X9_putName h K 69 ls st μ else bb X P m_X9_putName h K (vc X P m_X9_putName h K k_X9_putName S n) s_X9_putName_69 ls st μ := by rw [vc_s, t_X9_putName_69]
end
section
variable {X : mC} {P : mP} {h : Nat} {K : MV → Mem → Prop} {J : mJ} {ls : List (Nat × MV)} {st : List MV} {μ : Mem} {S : List Nat} {n : Nat}
theorem w_X9_putNumber_0 : bb X P m_X9_putNumber h K J s_X9_putNumber_0 ls st μ = bb X P m_X9_putNumber h K J ((0, .sipush 10000, 3, 0, 0, 0, .inl (nI 10000), []) ::
  (3, .istore_n 2, 1, 2, 0, 0, .inl 0, []) :: s_X9_putNumber_4) ls st μ := by rw [s_X9_putNumber_0]
theorem v_X9_putNumber_0 : vc X P m_X9_putNumber h K k_X9_putNumber S (n + 1) 0 ls st μ = if 0 ∈ S then mAt X m_X9_putNumber h K 0 ls st μ else bb X P m_X9_putNumber h K (vc X P m_X9_putNumber h K k_X9_putNumber S n) s_X9_putNumber_0 ls st μ := by rw [vc_s, t_X9_putNumber_0]
theorem w_X9_putNumber_4 : bb X P m_X9_putNumber h K J s_X9_putNumber_4 ls st μ = bb X P m_X9_putNumber h K J ((4, .iload_n 2, 1, 2, 0, 0, .inl 0, []) ::
  (5, .iconst 1, 1, 0, 0, 0, .inl (nI 1), []) ::
  (6, .if_icmp .le 29, 3, 35, 0, 0, .inl 0, []) ::
  (9, .iload_n 1, 1, 1, 0, 0, .inl 0, []) ::
  (10, .iload_n 2, 1, 2, 0, 0, .inl 0, []) ::
  (11, .if_icmp .lt 16, 3, 27, 0, 0, .inl 0, []) ::
  (14, .aload_n 0, 1, 0, 0, 0, .inl 0, []) ::
  (15, .bipush 48, 2, 0, 0, 0, .inl (nI 48), []) ::
  (17, .iload_n 1, 1, 1, 0, 0, .inl 0, []) ::
  (18, .iload_n 2, 1, 2, 0, 0, .inl 0, []) ::
  (19, .idiv, 1, 0, 0, 0, .inl 0, []) ::
  (20, .bipush 10, 2, 0, 0, 0, .inl (nI 10), []) ::
  (22, .irem, 1, 0, 0, 0, .inl 0, []) ::
  (23, .iadd, 1, 0, 0, 0, .inl 0, []) ::
  (24, .invokevirtual 346, 3, 213, 2, 0, .inl 0, [1731, 8]) :: s_X9_putNumber_27) ls st μ := by rw [s_X9_putNumber_4]
theorem v_X9_putNumber_4 : vc X P m_X9_putNumber h K k_X9_putNumber S (n + 1) 4 ls st μ = if 4 ∈ S then mAt X m_X9_putNumber h K 4 ls st μ else bb X P m_X9_putNumber h K (vc X P m_X9_putNumber h K k_X9_putNumber S n) s_X9_putNumber_4 ls st μ := by rw [vc_s, t_X9_putNumber_4]
theorem w_X9_putNumber_27 : bb X P m_X9_putNumber h K J s_X9_putNumber_27 ls st μ = bb X P m_X9_putNumber h K J ((27, .iload_n 2, 1, 2, 0, 0, .inl 0, []) ::
  (28, .bipush 10, 2, 0, 0, 0, .inl (nI 10), []) ::
  (30, .idiv, 1, 0, 0, 0, .inl 0, []) ::
  (31, .istore_n 2, 1, 2, 0, 0, .inl 0, []) ::
  (32, .goto (-28), 3, 4, 0, 0, .inl 0, []) :: s_X9_putNumber_35) ls st μ := by rw [s_X9_putNumber_27]
theorem v_X9_putNumber_27 : vc X P m_X9_putNumber h K k_X9_putNumber S (n + 1) 27 ls st μ = if 27 ∈ S then mAt X m_X9_putNumber h K 27 ls st μ else bb X P m_X9_putNumber h K (vc X P m_X9_putNumber h K k_X9_putNumber S n) s_X9_putNumber_27 ls st μ := by rw [vc_s, t_X9_putNumber_27]
theorem w_X9_putNumber_35 : bb X P m_X9_putNumber h K J s_X9_putNumber_35 ls st μ = bb X P m_X9_putNumber h K J ((35, .aload_n 0, 1, 0, 0, 0, .inl 0, []) ::
  (36, .bipush 48, 2, 0, 0, 0, .inl (nI 48), []) ::
  (38, .iload_n 1, 1, 1, 0, 0, .inl 0, []) ::
  (39, .bipush 10, 2, 0, 0, 0, .inl (nI 10), []) ::
  (41, .irem, 1, 0, 0, 0, .inl 0, []) ::
  (42, .iadd, 1, 0, 0, 0, .inl 0, []) ::
  (43, .invokevirtual 346, 3, 213, 2, 0, .inl 0, [1731, 8]) ::
  (46, .return_, 1, 0, 0, 0, .inl 0, []) :: []) ls st μ := by rw [s_X9_putNumber_35]
theorem v_X9_putNumber_35 : vc X P m_X9_putNumber h K k_X9_putNumber S (n + 1) 35 ls st μ = if 35 ∈ S then mAt X m_X9_putNumber h K 35 ls st μ else bb X P m_X9_putNumber h K (vc X P m_X9_putNumber h K k_X9_putNumber S n) s_X9_putNumber_35 ls st μ := by rw [vc_s, t_X9_putNumber_35]
end
section
variable {X : mC} {P : mP} {h : Nat} {K : MV → Mem → Prop} {J : mJ} {ls : List (Nat × MV)} {st : List MV} {μ : Mem} {S : List Nat} {n : Nat}
theorem w_X9_readAct_0 : bb X P m_X9_readAct h K J s_X9_readAct_0 ls st μ = bb X P m_X9_readAct h K J ((0, .aload_n 0, 1, 0, 0, 0, .inl 0, []) ::
  (1, .bipush 7, 2, 0, 0, 0, .inl (nI 7), []) ::
  (3, .invokevirtual 189, 3, 189, 2, 1, .inl 0, [1381, 8]) ::
  (6, .istore_n 1, 1, 1, 0, 0, .inl 0, []) ::
  (7, .iload_n 1, 1, 1, 0, 0, .inl 0, []) ::
  (8, .ifCond .ne 18, 3, 26, 0, 0, .inl 0, []) ::
  (11, .aload_n 0, 1, 0, 0, 0, .inl 0, []) ::
  (12, .bipush 8, 2, 0, 0, 0, .inl (nI 8), []) ::
  (14, .invokevirtual 189, 3, 189, 2, 1, .inl 0, [1381, 8]) ::
  (17, .ifCond .ne 9, 3, 26, 0, 0, .inl 0, []) ::
  (20, .aload_n 0, 1, 0, 0, 0, .inl 0, []) ::
  (21, .iconst 1, 1, 0, 0, 0, .inl (nI 1), []) ::
  (22, .invokevirtual 140, 3, 140, 2, 1, .inl 0, [1395, 8]) ::
  (25, .ireturn, 1, 1, 0, 0, .inl 0, []) :: s_X9_readAct_26) ls st μ := by rw [s_X9_readAct_0]
theorem v_X9_readAct_0 : vc X P m_X9_readAct h K k_X9_readAct S (n + 1) 0 ls st μ = if 0 ∈ S then mAt X m_X9_readAct h K 0 ls st μ else bb X P m_X9_readAct h K (vc X P m_X9_readAct h K k_X9_readAct S n) s_X9_readAct_0 ls st μ := by rw [vc_s, t_X9_readAct_0]
theorem w_X9_readAct_26 : bb X P m_X9_readAct h K J s_X9_readAct_26 ls st μ = bb X P m_X9_readAct h K J ((26, .aload_n 0, 1, 0, 0, 0, .inl 0, []) ::
  (27, .getfield 356, 3, 8, 39, 0, .inl 0, [1235]) ::
  (30, .bipush 20, 2, 0, 0, 0, .inl (nI 20), []) ::
  (32, .if_icmp .ne 9, 3, 41, 0, 0, .inl 0, []) ::
  (35, .aload_n 0, 1, 0, 0, 0, .inl 0, []) ::
  (36, .iconst 4, 1, 0, 0, 0, .inl (nI 4), []) ::
  (37, .invokevirtual 140, 3, 140, 2, 1, .inl 0, [1395, 8]) ::
  (40, .ireturn, 1, 1, 0, 0, .inl 0, []) :: s_X9_readAct_41) ls st μ := by rw [s_X9_readAct_26]
theorem v_X9_readAct_26 : vc X P m_X9_readAct h K k_X9_readAct S (n + 1) 26 ls st μ = if 26 ∈ S then mAt X m_X9_readAct h K 26 ls st μ else bb X P m_X9_readAct h K (vc X P m_X9_readAct h K k_X9_readAct S n) s_X9_readAct_26 ls st μ := by rw [vc_s, t_X9_readAct_26]
theorem w_X9_readAct_41 : bb X P m_X9_readAct h K J s_X9_readAct_41 ls st μ = bb X P m_X9_readAct h K J ((41, .iconst 5, 1, 0, 0, 0, .inl (nI 5), []) ::
  (42, .aload_n 0, 1, 0, 0, 0, .inl 0, []) ::
  (43, .getfield 356, 3, 8, 39, 0, .inl 0, [1235]) ::
  (46, .imul, 1, 0, 0, 0, .inl 0, []) ::
  (47, .istore_n 2, 1, 2, 0, 0, .inl 0, []) ::
  (48, .aload_n 0, 1, 0, 0, 0, .inl 0, []) ::
  (49, .invokevirtual 150, 3, 162, 1, 0, .inl 0, [1361, 8]) ::
  (52, .aload_n 0, 1, 0, 0, 0, .inl 0, []) ::
  (53, .aload_n 0, 1, 0, 0, 0, .inl 0, []) ::
  (54, .getfield 25, 3, 8, 18, 3, .inr (.inr (17, 14, 6)), [1214]) ::
  (57, .aload_n 0, 1, 0, 0, 0, .inl 0, []) ::
  (58, .getfield 13, 3, 8, 14, 3, .inr (.inr (16, 925, 2)), [1210]) ::
  (61, .invokevirtual 175, 3, 187, 3, 1, .inl 0, [1429, 8]) ::
  (64, .ifCond .ne 5, 3, 69, 0, 0, .inl 0, []) ::
  (67, .iconst 0, 1, 0, 0, 0, .inl (nI 0), []) ::
  (68, .ireturn, 1, 1, 0, 0, .inl 0, []) :: s_X9_readAct_69) ls st μ := by rw [s_X9_readAct_41]
theorem v_X9_readAct_41 : vc X P m_X9_readAct h K k_X9_readAct S (n + 1) 41 ls st μ = if 41 ∈ S then mAt X m_X9_readAct h K 41 ls st μ else bb X P m_X9_readAct h K (vc X P m_X9_readAct h K k_X9_readAct S n) s_X9_readAct_41 ls st μ := by rw [vc_s, t_X9_readAct_41]
theorem w_X9_readAct_69 : bb X P m_X9_readAct h K J s_X9_readAct_69 ls st μ = bb X P m_X9_readAct h K J ((69, .aload_n 0, 1, 0, 0, 0, .inl 0, []) ::
  (70, .getfield 19, 3, 8, 16, 3, .inr (.inr (16, 100, 4)), [1212]) ::
  (73, .iload_n 2, 1, 2, 0, 0, .inl 0, []) ::
  (74, .iload_n 1, 1, 1, 0, 0, .inl 0, []) ::
  (75, .ifCond .eq 7, 3, 82, 0, 0, .inl 0, []) ::
  (78, .iconst 0, 1, 0, 0, 0, .inl (nI 0), []) ::
  (79, .goto 4, 3, 83, 0, 0, .inl 0, []) :: s_X9_readAct_82) ls st μ := by rw [s_X9_readAct_69]
theorem v_X9_readAct_69 : vc X P m_X9_readAct h K k_X9_readAct S (n + 1) 69 ls st μ = if 69 ∈ S then mAt X m_X9_readAct h K 69 ls st μ else bb X P m_X9_readAct h K (vc X P m_X9_readAct h K k_X9_readAct S n) s_X9_readAct_69 ls st μ := by rw [vc_s, t_X9_readAct_69]
theorem w_X9_readAct_82 : bb X P m_X9_readAct h K J s_X9_readAct_82 ls st μ = bb X P m_X9_readAct h K J ((82, .iconst 1, 1, 0, 0, 0, .inl (nI 1), []) :: s_X9_readAct_83) ls st μ := by rw [s_X9_readAct_82]
theorem v_X9_readAct_82 : vc X P m_X9_readAct h K k_X9_readAct S (n + 1) 82 ls st μ = if 82 ∈ S then mAt X m_X9_readAct h K 82 ls st μ else bb X P m_X9_readAct h K (vc X P m_X9_readAct h K k_X9_readAct S n) s_X9_readAct_82 ls st μ := by rw [vc_s, t_X9_readAct_82]
theorem w_X9_readAct_83 : bb X P m_X9_readAct h K J s_X9_readAct_83 ls st μ = bb X P m_X9_readAct h K J ((83, .iastore, 1, 0, 0, 0, .inl 0, []) ::
  (84, .aload_n 0, 1, 0, 0, 0, .inl 0, []) ::
  (85, .getfield 19, 3, 8, 16, 3, .inr (.inr (16, 100, 4)), [1212]) ::
  (88, .iload_n 2, 1, 2, 0, 0, .inl 0, []) ::
  (89, .iconst 1, 1, 0, 0, 0, .inl (nI 1), []) ::
  (90, .iadd, 1, 0, 0, 0, .inl 0, []) ::
  (91, .aload_n 0, 1, 0, 0, 0, .inl 0, []) ::
  (92, .getfield 147, 3, 8, 13, 0, .inl 0, [1209]) ::
  (95, .iastore, 1, 0, 0, 0, .inl 0, []) ::
  (96, .aload_n 0, 1, 0, 0, 0, .inl 0, []) ::
  (97, .invokevirtual 150, 3, 162, 1, 0, .inl 0, [1361, 8]) ::
  (100, .iload_n 1, 1, 1, 0, 0, .inl 0, []) ::
  (101, .ifCond .ne 68, 3, 169, 0, 0, .inl 0, []) ::
  (104, .aload_n 0, 1, 0, 0, 0, .inl 0, []) ::
  (105, .aload_n 0, 1, 0, 0, 0, .inl 0, []) ::
  (106, .getfield 25, 3, 8, 18, 3, .inr (.inr (17, 14, 6)), [1214]) ::
  (109, .aload_n 0, 1, 0, 0, 0, .inl 0, []) ::
  (110, .getfield 13, 3, 8, 14, 3, .inr (.inr (16, 925, 2)), [1210]) ::
  (113, .invokevirtual 179, 3, 186, 3, 1, .inl 0, [1433, 8]) ::
  (116, .ifCond .ne 5, 3, 121, 0, 0, .inl 0, []) ::
  (119, .iconst 0, 1, 0, 0, 0, .inl (nI 0), []) ::
  (120, .ireturn, 1, 1, 0, 0, .inl 0, []) :: s_X9_readAct_121) ls st μ := by rw [s_X9_readAct_83]
theorem v_X9_readAct_83 : vc X P m_X9_readAct h K k_X9_readAct S (n + 1) 83 ls st μ = if 83 ∈ S then mAt X m_X9_readAct h K 83 ls st μ else bb X P m_X9_readAct h K (vc X P m_X9_readAct h K k_X9_readAct S n) s_X9_readAct_83 ls st μ := by rw [vc_s, t_X9_readAct_83]
theorem w_X9_readAct_121 : bb X P m_X9_readAct h K J s_X9_readAct_121 ls st μ = bb X P m_X9_readAct h K J ((121, .aload_n 0, 1, 0, 0, 0, .inl 0, []) ::
  (122, .getfield 13, 3, 8, 14, 3, .inr (.inr (16, 925, 2)), [1210]) ::
  (125, .bipush 38, 2, 0, 0, 0, .inl (nI 38), []) ::
  (127, .aload_n 0, 1, 0, 0, 0, .inl 0, []) ::
  (128, .getfield 19, 3, 8, 16, 3, .inr (.inr (16, 100, 4)), [1212]) ::
  (131, .iload_n 2, 1, 2, 0, 0, .inl 0, []) ::
  (132, .iconst 1, 1, 0, 0, 0, .inl (nI 1), []) ::
  (133, .iadd, 1, 0, 0, 0, .inl 0, []) ::
  (134, .iaload, 1, 0, 0, 0, .inl 0, []) ::
  (135, .aload_n 0, 1, 0, 0, 0, .inl 0, []) ::
  (136, .getfield 147, 3, 8, 13, 0, .inl 0, [1209]) ::
  (139, .invokestatic 182, 3, 148, 2, 1, .inl 0, [1437]) ::
  (142, .iadd, 1, 0, 0, 0, .inl 0, []) ::
  (143, .iaload, 1, 0, 0, 0, .inl 0, []) ::
  (144, .ifCond .ne 9, 3, 153, 0, 0, .inl 0, []) ::
  (147, .aload_n 0, 1, 0, 0, 0, .inl 0, []) ::
  (148, .iconst 3, 1, 0, 0, 0, .inl (nI 3), []) ::
  (149, .invokevirtual 140, 3, 140, 2, 1, .inl 0, [1395, 8]) ::
  (152, .ireturn, 1, 1, 0, 0, .inl 0, []) :: s_X9_readAct_153) ls st μ := by rw [s_X9_readAct_121]
theorem v_X9_readAct_121 : vc X P m_X9_readAct h K k_X9_readAct S (n + 1) 121 ls st μ = if 121 ∈ S then mAt X m_X9_readAct h K 121 ls st μ else bb X P m_X9_readAct h K (vc X P m_X9_readAct h K k_X9_readAct S n) s_X9_readAct_121 ls st μ := by rw [vc_s, t_X9_readAct_121]
theorem w_X9_readAct_153 : bb X P m_X9_readAct h K J s_X9_readAct_153 ls st μ = bb X P m_X9_readAct h K J ((153, .aload_n 0, 1, 0, 0, 0, .inl 0, []) ::
  (154, .getfield 19, 3, 8, 16, 3, .inr (.inr (16, 100, 4)), [1212]) ::
  (157, .iload_n 2, 1, 2, 0, 0, .inl 0, []) ::
  (158, .iconst 2, 1, 0, 0, 0, .inl (nI 2), []) ::
  (159, .iadd, 1, 0, 0, 0, .inl 0, []) ::
  (160, .aload_n 0, 1, 0, 0, 0, .inl 0, []) ::
  (161, .getfield 147, 3, 8, 13, 0, .inl 0, [1209]) ::
  (164, .iastore, 1, 0, 0, 0, .inl 0, []) ::
  (165, .aload_n 0, 1, 0, 0, 0, .inl 0, []) ::
  (166, .invokevirtual 150, 3, 162, 1, 0, .inl 0, [1361, 8]) :: s_X9_readAct_169) ls st μ := by rw [s_X9_readAct_153]
theorem v_X9_readAct_153 : vc X P m_X9_readAct h K k_X9_readAct S (n + 1) 153 ls st μ = if 153 ∈ S then mAt X m_X9_readAct h K 153 ls st μ else bb X P m_X9_readAct h K (vc X P m_X9_readAct h K k_X9_readAct S n) s_X9_readAct_153 ls st μ := by rw [vc_s, t_X9_readAct_153]
theorem w_X9_readAct_169 : bb X P m_X9_readAct h K J s_X9_readAct_169 ls st μ = bb X P m_X9_readAct h K J ((169, .iload_n 1, 1, 1, 0, 0, .inl 0, []) ::
  (170, .ifCond .eq 17, 3, 187, 0, 0, .inl 0, []) ::
  (173, .aload_n 0, 1, 0, 0, 0, .inl 0, []) ::
  (174, .iconst 0, 1, 0, 0, 0, .inl (nI 0), []) ::
  (175, .sipush 199, 3, 0, 0, 0, .inl (nI 199), []) ::
  (178, .invokevirtual 171, 3, 229, 3, 1, .inl 0, [1410, 8]) ::
  (181, .ifCond .eq 16, 3, 197, 0, 0, .inl 0, []) ::
  (184, .goto 15, 3, 199, 0, 0, .inl 0, []) :: s_X9_readAct_187) ls st μ := by rw [s_X9_readAct_169]
theorem v_X9_readAct_169 : vc X P m_X9_readAct h K k_X9_readAct S (n + 1) 169 ls st μ = if 169 ∈ S then mAt X m_X9_readAct h K 169 ls st μ else bb X P m_X9_readAct h K (vc X P m_X9_readAct h K k_X9_readAct S n) s_X9_readAct_169 ls st μ := by rw [vc_s, t_X9_readAct_169]
theorem w_X9_readAct_187 : bb X P m_X9_readAct h K J s_X9_readAct_187 ls st μ = bb X P m_X9_readAct h K J ((187, .aload_n 0, 1, 0, 0, 0, .inl 0, []) ::
  (188, .iconst 1, 1, 0, 0, 0, .inl (nI 1), []) ::
  (189, .bipush 99, 2, 0, 0, 0, .inl (nI 99), []) ::
  (191, .invokevirtual 171, 3, 229, 3, 1, .inl 0, [1410, 8]) ::
  (194, .ifCond .ne 5, 3, 199, 0, 0, .inl 0, []) :: s_X9_readAct_197) ls st μ := by rw [s_X9_readAct_187]
theorem v_X9_readAct_187 : vc X P m_X9_readAct h K k_X9_readAct S (n + 1) 187 ls st μ = if 187 ∈ S then mAt X m_X9_readAct h K 187 ls st μ else bb X P m_X9_readAct h K (vc X P m_X9_readAct h K k_X9_readAct S n) s_X9_readAct_187 ls st μ := by rw [vc_s, t_X9_readAct_187]
theorem w_X9_readAct_197 : bb X P m_X9_readAct h K J s_X9_readAct_197 ls st μ = bb X P m_X9_readAct h K J ((197, .iconst 0, 1, 0, 0, 0, .inl (nI 0), []) ::
  (198, .ireturn, 1, 1, 0, 0, .inl 0, []) :: s_X9_readAct_199) ls st μ := by rw [s_X9_readAct_197]
theorem v_X9_readAct_197 : vc X P m_X9_readAct h K k_X9_readAct S (n + 1) 197 ls st μ = if 197 ∈ S then mAt X m_X9_readAct h K 197 ls st μ else bb X P m_X9_readAct h K (vc X P m_X9_readAct h K k_X9_readAct S n) s_X9_readAct_197 ls st μ := by rw [vc_s, t_X9_readAct_197]
theorem w_X9_readAct_199 : bb X P m_X9_readAct h K J s_X9_readAct_199 ls st μ = bb X P m_X9_readAct h K J ((199, .aload_n 0, 1, 0, 0, 0, .inl 0, []) ::
  (200, .getfield 19, 3, 8, 16, 3, .inr (.inr (16, 100, 4)), [1212]) ::
  (203, .iload_n 1, 1, 1, 0, 0, .inl 0, []) ::
  (204, .ifCond .eq 9, 3, 213, 0, 0, .inl 0, []) ::
  (207, .iload_n 2, 1, 2, 0, 0, .inl 0, []) ::
  (208, .iconst 2, 1, 0, 0, 0, .inl (nI 2), []) ::
  (209, .iadd, 1, 0, 0, 0, .inl 0, []) ::
  (210, .goto 6, 3, 216, 0, 0, .inl 0, []) :: s_X9_readAct_213) ls st μ := by rw [s_X9_readAct_199]
theorem v_X9_readAct_199 : vc X P m_X9_readAct h K k_X9_readAct S (n + 1) 199 ls st μ = if 199 ∈ S then mAt X m_X9_readAct h K 199 ls st μ else bb X P m_X9_readAct h K (vc X P m_X9_readAct h K k_X9_readAct S n) s_X9_readAct_199 ls st μ := by rw [vc_s, t_X9_readAct_199]
theorem w_X9_readAct_213 : bb X P m_X9_readAct h K J s_X9_readAct_213 ls st μ = bb X P m_X9_readAct h K J ((213, .iload_n 2, 1, 2, 0, 0, .inl 0, []) ::
  (214, .iconst 3, 1, 0, 0, 0, .inl (nI 3), []) ::
  (215, .iadd, 1, 0, 0, 0, .inl 0, []) :: s_X9_readAct_216) ls st μ := by rw [s_X9_readAct_213]
theorem v_X9_readAct_213 : vc X P m_X9_readAct h K k_X9_readAct S (n + 1) 213 ls st μ = if 213 ∈ S then mAt X m_X9_readAct h K 213 ls st μ else bb X P m_X9_readAct h K (vc X P m_X9_readAct h K k_X9_readAct S n) s_X9_readAct_213 ls st μ := by rw [vc_s, t_X9_readAct_213]
theorem w_X9_readAct_216 : bb X P m_X9_readAct h K J s_X9_readAct_216 ls st μ = bb X P m_X9_readAct h K J ((216, .aload_n 0, 1, 0, 0, 0, .inl 0, []) ::
  (217, .getfield 147, 3, 8, 13, 0, .inl 0, [1209]) ::
  (220, .iastore, 1, 0, 0, 0, .inl 0, []) ::
  (221, .aload_n 0, 1, 0, 0, 0, .inl 0, []) ::
  (222, .iload_n 1, 1, 1, 0, 0, .inl 0, []) ::
  (223, .ifCond .eq 10, 3, 233, 0, 0, .inl 0, []) ::
  (226, .aload_n 0, 1, 0, 0, 0, .inl 0, []) ::
  (227, .getfield 147, 3, 8, 13, 0, .inl 0, [1209]) ::
  (230, .goto 4, 3, 234, 0, 0, .inl 0, []) :: s_X9_readAct_233) ls st μ := by rw [s_X9_readAct_216]
theorem v_X9_readAct_216 : vc X P m_X9_readAct h K k_X9_readAct S (n + 1) 216 ls st μ = if 216 ∈ S then mAt X m_X9_readAct h K 216 ls st μ else bb X P m_X9_readAct h K (vc X P m_X9_readAct h K k_X9_readAct S n) s_X9_readAct_216 ls st μ := by rw [vc_s, t_X9_readAct_216]
theorem w_X9_readAct_233 : bb X P m_X9_readAct h K J s_X9_readAct_233 ls st μ = bb X P m_X9_readAct h K J ((233, .iconst 0, 1, 0, 0, 0, .inl (nI 0), []) :: s_X9_readAct_234) ls st μ := by rw [s_X9_readAct_233]
theorem v_X9_readAct_233 : vc X P m_X9_readAct h K k_X9_readAct S (n + 1) 233 ls st μ = if 233 ∈ S then mAt X m_X9_readAct h K 233 ls st μ else bb X P m_X9_readAct h K (vc X P m_X9_readAct h K k_X9_readAct S n) s_X9_readAct_233 ls st μ := by rw [vc_s, t_X9_readAct_233]
theorem w_X9_readAct_234 : bb X P m_X9_readAct h K J s_X9_readAct_234 ls st μ = bb X P m_X9_readAct h K J ((234, .sipush 199, 3, 0, 0, 0, .inl (nI 199), []) ::
  (237, .invokevirtual 171, 3, 229, 3, 1, .inl 0, [1410, 8]) ::
  (240, .ifCond .ne 5, 3, 245, 0, 0, .inl 0, []) ::
  (243, .iconst 0, 1, 0, 0, 0, .inl (nI 0), []) ::
  (244, .ireturn, 1, 1, 0, 0, .inl 0, []) :: s_X9_readAct_245) ls st μ := by rw [s_X9_readAct_234]
theorem v_X9_readAct_234 : vc X P m_X9_readAct h K k_X9_readAct S (n + 1) 234 ls st μ = if 234 ∈ S then mAt X m_X9_readAct h K 234 ls st μ else bb X P m_X9_readAct h K (vc X P m_X9_readAct h K k_X9_readAct S n) s_X9_readAct_234 ls st μ := by rw [vc_s, t_X9_readAct_234]
theorem w_X9_readAct_245 : bb X P m_X9_readAct h K J s_X9_readAct_245 ls st μ = bb X P m_X9_readAct h K J ((245, .aload_n 0, 1, 0, 0, 0, .inl 0, []) ::
  (246, .getfield 19, 3, 8, 16, 3, .inr (.inr (16, 100, 4)), [1212]) ::
  (249, .iload_n 1, 1, 1, 0, 0, .inl 0, []) ::
  (250, .ifCond .eq 9, 3, 259, 0, 0, .inl 0, []) ::
  (253, .iload_n 2, 1, 2, 0, 0, .inl 0, []) ::
  (254, .iconst 3, 1, 0, 0, 0, .inl (nI 3), []) ::
  (255, .iadd, 1, 0, 0, 0, .inl 0, []) ::
  (256, .goto 6, 3, 262, 0, 0, .inl 0, []) :: s_X9_readAct_259) ls st μ := by rw [s_X9_readAct_245]
theorem v_X9_readAct_245 : vc X P m_X9_readAct h K k_X9_readAct S (n + 1) 245 ls st μ = if 245 ∈ S then mAt X m_X9_readAct h K 245 ls st μ else bb X P m_X9_readAct h K (vc X P m_X9_readAct h K k_X9_readAct S n) s_X9_readAct_245 ls st μ := by rw [vc_s, t_X9_readAct_245]
theorem w_X9_readAct_259 : bb X P m_X9_readAct h K J s_X9_readAct_259 ls st μ = bb X P m_X9_readAct h K J ((259, .iload_n 2, 1, 2, 0, 0, .inl 0, []) ::
  (260, .iconst 4, 1, 0, 0, 0, .inl (nI 4), []) ::
  (261, .iadd, 1, 0, 0, 0, .inl 0, []) :: s_X9_readAct_262) ls st μ := by rw [s_X9_readAct_259]
theorem v_X9_readAct_259 : vc X P m_X9_readAct h K k_X9_readAct S (n + 1) 259 ls st μ = if 259 ∈ S then mAt X m_X9_readAct h K 259 ls st μ else bb X P m_X9_readAct h K (vc X P m_X9_readAct h K k_X9_readAct S n) s_X9_readAct_259 ls st μ := by rw [vc_s, t_X9_readAct_259]
theorem w_X9_readAct_262 : bb X P m_X9_readAct h K J s_X9_readAct_262 ls st μ = bb X P m_X9_readAct h K J ((262, .aload_n 0, 1, 0, 0, 0, .inl 0, []) ::
  (263, .getfield 147, 3, 8, 13, 0, .inl 0, [1209]) ::
  (266, .iastore, 1, 0, 0, 0, .inl 0, []) ::
  (267, .aload_n 0, 1, 0, 0, 0, .inl 0, []) ::
  (268, .dup, 1, 0, 0, 0, .inl 0, []) ::
  (269, .getfield 356, 3, 8, 39, 0, .inl 0, [1235]) ::
  (272, .iconst 1, 1, 0, 0, 0, .inl (nI 1), []) ::
  (273, .iadd, 1, 0, 0, 0, .inl 0, []) ::
  (274, .putfield 356, 3, 8, 39, 0, .inl 0, [1235]) ::
  (277, .aload_n 0, 1, 0, 0, 0, .inl 0, []) ::
  (278, .invokevirtual 210, 3, 221, 1, 1, .inl 0, [1452, 8]) ::
  (281, .ireturn, 1, 1, 0, 0, .inl 0, []) :: []) ls st μ := by rw [s_X9_readAct_262]
theorem v_X9_readAct_262 : vc X P m_X9_readAct h K k_X9_readAct S (n + 1) 262 ls st μ = if 262 ∈ S then mAt X m_X9_readAct h K 262 ls st μ else bb X P m_X9_readAct h K (vc X P m_X9_readAct h K k_X9_readAct S n) s_X9_readAct_262 ls st μ := by rw [vc_s, t_X9_readAct_262]
end
section
variable {X : mC} {P : mP} {h : Nat} {K : MV → Mem → Prop} {J : mJ} {ls : List (Nat × MV)} {st : List MV} {μ : Mem} {S : List Nat} {n : Nat}
theorem w_X9_readAnd_0 : bb X P m_X9_readAnd h K J s_X9_readAnd_0 ls st μ = bb X P m_X9_readAnd h K J ((0, .aload_n 0, 1, 0, 0, 0, .inl 0, []) ::
  (1, .invokevirtual 375, 3, 230, 1, 1, .inl 0, [1763, 8]) ::
  (4, .ifCond .ne 5, 3, 9, 0, 0, .inl 0, []) ::
  (7, .iconst 0, 1, 0, 0, 0, .inl (nI 0), []) ::
  (8, .ireturn, 1, 1, 0, 0, .inl 0, []) :: s_X9_readAnd_9) ls st μ := by rw [s_X9_readAnd_0]
theorem v_X9_readAnd_0 : vc X P m_X9_readAnd h K k_X9_readAnd S (n + 1) 0 ls st μ = if 0 ∈ S then mAt X m_X9_readAnd h K 0 ls st μ else bb X P m_X9_readAnd h K (vc X P m_X9_readAnd h K k_X9_readAnd S n) s_X9_readAnd_0 ls st μ := by rw [vc_s, t_X9_readAnd_0]
theorem w_X9_readAnd_9 : bb X P m_X9_readAnd h K J s_X9_readAnd_9 ls st μ = bb X P m_X9_readAnd h K J ((9, .aload_n 0, 1, 0, 0, 0, .inl 0, []) ::
  (10, .getfield 368, 3, 8, 44, 0, .inl 0, [1240]) ::
  (13, .istore_n 1, 1, 1, 0, 0, .inl 0, []) :: s_X9_readAnd_14) ls st μ := by rw [s_X9_readAnd_9]
theorem v_X9_readAnd_9 : vc X P m_X9_readAnd h K k_X9_readAnd S (n + 1) 9 ls st μ = if 9 ∈ S then mAt X m_X9_readAnd h K 9 ls st μ else bb X P m_X9_readAnd h K (vc X P m_X9_readAnd h K k_X9_readAnd S n) s_X9_readAnd_9 ls st μ := by rw [vc_s, t_X9_readAnd_9]
theorem w_X9_readAnd_14 : bb X P m_X9_readAnd h K J s_X9_readAnd_14 ls st μ = bb X P m_X9_readAnd h K J ((14, .aload_n 0, 1, 0, 0, 0, .inl 0, []) ::
  (15, .bipush 10, 2, 0, 0, 0, .inl (nI 10), []) ::
  (17, .invokevirtual 189, 3, 189, 2, 1, .inl 0, [1381, 8]) ::
  (20, .ifCond .eq 31, 3, 51, 0, 0, .inl 0, []) ::
  (23, .aload_n 0, 1, 0, 0, 0, .inl 0, []) ::
  (24, .invokevirtual 150, 3, 162, 1, 0, .inl 0, [1361, 8]) ::
  (27, .aload_n 0, 1, 0, 0, 0, .inl 0, []) ::
  (28, .invokevirtual 375, 3, 230, 1, 1, .inl 0, [1763, 8]) ::
  (31, .ifCond .ne 5, 3, 36, 0, 0, .inl 0, []) ::
  (34, .iconst 0, 1, 0, 0, 0, .inl (nI 0), []) ::
  (35, .ireturn, 1, 1, 0, 0, .inl 0, []) :: s_X9_readAnd_36) ls st μ := by rw [s_X9_readAnd_14]
theorem v_X9_readAnd_14 : vc X P m_X9_readAnd h K k_X9_readAnd S (n + 1) 14 ls st μ = if 14 ∈ S then mAt X m_X9_readAnd h K 14 ls st μ else bb X P m_X9_readAnd h K (vc X P m_X9_readAnd h K k_X9_readAnd S n) s_X9_readAnd_14 ls st μ := by rw [vc_s, t_X9_readAnd_14]
theorem w_X9_readAnd_36 : bb X P m_X9_readAnd h K J s_X9_readAnd_36 ls st μ = bb X P m_X9_readAnd h K J ((36, .aload_n 0, 1, 0, 0, 0, .inl 0, []) ::
  (37, .iconst 2, 1, 0, 0, 0, .inl (nI 2), []) ::
  (38, .iload_n 1, 1, 1, 0, 0, .inl 0, []) ::
  (39, .aload_n 0, 1, 0, 0, 0, .inl 0, []) ::
  (40, .getfield 368, 3, 8, 44, 0, .inl 0, [1240]) ::
  (43, .iconst 0, 1, 0, 0, 0, .inl (nI 0), []) ::
  (44, .invokevirtual 371, 3, 198, 5, 1, .inl 0, [1775, 8]) ::
  (47, .istore_n 1, 1, 1, 0, 0, .inl 0, []) ::
  (48, .goto (-34), 3, 14, 0, 0, .inl 0, []) :: s_X9_readAnd_51) ls st μ := by rw [s_X9_readAnd_36]
theorem v_X9_readAnd_36 : vc X P m_X9_readAnd h K k_X9_readAnd S (n + 1) 36 ls st μ = if 36 ∈ S then mAt X m_X9_readAnd h K 36 ls st μ else bb X P m_X9_readAnd h K (vc X P m_X9_readAnd h K k_X9_readAnd S n) s_X9_readAnd_36 ls st μ := by rw [vc_s, t_X9_readAnd_36]
theorem w_X9_readAnd_51 : bb X P m_X9_readAnd h K J s_X9_readAnd_51 ls st μ = bb X P m_X9_readAnd h K J ((51, .aload_n 0, 1, 0, 0, 0, .inl 0, []) ::
  (52, .iload_n 1, 1, 1, 0, 0, .inl 0, []) ::
  (53, .putfield 368, 3, 8, 44, 0, .inl 0, [1240]) ::
  (56, .iconst 1, 1, 0, 0, 0, .inl (nI 1), []) ::
  (57, .ireturn, 1, 1, 0, 0, .inl 0, []) :: []) ls st μ := by rw [s_X9_readAnd_51]
theorem v_X9_readAnd_51 : vc X P m_X9_readAnd h K k_X9_readAnd S (n + 1) 51 ls st μ = if 51 ∈ S then mAt X m_X9_readAnd h K 51 ls st μ else bb X P m_X9_readAnd h K (vc X P m_X9_readAnd h K k_X9_readAnd S n) s_X9_readAnd_51 ls st μ := by rw [vc_s, t_X9_readAnd_51]
end
section
variable {X : mC} {P : mP} {h : Nat} {K : MV → Mem → Prop} {J : mJ} {ls : List (Nat × MV)} {st : List MV} {μ : Mem} {S : List Nat} {n : Nat}
theorem w_X9_readBracket_0 : bb X P m_X9_readBracket h K J s_X9_readBracket_0 ls st μ = bb X P m_X9_readBracket h K J ((0, .aload_n 0, 1, 0, 0, 0, .inl 0, []) ::
  (1, .invokevirtual 396, 3, 231, 1, 1, .inl 0, [1755, 8]) ::
  (4, .ifCond .ne 5, 3, 9, 0, 0, .inl 0, []) ::
  (7, .iconst 0, 1, 0, 0, 0, .inl (nI 0), []) ::
  (8, .ireturn, 1, 1, 0, 0, .inl 0, []) :: s_X9_readBracket_9) ls st μ := by rw [s_X9_readBracket_0]
theorem v_X9_readBracket_0 : vc X P m_X9_readBracket h K k_X9_readBracket S (n + 1) 0 ls st μ = if 0 ∈ S then mAt X m_X9_readBracket h K 0 ls st μ else bb X P m_X9_readBracket h K (vc X P m_X9_readBracket h K k_X9_readBracket S n) s_X9_readBracket_0 ls st μ := by rw [vc_s, t_X9_readBracket_0]
theorem w_X9_readBracket_9 : bb X P m_X9_readBracket h K J s_X9_readBracket_9 ls st μ = bb X P m_X9_readBracket h K J ((9, .aload_n 0, 1, 0, 0, 0, .inl 0, []) ::
  (10, .bipush 41, 2, 0, 0, 0, .inl (nI 41), []) ::
  (12, .invokevirtual 153, 3, 182, 2, 1, .inl 0, [1456, 8]) ::
  (15, .ifCond .ne 9, 3, 24, 0, 0, .inl 0, []) ::
  (18, .aload_n 0, 1, 0, 0, 0, .inl 0, []) ::
  (19, .iconst 1, 1, 0, 0, 0, .inl (nI 1), []) ::
  (20, .invokevirtual 140, 3, 140, 2, 1, .inl 0, [1395, 8]) ::
  (23, .ireturn, 1, 1, 0, 0, .inl 0, []) :: s_X9_readBracket_24) ls st μ := by rw [s_X9_readBracket_9]
theorem v_X9_readBracket_9 : vc X P m_X9_readBracket h K k_X9_readBracket S (n + 1) 9 ls st μ = if 9 ∈ S then mAt X m_X9_readBracket h K 9 ls st μ else bb X P m_X9_readBracket h K (vc X P m_X9_readBracket h K k_X9_readBracket S n) s_X9_readBracket_9 ls st μ := by rw [vc_s, t_X9_readBracket_9]
theorem w_X9_readBracket_24 : bb X P m_X9_readBracket h K J s_X9_readBracket_24 ls st μ = bb X P m_X9_readBracket h K J ((24, .aload_n 0, 1, 0, 0, 0, .inl 0, []) ::
  (25, .invokevirtual 150, 3, 162, 1, 0, .inl 0, [1361, 8]) ::
  (28, .iconst 1, 1, 0, 0, 0, .inl (nI 1), []) ::
  (29, .ireturn, 1, 1, 0, 0, .inl 0, []) :: []) ls st μ := by rw [s_X9_readBracket_24]
theorem v_X9_readBracket_24 : vc X P m_X9_readBracket h K k_X9_readBracket S (n + 1) 24 ls st μ = if 24 ∈ S then mAt X m_X9_readBracket h K 24 ls st μ else bb X P m_X9_readBracket h K (vc X P m_X9_readBracket h K k_X9_readBracket S n) s_X9_readBracket_24 ls st μ := by rw [vc_s, t_X9_readBracket_24]
end
section
variable {X : mC} {P : mP} {h : Nat} {K : MV → Mem → Prop} {J : mJ} {ls : List (Nat × MV)} {st : List MV} {μ : Mem} {S : List Nat} {n : Nat}
theorem w_X9_readCell_0 : bb X P m_X9_readCell h K J s_X9_readCell_0 ls st μ = bb X P m_X9_readCell h K J ((0, .aload_n 0, 1, 0, 0, 0, .inl 0, []) ::
  (1, .invokevirtual 150, 3, 162, 1, 0, .inl 0, [1361, 8]) ::
  (4, .aload_n 0, 1, 0, 0, 0, .inl 0, []) ::
  (5, .aload_n 0, 1, 0, 0, 0, .inl 0, []) ::
  (6, .getfield 29, 3, 8, 19, 3, .inr (.inr (17, 14, 7)), [1215]) ::
  (9, .aload_n 0, 1, 0, 0, 0, .inl 0, []) ::
  (10, .getfield 16, 3, 8, 15, 3, .inr (.inr (16, 278, 3)), [1211]) ::
  (13, .invokevirtual 175, 3, 187, 3, 1, .inl 0, [1429, 8]) ::
  (16, .ifCond .ne 5, 3, 21, 0, 0, .inl 0, []) ::
  (19, .iconst (-1), 1, 0, 0, 0, .inl (-1), []) ::
  (20, .ireturn, 1, 0, 0, 0, .inl 0, []) :: s_X9_readCell_21) ls st μ := by rw [s_X9_readCell_0]
theorem v_X9_readCell_0 : vc X P m_X9_readCell h K k_X9_readCell S (n + 1) 0 ls st μ = if 0 ∈ S then mAt X m_X9_readCell h K 0 ls st μ else bb X P m_X9_readCell h K (vc X P m_X9_readCell h K k_X9_readCell S n) s_X9_readCell_0 ls st μ := by rw [vc_s, t_X9_readCell_0]
theorem w_X9_readCell_21 : bb X P m_X9_readCell h K J s_X9_readCell_21 ls st μ = bb X P m_X9_readCell h K J ((21, .aload_n 0, 1, 0, 0, 0, .inl 0, []) ::
  (22, .getfield 147, 3, 8, 13, 0, .inl 0, [1209]) ::
  (25, .istore_n 2, 1, 2, 0, 0, .inl 0, []) ::
  (26, .aload_n 0, 1, 0, 0, 0, .inl 0, []) ::
  (27, .invokevirtual 150, 3, 162, 1, 0, .inl 0, [1361, 8]) ::
  (30, .aload_n 0, 1, 0, 0, 0, .inl 0, []) ::
  (31, .aload_n 0, 1, 0, 0, 0, .inl 0, []) ::
  (32, .getfield 29, 3, 8, 19, 3, .inr (.inr (17, 14, 7)), [1215]) ::
  (35, .aload_n 0, 1, 0, 0, 0, .inl 0, []) ::
  (36, .getfield 16, 3, 8, 15, 3, .inr (.inr (16, 278, 3)), [1211]) ::
  (39, .invokevirtual 179, 3, 186, 3, 1, .inl 0, [1433, 8]) ::
  (42, .ifCond .ne 5, 3, 47, 0, 0, .inl 0, []) ::
  (45, .iconst (-1), 1, 0, 0, 0, .inl (-1), []) ::
  (46, .ireturn, 1, 0, 0, 0, .inl 0, []) :: s_X9_readCell_47) ls st μ := by rw [s_X9_readCell_21]
theorem v_X9_readCell_21 : vc X P m_X9_readCell h K k_X9_readCell S (n + 1) 21 ls st μ = if 21 ∈ S then mAt X m_X9_readCell h K 21 ls st μ else bb X P m_X9_readCell h K (vc X P m_X9_readCell h K k_X9_readCell S n) s_X9_readCell_21 ls st μ := by rw [vc_s, t_X9_readCell_21]
theorem w_X9_readCell_47 : bb X P m_X9_readCell h K J s_X9_readCell_47 ls st μ = bb X P m_X9_readCell h K J ((47, .iload_n 2, 1, 2, 0, 0, .inl 0, []) ::
  (48, .aload_n 0, 1, 0, 0, 0, .inl 0, []) ::
  (49, .getfield 147, 3, 8, 13, 0, .inl 0, [1209]) ::
  (52, .invokestatic 182, 3, 148, 2, 1, .inl 0, [1437]) ::
  (55, .istore_n 3, 1, 3, 0, 0, .inl 0, []) ::
  (56, .aload_n 0, 1, 0, 0, 0, .inl 0, []) ::
  (57, .getfield 16, 3, 8, 15, 3, .inr (.inr (16, 278, 3)), [1211]) ::
  (60, .iload_n 1, 1, 1, 0, 0, .inl 0, []) ::
  (61, .iload_n 3, 1, 3, 0, 0, .inl 0, []) ::
  (62, .iadd, 1, 0, 0, 0, .inl 0, []) ::
  (63, .iaload, 1, 0, 0, 0, .inl 0, []) ::
  (64, .ifCond .le 11, 3, 75, 0, 0, .inl 0, []) ::
  (67, .aload_n 0, 1, 0, 0, 0, .inl 0, []) ::
  (68, .iconst 3, 1, 0, 0, 0, .inl (nI 3), []) ::
  (69, .invokevirtual 140, 3, 140, 2, 1, .inl 0, [1395, 8]) ::
  (72, .pop, 1, 0, 0, 0, .inl 0, []) ::
  (73, .iconst (-1), 1, 0, 0, 0, .inl (-1), []) ::
  (74, .ireturn, 1, 0, 0, 0, .inl 0, []) :: s_X9_readCell_75) ls st μ := by rw [s_X9_readCell_47]
theorem v_X9_readCell_47 : vc X P m_X9_readCell h K k_X9_readCell S (n + 1) 47 ls st μ = if 47 ∈ S then mAt X m_X9_readCell h K 47 ls st μ else bb X P m_X9_readCell h K (vc X P m_X9_readCell h K k_X9_readCell S n) s_X9_readCell_47 ls st μ := by rw [vc_s, t_X9_readCell_47]
theorem w_X9_readCell_75 : bb X P m_X9_readCell h K J s_X9_readCell_75 ls st μ = bb X P m_X9_readCell h K J ((75, .aload_n 0, 1, 0, 0, 0, .inl 0, []) ::
  (76, .invokevirtual 150, 3, 162, 1, 0, .inl 0, [1361, 8]) ::
  (79, .iload_n 3, 1, 3, 0, 0, .inl 0, []) ::
  (80, .ireturn, 1, 0, 0, 0, .inl 0, []) :: []) ls st μ := by rw [s_X9_readCell_75]
theorem v_X9_readCell_75 : vc X P m_X9_readCell h K k_X9_readCell S (n + 1) 75 ls st μ = if 75 ∈ S then mAt X m_X9_readCell h K 75 ls st μ else bb X P m_X9_readCell h K (vc X P m_X9_readCell h K k_X9_readCell S n) s_X9_readCell_75 ls st μ := by rw [vc_s, t_X9_readCell_75]
end
section
variable {X : mC} {P : mP} {h : Nat} {K : MV → Mem → Prop} {J : mJ} {ls : List (Nat × MV)} {st : List MV} {μ : Mem} {S : List Nat} {n : Nat}
theorem w_X9_readCompare_0 : bb X P m_X9_readCompare h K J s_X9_readCompare_0 ls st μ = bb X P m_X9_readCompare h K J ((0, .aload_n 0, 1, 0, 0, 0, .inl 0, []) ::
  (1, .bipush 60, 2, 0, 0, 0, .inl (nI 60), []) ::
  (3, .invokevirtual 153, 3, 182, 2, 1, .inl 0, [1456, 8]) ::
  (6, .ifCond .ne 27, 3, 33, 0, 0, .inl 0, []) ::
  (9, .aload_n 0, 1, 0, 0, 0, .inl 0, []) ::
  (10, .bipush 61, 2, 0, 0, 0, .inl (nI 61), []) ::
  (12, .invokevirtual 153, 3, 182, 2, 1, .inl 0, [1456, 8]) ::
  (15, .ifCond .ne 18, 3, 33, 0, 0, .inl 0, []) ::
  (18, .aload_n 0, 1, 0, 0, 0, .inl 0, []) ::
  (19, .bipush 62, 2, 0, 0, 0, .inl (nI 62), []) ::
  (21, .invokevirtual 153, 3, 182, 2, 1, .inl 0, [1456, 8]) ::
  (24, .ifCond .ne 9, 3, 33, 0, 0, .inl 0, []) ::
  (27, .aload_n 0, 1, 0, 0, 0, .inl 0, []) ::
  (28, .iconst 1, 1, 0, 0, 0, .inl (nI 1), []) ::
  (29, .invokevirtual 140, 3, 140, 2, 1, .inl 0, [1395, 8]) ::
  (32, .ireturn, 1, 1, 0, 0, .inl 0, []) :: s_X9_readCompare_33) ls st μ := by rw [s_X9_readCompare_0]
theorem v_X9_readCompare_0 : vc X P m_X9_readCompare h K k_X9_readCompare S (n + 1) 0 ls st μ = if 0 ∈ S then mAt X m_X9_readCompare h K 0 ls st μ else bb X P m_X9_readCompare h K (vc X P m_X9_readCompare h K k_X9_readCompare S n) s_X9_readCompare_0 ls st μ := by rw [vc_s, t_X9_readCompare_0]
theorem w_X9_readCompare_33 : bb X P m_X9_readCompare h K J s_X9_readCompare_33 ls st μ = bb X P m_X9_readCompare h K J ((33, .aload_n 0, 1, 0, 0, 0, .inl 0, []) ::
  (34, .getfield 108, 3, 8, 9, 0, .inl 0, [1205]) ::
  (37, .istore_n 2, 1, 2, 0, 0, .inl 0, []) ::
  (38, .aload_n 0, 1, 0, 0, 0, .inl 0, []) ::
  (39, .invokevirtual 150, 3, 162, 1, 0, .inl 0, [1361, 8]) ::
  (42, .aload_n 0, 1, 0, 0, 0, .inl 0, []) ::
  (43, .iconst 0, 1, 0, 0, 0, .inl (nI 0), []) ::
  (44, .sipush 999, 3, 0, 0, 0, .inl (nI 999), []) ::
  (47, .invokevirtual 171, 3, 229, 3, 1, .inl 0, [1410, 8]) ::
  (50, .ifCond .ne 5, 3, 55, 0, 0, .inl 0, []) ::
  (53, .iconst 0, 1, 0, 0, 0, .inl (nI 0), []) ::
  (54, .ireturn, 1, 1, 0, 0, .inl 0, []) :: s_X9_readCompare_55) ls st μ := by rw [s_X9_readCompare_33]
theorem v_X9_readCompare_33 : vc X P m_X9_readCompare h K k_X9_readCompare S (n + 1) 33 ls st μ = if 33 ∈ S then mAt X m_X9_readCompare h K 33 ls st μ else bb X P m_X9_readCompare h K (vc X P m_X9_readCompare h K k_X9_readCompare S n) s_X9_readCompare_33 ls st μ := by rw [vc_s, t_X9_readCompare_33]
theorem w_X9_readCompare_55 : bb X P m_X9_readCompare h K J s_X9_readCompare_55 ls st μ = bb X P m_X9_readCompare h K J ((55, .aload_n 0, 1, 0, 0, 0, .inl 0, []) ::
  (56, .aload_n 0, 1, 0, 0, 0, .inl 0, []) ::
  (57, .bipush 50, 2, 0, 0, 0, .inl (nI 50), []) ::
  (59, .iload_n 1, 1, 1, 0, 0, .inl 0, []) ::
  (60, .iadd, 1, 0, 0, 0, .inl 0, []) ::
  (61, .iconst 0, 1, 0, 0, 0, .inl (nI 0), []) ::
  (62, .aload_n 0, 1, 0, 0, 0, .inl 0, []) ::
  (63, .getfield 147, 3, 8, 13, 0, .inl 0, [1209]) ::
  (66, .iload_n 2, 1, 2, 0, 0, .inl 0, []) ::
  (67, .invokevirtual 371, 3, 198, 5, 1, .inl 0, [1775, 8]) ::
  (70, .putfield 368, 3, 8, 44, 0, .inl 0, [1240]) ::
  (73, .iconst 1, 1, 0, 0, 0, .inl (nI 1), []) ::
  (74, .ireturn, 1, 1, 0, 0, .inl 0, []) :: []) ls st μ := by rw [s_X9_readCompare_55]
theorem v_X9_readCompare_55 : vc X P m_X9_readCompare h K k_X9_readCompare S (n + 1) 55 ls st μ = if 55 ∈ S then mAt X m_X9_readCompare h K 55 ls st μ else bb X P m_X9_readCompare h K (vc X P m_X9_readCompare h K k_X9_readCompare S n) s_X9_readCompare_55 ls st μ := by rw [vc_s, t_X9_readCompare_55]
end
section
variable {X : mC} {P : mP} {h : Nat} {K : MV → Mem → Prop} {J : mJ} {ls : List (Nat × MV)} {st : List MV} {μ : Mem} {S : List Nat} {n : Nat}
theorem w_X9_readEnd_0 : bb X P m_X9_readEnd h K J s_X9_readEnd_0 ls st μ = bb X P m_X9_readEnd h K J ((0, .aload_n 0, 1, 0, 0, 0, .inl 0, []) ::
  (1, .bipush 59, 2, 0, 0, 0, .inl (nI 59), []) ::
  (3, .invokevirtual 153, 3, 182, 2, 1, .inl 0, [1456, 8]) ::
  (6, .ifCond .ne 9, 3, 15, 0, 0, .inl 0, []) ::
  (9, .aload_n 0, 1, 0, 0, 0, .inl 0, []) ::
  (10, .iconst 1, 1, 0, 0, 0, .inl (nI 1), []) ::
  (11, .invokevirtual 140, 3, 140, 2, 1, .inl 0, [1395, 8]) ::
  (14, .ireturn, 1, 1, 0, 0, .inl 0, []) :: s_X9_readEnd_15) ls st μ := by rw [s_X9_readEnd_0]
theorem v_X9_readEnd_0 : vc X P m_X9_readEnd h K k_X9_readEnd S (n + 1) 0 ls st μ = if 0 ∈ S then mAt X m_X9_readEnd h K 0 ls st μ else bb X P m_X9_readEnd h K (vc X P m_X9_readEnd h K k_X9_readEnd S n) s_X9_readEnd_0 ls st μ := by rw [vc_s, t_X9_readEnd_0]
theorem w_X9_readEnd_15 : bb X P m_X9_readEnd h K J s_X9_readEnd_15 ls st μ = bb X P m_X9_readEnd h K J ((15, .aload_n 0, 1, 0, 0, 0, .inl 0, []) ::
  (16, .invokevirtual 150, 3, 162, 1, 0, .inl 0, [1361, 8]) ::
  (19, .iconst 1, 1, 0, 0, 0, .inl (nI 1), []) ::
  (20, .ireturn, 1, 1, 0, 0, .inl 0, []) :: []) ls st μ := by rw [s_X9_readEnd_15]
theorem v_X9_readEnd_15 : vc X P m_X9_readEnd h K k_X9_readEnd S (n + 1) 15 ls st μ = if 15 ∈ S then mAt X m_X9_readEnd h K 15 ls st μ else bb X P m_X9_readEnd h K (vc X P m_X9_readEnd h K k_X9_readEnd S n) s_X9_readEnd_15 ls st μ := by rw [vc_s, t_X9_readEnd_15]
end
section
variable {X : mC} {P : mP} {h : Nat} {K : MV → Mem → Prop} {J : mJ} {ls : List (Nat × MV)} {st : List MV} {μ : Mem} {S : List Nat} {n : Nat}
theorem w_X9_readGood_0 : bb X P m_X9_readGood h K J s_X9_readGood_0 ls st μ = bb X P m_X9_readGood h K J ((0, .aload_n 0, 1, 0, 0, 0, .inl 0, []) ::
  (1, .getfield 16, 3, 8, 15, 3, .inr (.inr (16, 278, 3)), [1211]) ::
  (4, .iconst 0, 1, 0, 0, 0, .inl (nI 0), []) ::
  (5, .iaload, 1, 0, 0, 0, .inl 0, []) ::
  (6, .istore_n 1, 1, 1, 0, 0, .inl 0, []) ::
  (7, .iload_n 1, 1, 1, 0, 0, .inl 0, []) ::
  (8, .bipush 6, 2, 0, 0, 0, .inl (nI 6), []) ::
  (10, .if_icmp .ne 9, 3, 19, 0, 0, .inl 0, []) ::
  (13, .aload_n 0, 1, 0, 0, 0, .inl 0, []) ::
  (14, .iconst 4, 1, 0, 0, 0, .inl (nI 4), []) ::
  (15, .invokevirtual 140, 3, 140, 2, 1, .inl 0, [1395, 8]) ::
  (18, .ireturn, 1, 1, 0, 0, .inl 0, []) :: s_X9_readGood_19) ls st μ := by rw [s_X9_readGood_0]
theorem v_X9_readGood_0 : vc X P m_X9_readGood h K k_X9_readGood S (n + 1) 0 ls st μ = if 0 ∈ S then mAt X m_X9_readGood h K 0 ls st μ else bb X P m_X9_readGood h K (vc X P m_X9_readGood h K k_X9_readGood S n) s_X9_readGood_0 ls st μ := by rw [vc_s, t_X9_readGood_0]
theorem w_X9_readGood_19 : bb X P m_X9_readGood h K J s_X9_readGood_19 ls st μ = bb X P m_X9_readGood h K J ((19, .aload_n 0, 1, 0, 0, 0, .inl 0, []) ::
  (20, .invokevirtual 150, 3, 162, 1, 0, .inl 0, [1361, 8]) ::
  (23, .aload_n 0, 1, 0, 0, 0, .inl 0, []) ::
  (24, .iload_n 1, 1, 1, 0, 0, .inl 0, []) ::
  (25, .invokevirtual 168, 3, 227, 2, 1, .inl 0, [1399, 8]) ::
  (28, .ifCond .eq 13, 3, 41, 0, 0, .inl 0, []) ::
  (31, .aload_n 0, 1, 0, 0, 0, .inl 0, []) ::
  (32, .iconst 0, 1, 0, 0, 0, .inl (nI 0), []) ::
  (33, .bipush 9, 2, 0, 0, 0, .inl (nI 9), []) ::
  (35, .invokevirtual 171, 3, 229, 3, 1, .inl 0, [1410, 8]) ::
  (38, .ifCond .ne 5, 3, 43, 0, 0, .inl 0, []) :: s_X9_readGood_41) ls st μ := by rw [s_X9_readGood_19]
theorem v_X9_readGood_19 : vc X P m_X9_readGood h K k_X9_readGood S (n + 1) 19 ls st μ = if 19 ∈ S then mAt X m_X9_readGood h K 19 ls st μ else bb X P m_X9_readGood h K (vc X P m_X9_readGood h K k_X9_readGood S n) s_X9_readGood_19 ls st μ := by rw [vc_s, t_X9_readGood_19]
theorem w_X9_readGood_41 : bb X P m_X9_readGood h K J s_X9_readGood_41 ls st μ = bb X P m_X9_readGood h K J ((41, .iconst 0, 1, 0, 0, 0, .inl (nI 0), []) ::
  (42, .ireturn, 1, 1, 0, 0, .inl 0, []) :: s_X9_readGood_43) ls st μ := by rw [s_X9_readGood_41]
theorem v_X9_readGood_41 : vc X P m_X9_readGood h K k_X9_readGood S (n + 1) 41 ls st μ = if 41 ∈ S then mAt X m_X9_readGood h K 41 ls st μ else bb X P m_X9_readGood h K (vc X P m_X9_readGood h K k_X9_readGood S n) s_X9_readGood_41 ls st μ := by rw [vc_s, t_X9_readGood_41]
theorem w_X9_readGood_43 : bb X P m_X9_readGood h K J s_X9_readGood_43 ls st μ = bb X P m_X9_readGood h K J ((43, .aload_n 0, 1, 0, 0, 0, .inl 0, []) ::
  (44, .getfield 16, 3, 8, 15, 3, .inr (.inr (16, 278, 3)), [1211]) ::
  (47, .bipush 8, 2, 0, 0, 0, .inl (nI 8), []) ::
  (49, .iload_n 1, 1, 1, 0, 0, .inl 0, []) ::
  (50, .iadd, 1, 0, 0, 0, .inl 0, []) ::
  (51, .aload_n 0, 1, 0, 0, 0, .inl 0, []) ::
  (52, .getfield 147, 3, 8, 13, 0, .inl 0, [1209]) ::
  (55, .iastore, 1, 0, 0, 0, .inl 0, []) ::
  (56, .aload_n 0, 1, 0, 0, 0, .inl 0, []) ::
  (57, .getfield 16, 3, 8, 15, 3, .inr (.inr (16, 278, 3)), [1211]) ::
  (60, .iconst 0, 1, 0, 0, 0, .inl (nI 0), []) ::
  (61, .dup2, 1, 0, 0, 0, .inl 0, []) ::
  (62, .iaload, 1, 0, 0, 0, .inl 0, []) ::
  (63, .iconst 1, 1, 0, 0, 0, .inl (nI 1), []) ::
  (64, .iadd, 1, 0, 0, 0, .inl 0, []) ::
  (65, .iastore, 1, 0, 0, 0, .inl 0, []) ::
  (66, .iconst 1, 1, 0, 0, 0, .inl (nI 1), []) ::
  (67, .ireturn, 1, 1, 0, 0, .inl 0, []) :: []) ls st μ := by rw [s_X9_readGood_43]
theorem v_X9_readGood_43 : vc X P m_X9_readGood h K k_X9_readGood S (n + 1) 43 ls st μ = if 43 ∈ S then mAt X m_X9_readGood h K 43 ls st μ else bb X P m_X9_readGood h K (vc X P m_X9_readGood h K k_X9_readGood S n) s_X9_readGood_43 ls st μ := by rw [vc_s, t_X9_readGood_43]
end
section
variable {X : mC} {P : mP} {h : Nat} {K : MV → Mem → Prop} {J : mJ} {ls : List (Nat × MV)} {st : List MV} {μ : Mem} {S : List Nat} {n : Nat}
theorem w_X9_readJoined_0 : bb X P m_X9_readJoined h K J s_X9_readJoined_0 ls st μ = bb X P m_X9_readJoined h K J ((0, .aload_n 0, 1, 0, 0, 0, .inl 0, []) ::
  (1, .getfield 16, 3, 8, 15, 3, .inr (.inr (16, 278, 3)), [1211]) ::
  (4, .iconst 2, 1, 0, 0, 0, .inl (nI 2), []) ::
  (5, .iaload, 1, 0, 0, 0, .inl 0, []) ::
  (6, .ifCond .le 9, 3, 15, 0, 0, .inl 0, []) ::
  (9, .aload_n 0, 1, 0, 0, 0, .inl 0, []) ::
  (10, .iconst 3, 1, 0, 0, 0, .inl (nI 3), []) ::
  (11, .invokevirtual 140, 3, 140, 2, 1, .inl 0, [1395, 8]) ::
  (14, .ireturn, 1, 1, 0, 0, .inl 0, []) :: s_X9_readJoined_15) ls st μ := by rw [s_X9_readJoined_0]
theorem v_X9_readJoined_0 : vc X P m_X9_readJoined h K k_X9_readJoined S (n + 1) 0 ls st μ = if 0 ∈ S then mAt X m_X9_readJoined h K 0 ls st μ else bb X P m_X9_readJoined h K (vc X P m_X9_readJoined h K k_X9_readJoined S n) s_X9_readJoined_0 ls st μ := by rw [vc_s, t_X9_readJoined_0]
theorem w_X9_readJoined_15 : bb X P m_X9_readJoined h K J s_X9_readJoined_15 ls st μ = bb X P m_X9_readJoined h K J ((15, .aload_n 0, 1, 0, 0, 0, .inl 0, []) ::
  (16, .getfield 16, 3, 8, 15, 3, .inr (.inr (16, 278, 3)), [1211]) ::
  (19, .iconst 2, 1, 0, 0, 0, .inl (nI 2), []) ::
  (20, .iconst 1, 1, 0, 0, 0, .inl (nI 1), []) ::
  (21, .iastore, 1, 0, 0, 0, .inl 0, []) ::
  (22, .aload_n 0, 1, 0, 0, 0, .inl 0, []) ::
  (23, .invokevirtual 150, 3, 162, 1, 0, .inl 0, [1361, 8]) ::
  (26, .iconst 1, 1, 0, 0, 0, .inl (nI 1), []) ::
  (27, .ireturn, 1, 1, 0, 0, .inl 0, []) :: []) ls st μ := by rw [s_X9_readJoined_15]
theorem v_X9_readJoined_15 : vc X P m_X9_readJoined h K k_X9_readJoined S (n + 1) 15 ls st μ = if 15 ∈ S then mAt X m_X9_readJoined h K 15 ls st μ else bb X P m_X9_readJoined h K (vc X P m_X9_readJoined h K k_X9_readJoined S n) s_X9_readJoined_15 ls st μ := by rw [vc_s, t_X9_readJoined_15]
end
section
variable {X : mC} {P : mP} {h : Nat} {K : MV → Mem → Prop} {J : mJ} {ls : List (Nat × MV)} {st : List MV} {μ : Mem} {S : List Nat} {n : Nat}
theorem w_X9_readLine_0 : bb X P m_X9_readLine h K J s_X9_readLine_0 ls st μ = bb X P m_X9_readLine h K J ((0, .aload_n 0, 1, 0, 0, 0, .inl 0, []) ::
  (1, .iconst 0, 1, 0, 0, 0, .inl (nI 0), []) ::
  (2, .invokevirtual 189, 3, 189, 2, 1, .inl 0, [1381, 8]) ::
  (5, .ifCond .eq 11, 3, 16, 0, 0, .inl 0, []) ::
  (8, .aload_n 0, 1, 0, 0, 0, .inl 0, []) ::
  (9, .invokevirtual 192, 3, 222, 1, 1, .inl 0, [1391, 8]) ::
  (12, .istore_n 1, 1, 1, 0, 0, .inl 0, []) ::
  (13, .goto 113, 3, 126, 0, 0, .inl 0, []) :: s_X9_readLine_16) ls st μ := by rw [s_X9_readLine_0]
theorem v_X9_readLine_0 : vc X P m_X9_readLine h K k_X9_readLine S (n + 1) 0 ls st μ = if 0 ∈ S then mAt X m_X9_readLine h K 0 ls st μ else bb X P m_X9_readLine h K (vc X P m_X9_readLine h K k_X9_readLine S n) s_X9_readLine_0 ls st μ := by rw [vc_s, t_X9_readLine_0]
theorem w_X9_readLine_16 : bb X P m_X9_readLine h K J s_X9_readLine_16 ls st μ = bb X P m_X9_readLine h K J ((16, .aload_n 0, 1, 0, 0, 0, .inl 0, []) ::
  (17, .iconst 1, 1, 0, 0, 0, .inl (nI 1), []) ::
  (18, .invokevirtual 189, 3, 189, 2, 1, .inl 0, [1381, 8]) ::
  (21, .ifCond .eq 11, 3, 32, 0, 0, .inl 0, []) ::
  (24, .aload_n 0, 1, 0, 0, 0, .inl 0, []) ::
  (25, .invokevirtual 195, 3, 234, 1, 1, .inl 0, [1417, 8]) ::
  (28, .istore_n 1, 1, 1, 0, 0, .inl 0, []) ::
  (29, .goto 97, 3, 126, 0, 0, .inl 0, []) :: s_X9_readLine_32) ls st μ := by rw [s_X9_readLine_16]
theorem v_X9_readLine_16 : vc X P m_X9_readLine h K k_X9_readLine S (n + 1) 16 ls st μ = if 16 ∈ S then mAt X m_X9_readLine h K 16 ls st μ else bb X P m_X9_readLine h K (vc X P m_X9_readLine h K k_X9_readLine S n) s_X9_readLine_16 ls st μ := by rw [vc_s, t_X9_readLine_16]
theorem w_X9_readLine_32 : bb X P m_X9_readLine h K J s_X9_readLine_32 ls st μ = bb X P m_X9_readLine h K J ((32, .aload_n 0, 1, 0, 0, 0, .inl 0, []) ::
  (33, .iconst 2, 1, 0, 0, 0, .inl (nI 2), []) ::
  (34, .invokevirtual 189, 3, 189, 2, 1, .inl 0, [1381, 8]) ::
  (37, .ifCond .eq 11, 3, 48, 0, 0, .inl 0, []) ::
  (40, .aload_n 0, 1, 0, 0, 0, .inl 0, []) ::
  (41, .invokevirtual 198, 3, 233, 1, 1, .inl 0, [1421, 8]) ::
  (44, .istore_n 1, 1, 1, 0, 0, .inl 0, []) ::
  (45, .goto 81, 3, 126, 0, 0, .inl 0, []) :: s_X9_readLine_48) ls st μ := by rw [s_X9_readLine_32]
theorem v_X9_readLine_32 : vc X P m_X9_readLine h K k_X9_readLine S (n + 1) 32 ls st μ = if 32 ∈ S then mAt X m_X9_readLine h K 32 ls st μ else bb X P m_X9_readLine h K (vc X P m_X9_readLine h K k_X9_readLine S n) s_X9_readLine_32 ls st μ := by rw [vc_s, t_X9_readLine_32]
theorem w_X9_readLine_48 : bb X P m_X9_readLine h K J s_X9_readLine_48 ls st μ = bb X P m_X9_readLine h K J ((48, .aload_n 0, 1, 0, 0, 0, .inl 0, []) ::
  (49, .iconst 3, 1, 0, 0, 0, .inl (nI 3), []) ::
  (50, .invokevirtual 189, 3, 189, 2, 1, .inl 0, [1381, 8]) ::
  (53, .ifCond .eq 15, 3, 68, 0, 0, .inl 0, []) ::
  (56, .aload_n 0, 1, 0, 0, 0, .inl 0, []) ::
  (57, .sipush 182, 3, 0, 0, 0, .inl (nI 182), []) ::
  (60, .iconst 4, 1, 0, 0, 0, .inl (nI 4), []) ::
  (61, .invokevirtual 201, 3, 232, 3, 1, .inl 0, [1440, 8]) ::
  (64, .istore_n 1, 1, 1, 0, 0, .inl 0, []) ::
  (65, .goto 61, 3, 126, 0, 0, .inl 0, []) :: s_X9_readLine_68) ls st μ := by rw [s_X9_readLine_48]
theorem v_X9_readLine_48 : vc X P m_X9_readLine h K k_X9_readLine S (n + 1) 48 ls st μ = if 48 ∈ S then mAt X m_X9_readLine h K 48 ls st μ else bb X P m_X9_readLine h K (vc X P m_X9_readLine h K k_X9_readLine S n) s_X9_readLine_48 ls st μ := by rw [vc_s, t_X9_readLine_48]
theorem w_X9_readLine_68 : bb X P m_X9_readLine h K J s_X9_readLine_68 ls st μ = bb X P m_X9_readLine h K J ((68, .aload_n 0, 1, 0, 0, 0, .inl 0, []) ::
  (69, .iconst 4, 1, 0, 0, 0, .inl (nI 4), []) ::
  (70, .invokevirtual 189, 3, 189, 2, 1, .inl 0, [1381, 8]) ::
  (73, .ifCond .eq 11, 3, 84, 0, 0, .inl 0, []) ::
  (76, .aload_n 0, 1, 0, 0, 0, .inl 0, []) ::
  (77, .invokevirtual 204, 3, 225, 1, 1, .inl 0, [1444, 8]) ::
  (80, .istore_n 1, 1, 1, 0, 0, .inl 0, []) ::
  (81, .goto 45, 3, 126, 0, 0, .inl 0, []) :: s_X9_readLine_84) ls st μ := by rw [s_X9_readLine_68]
theorem v_X9_readLine_68 : vc X P m_X9_readLine h K k_X9_readLine S (n + 1) 68 ls st μ = if 68 ∈ S then mAt X m_X9_readLine h K 68 ls st μ else bb X P m_X9_readLine h K (vc X P m_X9_readLine h K k_X9_readLine S n) s_X9_readLine_68 ls st μ := by rw [vc_s, t_X9_readLine_68]
theorem w_X9_readLine_84 : bb X P m_X9_readLine h K J s_X9_readLine_84 ls st μ = bb X P m_X9_readLine h K J ((84, .aload_n 0, 1, 0, 0, 0, .inl 0, []) ::
  (85, .iconst 5, 1, 0, 0, 0, .inl (nI 5), []) ::
  (86, .invokevirtual 189, 3, 189, 2, 1, .inl 0, [1381, 8]) ::
  (89, .ifCond .eq 15, 3, 104, 0, 0, .inl 0, []) ::
  (92, .aload_n 0, 1, 0, 0, 0, .inl 0, []) ::
  (93, .sipush 230, 3, 0, 0, 0, .inl (nI 230), []) ::
  (96, .iconst 5, 1, 0, 0, 0, .inl (nI 5), []) ::
  (97, .invokevirtual 201, 3, 232, 3, 1, .inl 0, [1440, 8]) ::
  (100, .istore_n 1, 1, 1, 0, 0, .inl 0, []) ::
  (101, .goto 25, 3, 126, 0, 0, .inl 0, []) :: s_X9_readLine_104) ls st μ := by rw [s_X9_readLine_84]
theorem v_X9_readLine_84 : vc X P m_X9_readLine h K k_X9_readLine S (n + 1) 84 ls st μ = if 84 ∈ S then mAt X m_X9_readLine h K 84 ls st μ else bb X P m_X9_readLine h K (vc X P m_X9_readLine h K k_X9_readLine S n) s_X9_readLine_84 ls st μ := by rw [vc_s, t_X9_readLine_84]
theorem w_X9_readLine_104 : bb X P m_X9_readLine h K J s_X9_readLine_104 ls st μ = bb X P m_X9_readLine h K J ((104, .aload_n 0, 1, 0, 0, 0, .inl 0, []) ::
  (105, .bipush 6, 2, 0, 0, 0, .inl (nI 6), []) ::
  (107, .invokevirtual 189, 3, 189, 2, 1, .inl 0, [1381, 8]) ::
  (110, .ifCond .eq 10, 3, 120, 0, 0, .inl 0, []) ::
  (113, .aload_n 0, 1, 0, 0, 0, .inl 0, []) ::
  (114, .invokevirtual 207, 3, 223, 1, 1, .inl 0, [1448, 8]) ::
  (117, .goto 8, 3, 125, 0, 0, .inl 0, []) :: s_X9_readLine_120) ls st μ := by rw [s_X9_readLine_104]
theorem v_X9_readLine_104 : vc X P m_X9_readLine h K k_X9_readLine S (n + 1) 104 ls st μ = if 104 ∈ S then mAt X m_X9_readLine h K 104 ls st μ else bb X P m_X9_readLine h K (vc X P m_X9_readLine h K k_X9_readLine S n) s_X9_readLine_104 ls st μ := by rw [vc_s, t_X9_readLine_104]
theorem w_X9_readLine_120 : bb X P m_X9_readLine h K J s_X9_readLine_120 ls st μ = bb X P m_X9_readLine h K J ((120, .aload_n 0, 1, 0, 0, 0, .inl 0, []) ::
  (121, .iconst 1, 1, 0, 0, 0, .inl (nI 1), []) ::
  (122, .invokevirtual 140, 3, 140, 2, 1, .inl 0, [1395, 8]) :: s_X9_readLine_125) ls st μ := by rw [s_X9_readLine_120]
theorem v_X9_readLine_120 : vc X P m_X9_readLine h K k_X9_readLine S (n + 1) 120 ls st μ = if 120 ∈ S then mAt X m_X9_readLine h K 120 ls st μ else bb X P m_X9_readLine h K (vc X P m_X9_readLine h K k_X9_readLine S n) s_X9_readLine_120 ls st μ := by rw [vc_s, t_X9_readLine_120]
theorem w_X9_readLine_125 : bb X P m_X9_readLine h K J s_X9_readLine_125 ls st μ = bb X P m_X9_readLine h K J ((125, .istore_n 1, 1, 1, 0, 0, .inl 0, []) :: s_X9_readLine_126) ls st μ := by rw [s_X9_readLine_125]
theorem v_X9_readLine_125 : vc X P m_X9_readLine h K k_X9_readLine S (n + 1) 125 ls st μ = if 125 ∈ S then mAt X m_X9_readLine h K 125 ls st μ else bb X P m_X9_readLine h K (vc X P m_X9_readLine h K k_X9_readLine S n) s_X9_readLine_125 ls st μ := by rw [vc_s, t_X9_readLine_125]
theorem w_X9_readLine_126 : bb X P m_X9_readLine h K J s_X9_readLine_126 ls st μ = bb X P m_X9_readLine h K J ((126, .iload_n 1, 1, 1, 0, 0, .inl 0, []) ::
  (127, .ifCond .eq 14, 3, 141, 0, 0, .inl 0, []) ::
  (130, .aload_n 0, 1, 0, 0, 0, .inl 0, []) ::
  (131, .invokevirtual 210, 3, 221, 1, 1, .inl 0, [1452, 8]) ::
  (134, .ifCond .eq 7, 3, 141, 0, 0, .inl 0, []) ::
  (137, .iconst 1, 1, 0, 0, 0, .inl (nI 1), []) ::
  (138, .goto 4, 3, 142, 0, 0, .inl 0, []) :: s_X9_readLine_141) ls st μ := by rw [s_X9_readLine_126]
theorem v_X9_readLine_126 : vc X P m_X9_readLine h K k_X9_readLine S (n + 1) 126 ls st μ = if 126 ∈ S then mAt X m_X9_readLine h K 126 ls st μ else bb X P m_X9_readLine h K (vc X P m_X9_readLine h K k_X9_readLine S n) s_X9_readLine_126 ls st μ := by rw [vc_s, t_X9_readLine_126]
theorem w_X9_readLine_141 : bb X P m_X9_readLine h K J s_X9_readLine_141 ls st μ = bb X P m_X9_readLine h K J ((141, .iconst 0, 1, 0, 0, 0, .inl (nI 0), []) :: s_X9_readLine_142) ls st μ := by rw [s_X9_readLine_141]
theorem v_X9_readLine_141 : vc X P m_X9_readLine h K k_X9_readLine S (n + 1) 141 ls st μ = if 141 ∈ S then mAt X m_X9_readLine h K 141 ls st μ else bb X P m_X9_readLine h K (vc X P m_X9_readLine h K k_X9_readLine S n) s_X9_readLine_141 ls st μ := by rw [vc_s, t_X9_readLine_141]
theorem w_X9_readLine_142 : bb X P m_X9_readLine h K J s_X9_readLine_142 ls st μ = bb X P m_X9_readLine h K J ((142, .ireturn, 1, 1, 0, 0, .inl 0, []) :: []) ls st μ := by rw [s_X9_readLine_142]
theorem v_X9_readLine_142 : vc X P m_X9_readLine h K k_X9_readLine S (n + 1) 142 ls st μ = if 142 ∈ S then mAt X m_X9_readLine h K 142 ls st μ else bb X P m_X9_readLine h K (vc X P m_X9_readLine h K k_X9_readLine S n) s_X9_readLine_142 ls st μ := by rw [vc_s, t_X9_readLine_142]
end
section
variable {X : mC} {P : mP} {h : Nat} {K : MV → Mem → Prop} {J : mJ} {ls : List (Nat × MV)} {st : List MV} {μ : Mem} {S : List Nat} {n : Nat}
theorem w_X9_readMakes_0 : bb X P m_X9_readMakes h K J s_X9_readMakes_0 ls st μ = bb X P m_X9_readMakes h K J ((0, .aload_n 0, 1, 0, 0, 0, .inl 0, []) ::
  (1, .invokevirtual 150, 3, 162, 1, 0, .inl 0, [1361, 8]) ::
  (4, .aload_n 0, 1, 0, 0, 0, .inl 0, []) ::
  (5, .aload_n 0, 1, 0, 0, 0, .inl 0, []) ::
  (6, .getfield 29, 3, 8, 19, 3, .inr (.inr (17, 14, 7)), [1215]) ::
  (9, .aload_n 0, 1, 0, 0, 0, .inl 0, []) ::
  (10, .getfield 16, 3, 8, 15, 3, .inr (.inr (16, 278, 3)), [1211]) ::
  (13, .invokevirtual 175, 3, 187, 3, 1, .inl 0, [1429, 8]) ::
  (16, .ifCond .ne 5, 3, 21, 0, 0, .inl 0, []) ::
  (19, .iconst 0, 1, 0, 0, 0, .inl (nI 0), []) ::
  (20, .ireturn, 1, 1, 0, 0, .inl 0, []) :: s_X9_readMakes_21) ls st μ := by rw [s_X9_readMakes_0]
theorem v_X9_readMakes_0 : vc X P m_X9_readMakes h K k_X9_readMakes S (n + 1) 0 ls st μ = if 0 ∈ S then mAt X m_X9_readMakes h K 0 ls st μ else bb X P m_X9_readMakes h K (vc X P m_X9_readMakes h K k_X9_readMakes S n) s_X9_readMakes_0 ls st μ := by rw [vc_s, t_X9_readMakes_0]
theorem w_X9_readMakes_21 : bb X P m_X9_readMakes h K J s_X9_readMakes_21 ls st μ = bb X P m_X9_readMakes h K J ((21, .aload_n 0, 1, 0, 0, 0, .inl 0, []) ::
  (22, .getfield 147, 3, 8, 13, 0, .inl 0, [1209]) ::
  (25, .istore_n 1, 1, 1, 0, 0, .inl 0, []) ::
  (26, .aload_n 0, 1, 0, 0, 0, .inl 0, []) ::
  (27, .getfield 16, 3, 8, 15, 3, .inr (.inr (16, 278, 3)), [1211]) ::
  (30, .bipush 30, 2, 0, 0, 0, .inl (nI 30), []) ::
  (32, .iload_n 1, 1, 1, 0, 0, .inl 0, []) ::
  (33, .iadd, 1, 0, 0, 0, .inl 0, []) ::
  (34, .iaload, 1, 0, 0, 0, .inl 0, []) ::
  (35, .ifCond .le 9, 3, 44, 0, 0, .inl 0, []) ::
  (38, .aload_n 0, 1, 0, 0, 0, .inl 0, []) ::
  (39, .iconst 3, 1, 0, 0, 0, .inl (nI 3), []) ::
  (40, .invokevirtual 140, 3, 140, 2, 1, .inl 0, [1395, 8]) ::
  (43, .ireturn, 1, 1, 0, 0, .inl 0, []) :: s_X9_readMakes_44) ls st μ := by rw [s_X9_readMakes_21]
theorem v_X9_readMakes_21 : vc X P m_X9_readMakes h K k_X9_readMakes S (n + 1) 21 ls st μ = if 21 ∈ S then mAt X m_X9_readMakes h K 21 ls st μ else bb X P m_X9_readMakes h K (vc X P m_X9_readMakes h K k_X9_readMakes S n) s_X9_readMakes_21 ls st μ := by rw [vc_s, t_X9_readMakes_21]
theorem w_X9_readMakes_44 : bb X P m_X9_readMakes h K J s_X9_readMakes_44 ls st μ = bb X P m_X9_readMakes h K J ((44, .aload_n 0, 1, 0, 0, 0, .inl 0, []) ::
  (45, .invokevirtual 150, 3, 162, 1, 0, .inl 0, [1361, 8]) ::
  (48, .aload_n 0, 1, 0, 0, 0, .inl 0, []) ::
  (49, .iconst 1, 1, 0, 0, 0, .inl (nI 1), []) ::
  (50, .bipush 99, 2, 0, 0, 0, .inl (nI 99), []) ::
  (52, .invokevirtual 171, 3, 229, 3, 1, .inl 0, [1410, 8]) ::
  (55, .ifCond .ne 5, 3, 60, 0, 0, .inl 0, []) ::
  (58, .iconst 0, 1, 0, 0, 0, .inl (nI 0), []) ::
  (59, .ireturn, 1, 1, 0, 0, .inl 0, []) :: s_X9_readMakes_60) ls st μ := by rw [s_X9_readMakes_44]
theorem v_X9_readMakes_44 : vc X P m_X9_readMakes h K k_X9_readMakes S (n + 1) 44 ls st μ = if 44 ∈ S then mAt X m_X9_readMakes h K 44 ls st μ else bb X P m_X9_readMakes h K (vc X P m_X9_readMakes h K k_X9_readMakes S n) s_X9_readMakes_44 ls st μ := by rw [vc_s, t_X9_readMakes_44]
theorem w_X9_readMakes_60 : bb X P m_X9_readMakes h K J s_X9_readMakes_60 ls st μ = bb X P m_X9_readMakes h K J ((60, .aload_n 0, 1, 0, 0, 0, .inl 0, []) ::
  (61, .getfield 16, 3, 8, 15, 3, .inr (.inr (16, 278, 3)), [1211]) ::
  (64, .bipush 30, 2, 0, 0, 0, .inl (nI 30), []) ::
  (66, .iload_n 1, 1, 1, 0, 0, .inl 0, []) ::
  (67, .iadd, 1, 0, 0, 0, .inl 0, []) ::
  (68, .aload_n 0, 1, 0, 0, 0, .inl 0, []) ::
  (69, .getfield 147, 3, 8, 13, 0, .inl 0, [1209]) ::
  (72, .iastore, 1, 0, 0, 0, .inl 0, []) ::
  (73, .iconst 1, 1, 0, 0, 0, .inl (nI 1), []) ::
  (74, .ireturn, 1, 1, 0, 0, .inl 0, []) :: []) ls st μ := by rw [s_X9_readMakes_60]
theorem v_X9_readMakes_60 : vc X P m_X9_readMakes h K k_X9_readMakes S (n + 1) 60 ls st μ = if 60 ∈ S then mAt X m_X9_readMakes h K 60 ls st μ else bb X P m_X9_readMakes h K (vc X P m_X9_readMakes h K k_X9_readMakes S n) s_X9_readMakes_60 ls st μ := by rw [vc_s, t_X9_readMakes_60]
end
section
variable {X : mC} {P : mP} {h : Nat} {K : MV → Mem → Prop} {J : mJ} {ls : List (Nat × MV)} {st : List MV} {μ : Mem} {S : List Nat} {n : Nat}
theorem w_X9_readNamed_0 : bb X P m_X9_readNamed h K J s_X9_readNamed_0 ls st μ = bb X P m_X9_readNamed h K J ((0, .iload_n 1, 1, 1, 0, 0, .inl 0, []) ::
  (1, .bipush 14, 2, 0, 0, 0, .inl (nI 14), []) ::
  (3, .if_icmp .ne 21, 3, 24, 0, 0, .inl 0, []) ::
  (6, .aload_n 0, 1, 0, 0, 0, .inl 0, []) ::
  (7, .aload_n 0, 1, 0, 0, 0, .inl 0, []) ::
  (8, .getfield 25, 3, 8, 18, 3, .inr (.inr (17, 14, 6)), [1214]) ::
  (11, .aload_n 0, 1, 0, 0, 0, .inl 0, []) ::
  (12, .getfield 13, 3, 8, 14, 3, .inr (.inr (16, 925, 2)), [1210]) ::
  (15, .invokevirtual 175, 3, 187, 3, 1, .inl 0, [1429, 8]) ::
  (18, .ifCond .eq 21, 3, 39, 0, 0, .inl 0, []) ::
  (21, .goto 20, 3, 41, 0, 0, .inl 0, []) :: s_X9_readNamed_24) ls st μ := by rw [s_X9_readNamed_0]
theorem v_X9_readNamed_0 : vc X P m_X9_readNamed h K k_X9_readNamed S (n + 1) 0 ls st μ = if 0 ∈ S then mAt X m_X9_readNamed h K 0 ls st μ else bb X P m_X9_readNamed h K (vc X P m_X9_readNamed h K k_X9_readNamed S n) s_X9_readNamed_0 ls st μ := by rw [vc_s, t_X9_readNamed_0]
theorem w_X9_readNamed_24 : bb X P m_X9_readNamed h K J s_X9_readNamed_24 ls st μ = bb X P m_X9_readNamed h K J ((24, .aload_n 0, 1, 0, 0, 0, .inl 0, []) ::
  (25, .aload_n 0, 1, 0, 0, 0, .inl 0, []) ::
  (26, .getfield 25, 3, 8, 18, 3, .inr (.inr (17, 14, 6)), [1214]) ::
  (29, .aload_n 0, 1, 0, 0, 0, .inl 0, []) ::
  (30, .getfield 13, 3, 8, 14, 3, .inr (.inr (16, 925, 2)), [1210]) ::
  (33, .invokevirtual 179, 3, 186, 3, 1, .inl 0, [1433, 8]) ::
  (36, .ifCond .ne 5, 3, 41, 0, 0, .inl 0, []) :: s_X9_readNamed_39) ls st μ := by rw [s_X9_readNamed_24]
theorem v_X9_readNamed_24 : vc X P m_X9_readNamed h K k_X9_readNamed S (n + 1) 24 ls st μ = if 24 ∈ S then mAt X m_X9_readNamed h K 24 ls st μ else bb X P m_X9_readNamed h K (vc X P m_X9_readNamed h K k_X9_readNamed S n) s_X9_readNamed_24 ls st μ := by rw [vc_s, t_X9_readNamed_24]
theorem w_X9_readNamed_39 : bb X P m_X9_readNamed h K J s_X9_readNamed_39 ls st μ = bb X P m_X9_readNamed h K J ((39, .iconst 0, 1, 0, 0, 0, .inl (nI 0), []) ::
  (40, .ireturn, 1, 1, 0, 0, .inl 0, []) :: s_X9_readNamed_41) ls st μ := by rw [s_X9_readNamed_39]
theorem v_X9_readNamed_39 : vc X P m_X9_readNamed h K k_X9_readNamed S (n + 1) 39 ls st μ = if 39 ∈ S then mAt X m_X9_readNamed h K 39 ls st μ else bb X P m_X9_readNamed h K (vc X P m_X9_readNamed h K k_X9_readNamed S n) s_X9_readNamed_39 ls st μ := by rw [vc_s, t_X9_readNamed_39]
theorem w_X9_readNamed_41 : bb X P m_X9_readNamed h K J s_X9_readNamed_41 ls st μ = bb X P m_X9_readNamed h K J ((41, .aload_n 0, 1, 0, 0, 0, .inl 0, []) ::
  (42, .aload_n 0, 1, 0, 0, 0, .inl 0, []) ::
  (43, .bipush 50, 2, 0, 0, 0, .inl (nI 50), []) ::
  (45, .iload_n 1, 1, 1, 0, 0, .inl 0, []) ::
  (46, .iadd, 1, 0, 0, 0, .inl 0, []) ::
  (47, .aload_n 0, 1, 0, 0, 0, .inl 0, []) ::
  (48, .getfield 147, 3, 8, 13, 0, .inl 0, [1209]) ::
  (51, .iconst 0, 1, 0, 0, 0, .inl (nI 0), []) ::
  (52, .iconst 0, 1, 0, 0, 0, .inl (nI 0), []) ::
  (53, .invokevirtual 371, 3, 198, 5, 1, .inl 0, [1775, 8]) ::
  (56, .putfield 368, 3, 8, 44, 0, .inl 0, [1240]) ::
  (59, .aload_n 0, 1, 0, 0, 0, .inl 0, []) ::
  (60, .invokevirtual 150, 3, 162, 1, 0, .inl 0, [1361, 8]) ::
  (63, .iconst 1, 1, 0, 0, 0, .inl (nI 1), []) ::
  (64, .ireturn, 1, 1, 0, 0, .inl 0, []) :: []) ls st μ := by rw [s_X9_readNamed_41]
theorem v_X9_readNamed_41 : vc X P m_X9_readNamed h K k_X9_readNamed S (n + 1) 41 ls st μ = if 41 ∈ S then mAt X m_X9_readNamed h K 41 ls st μ else bb X P m_X9_readNamed h K (vc X P m_X9_readNamed h K k_X9_readNamed S n) s_X9_readNamed_41 ls st μ := by rw [vc_s, t_X9_readNamed_41]
end
section
variable {X : mC} {P : mP} {h : Nat} {K : MV → Mem → Prop} {J : mJ} {ls : List (Nat × MV)} {st : List MV} {μ : Mem} {S : List Nat} {n : Nat}
theorem w_X9_readNew_0 : bb X P m_X9_readNew h K J s_X9_readNew_0 ls st μ = bb X P m_X9_readNew h K J ((0, .aload_n 0, 1, 0, 0, 0, .inl 0, []) ::
  (1, .invokevirtual 160, 3, 179, 1, 1, .inl 0, [1403, 8]) ::
  (4, .ifCond .ne 9, 3, 13, 0, 0, .inl 0, []) ::
  (7, .aload_n 0, 1, 0, 0, 0, .inl 0, []) ::
  (8, .iconst 1, 1, 0, 0, 0, .inl (nI 1), []) ::
  (9, .invokevirtual 140, 3, 140, 2, 1, .inl 0, [1395, 8]) ::
  (12, .ireturn, 1, 1, 0, 0, .inl 0, []) :: s_X9_readNew_13) ls st μ := by rw [s_X9_readNew_0]
theorem v_X9_readNew_0 : vc X P m_X9_readNew h K k_X9_readNew S (n + 1) 0 ls st μ = if 0 ∈ S then mAt X m_X9_readNew h K 0 ls st μ else bb X P m_X9_readNew h K (vc X P m_X9_readNew h K k_X9_readNew S n) s_X9_readNew_0 ls st μ := by rw [vc_s, t_X9_readNew_0]
theorem w_X9_readNew_13 : bb X P m_X9_readNew h K J s_X9_readNew_13 ls st μ = bb X P m_X9_readNew h K J ((13, .aload_n 0, 1, 0, 0, 0, .inl 0, []) ::
  (14, .getfield 29, 3, 8, 19, 3, .inr (.inr (17, 14, 7)), [1215]) ::
  (17, .iconst 0, 1, 0, 0, 0, .inl (nI 0), []) ::
  (18, .aload_n 0, 1, 0, 0, 0, .inl 0, []) ::
  (19, .getfield 16, 3, 8, 15, 3, .inr (.inr (16, 278, 3)), [1211]) ::
  (22, .iconst 0, 1, 0, 0, 0, .inl (nI 0), []) ::
  (23, .iaload, 1, 0, 0, 0, .inl 0, []) ::
  (24, .aload_n 0, 1, 0, 0, 0, .inl 0, []) ::
  (25, .getfield 111, 3, 8, 12, 1, .inl 0, [1208]) ::
  (28, .invokestatic 164, 3, 161, 4, 1, .inl 0, [1407]) ::
  (31, .iconst (-1), 1, 0, 0, 0, .inl (-1), []) ::
  (32, .if_icmp .ne 26, 3, 58, 0, 0, .inl 0, []) ::
  (35, .aload_n 0, 1, 0, 0, 0, .inl 0, []) ::
  (36, .getfield 29, 3, 8, 19, 3, .inr (.inr (17, 14, 7)), [1215]) ::
  (39, .bipush 6, 2, 0, 0, 0, .inl (nI 6), []) ::
  (41, .aload_n 0, 1, 0, 0, 0, .inl 0, []) ::
  (42, .getfield 16, 3, 8, 15, 3, .inr (.inr (16, 278, 3)), [1211]) ::
  (45, .iconst 1, 1, 0, 0, 0, .inl (nI 1), []) ::
  (46, .iaload, 1, 0, 0, 0, .inl 0, []) ::
  (47, .aload_n 0, 1, 0, 0, 0, .inl 0, []) ::
  (48, .getfield 111, 3, 8, 12, 1, .inl 0, [1208]) ::
  (51, .invokestatic 164, 3, 161, 4, 1, .inl 0, [1407]) ::
  (54, .iconst (-1), 1, 0, 0, 0, .inl (-1), []) ::
  (55, .if_icmp .eq 9, 3, 64, 0, 0, .inl 0, []) :: s_X9_readNew_58) ls st μ := by rw [s_X9_readNew_13]
theorem v_X9_readNew_13 : vc X P m_X9_readNew h K k_X9_readNew S (n + 1) 13 ls st μ = if 13 ∈ S then mAt X m_X9_readNew h K 13 ls st μ else bb X P m_X9_readNew h K (vc X P m_X9_readNew h K k_X9_readNew S n) s_X9_readNew_13 ls st μ := by rw [vc_s, t_X9_readNew_13]
theorem w_X9_readNew_58 : bb X P m_X9_readNew h K J s_X9_readNew_58 ls st μ = bb X P m_X9_readNew h K J ((58, .aload_n 0, 1, 0, 0, 0, .inl 0, []) ::
  (59, .iconst 3, 1, 0, 0, 0, .inl (nI 3), []) ::
  (60, .invokevirtual 140, 3, 140, 2, 1, .inl 0, [1395, 8]) ::
  (63, .ireturn, 1, 1, 0, 0, .inl 0, []) :: s_X9_readNew_64) ls st μ := by rw [s_X9_readNew_58]
theorem v_X9_readNew_58 : vc X P m_X9_readNew h K k_X9_readNew S (n + 1) 58 ls st μ = if 58 ∈ S then mAt X m_X9_readNew h K 58 ls st μ else bb X P m_X9_readNew h K (vc X P m_X9_readNew h K k_X9_readNew S n) s_X9_readNew_58 ls st μ := by rw [vc_s, t_X9_readNew_58]
theorem w_X9_readNew_64 : bb X P m_X9_readNew h K J s_X9_readNew_64 ls st μ = bb X P m_X9_readNew h K J ((64, .aload_n 0, 1, 0, 0, 0, .inl 0, []) ::
  (65, .getfield 29, 3, 8, 19, 3, .inr (.inr (17, 14, 7)), [1215]) ::
  (68, .iload_n 1, 1, 1, 0, 0, .inl 0, []) ::
  (69, .aload_n 0, 1, 0, 0, 0, .inl 0, []) ::
  (70, .getfield 111, 3, 8, 12, 1, .inl 0, [1208]) ::
  (73, .lastore, 1, 0, 0, 0, .inl 0, []) ::
  (74, .aload_n 0, 1, 0, 0, 0, .inl 0, []) ::
  (75, .invokevirtual 150, 3, 162, 1, 0, .inl 0, [1361, 8]) ::
  (78, .iconst 1, 1, 0, 0, 0, .inl (nI 1), []) ::
  (79, .ireturn, 1, 1, 0, 0, .inl 0, []) :: []) ls st μ := by rw [s_X9_readNew_64]
theorem v_X9_readNew_64 : vc X P m_X9_readNew h K k_X9_readNew S (n + 1) 64 ls st μ = if 64 ∈ S then mAt X m_X9_readNew h K 64 ls st μ else bb X P m_X9_readNew h K (vc X P m_X9_readNew h K k_X9_readNew S n) s_X9_readNew_64 ls st μ := by rw [vc_s, t_X9_readNew_64]
end
section
variable {X : mC} {P : mP} {h : Nat} {K : MV → Mem → Prop} {J : mJ} {ls : List (Nat × MV)} {st : List MV} {μ : Mem} {S : List Nat} {n : Nat}
theorem w_X9_readNot_0 : bb X P m_X9_readNot h K J s_X9_readNot_0 ls st μ = bb X P m_X9_readNot h K J ((0, .aload_n 0, 1, 0, 0, 0, .inl 0, []) ::
  (1, .invokevirtual 375, 3, 230, 1, 1, .inl 0, [1763, 8]) ::
  (4, .ifCond .ne 5, 3, 9, 0, 0, .inl 0, []) ::
  (7, .iconst 0, 1, 0, 0, 0, .inl (nI 0), []) ::
  (8, .ireturn, 1, 1, 0, 0, .inl 0, []) :: s_X9_readNot_9) ls st μ := by rw [s_X9_readNot_0]
theorem v_X9_readNot_0 : vc X P m_X9_readNot h K k_X9_readNot S (n + 1) 0 ls st μ = if 0 ∈ S then mAt X m_X9_readNot h K 0 ls st μ else bb X P m_X9_readNot h K (vc X P m_X9_readNot h K k_X9_readNot S n) s_X9_readNot_0 ls st μ := by rw [vc_s, t_X9_readNot_0]
theorem w_X9_readNot_9 : bb X P m_X9_readNot h K J s_X9_readNot_9 ls st μ = bb X P m_X9_readNot h K J ((9, .aload_n 0, 1, 0, 0, 0, .inl 0, []) ::
  (10, .aload_n 0, 1, 0, 0, 0, .inl 0, []) ::
  (11, .iconst 1, 1, 0, 0, 0, .inl (nI 1), []) ::
  (12, .aload_n 0, 1, 0, 0, 0, .inl 0, []) ::
  (13, .getfield 368, 3, 8, 44, 0, .inl 0, [1240]) ::
  (16, .iconst 0, 1, 0, 0, 0, .inl (nI 0), []) ::
  (17, .iconst 0, 1, 0, 0, 0, .inl (nI 0), []) ::
  (18, .invokevirtual 371, 3, 198, 5, 1, .inl 0, [1775, 8]) ::
  (21, .putfield 368, 3, 8, 44, 0, .inl 0, [1240]) ::
  (24, .iconst 1, 1, 0, 0, 0, .inl (nI 1), []) ::
  (25, .ireturn, 1, 1, 0, 0, .inl 0, []) :: []) ls st μ := by rw [s_X9_readNot_9]
theorem v_X9_readNot_9 : vc X P m_X9_readNot h K k_X9_readNot S (n + 1) 9 ls st μ = if 9 ∈ S then mAt X m_X9_readNot h K 9 ls st μ else bb X P m_X9_readNot h K (vc X P m_X9_readNot h K k_X9_readNot S n) s_X9_readNot_9 ls st μ := by rw [vc_s, t_X9_readNot_9]
end
section
variable {X : mC} {P : mP} {h : Nat} {K : MV → Mem → Prop} {J : mJ} {ls : List (Nat × MV)} {st : List MV} {μ : Mem} {S : List Nat} {n : Nat}
theorem w_X9_readNumber_0 : bb X P m_X9_readNumber h K J s_X9_readNumber_0 ls st μ = bb X P m_X9_readNumber h K J ((0, .aload_n 0, 1, 0, 0, 0, .inl 0, []) ::
  (1, .getfield 98, 3, 8, 7, 0, .inl 0, [1203]) ::
  (4, .iconst 3, 1, 0, 0, 0, .inl (nI 3), []) ::
  (5, .if_icmp .eq 9, 3, 14, 0, 0, .inl 0, []) ::
  (8, .aload_n 0, 1, 0, 0, 0, .inl 0, []) ::
  (9, .iconst 1, 1, 0, 0, 0, .inl (nI 1), []) ::
  (10, .invokevirtual 140, 3, 140, 2, 1, .inl 0, [1395, 8]) ::
  (13, .ireturn, 1, 1, 0, 0, .inl 0, []) :: s_X9_readNumber_14) ls st μ := by rw [s_X9_readNumber_0]
theorem v_X9_readNumber_0 : vc X P m_X9_readNumber h K k_X9_readNumber S (n + 1) 0 ls st μ = if 0 ∈ S then mAt X m_X9_readNumber h K 0 ls st μ else bb X P m_X9_readNumber h K (vc X P m_X9_readNumber h K k_X9_readNumber S n) s_X9_readNumber_0 ls st μ := by rw [vc_s, t_X9_readNumber_0]
theorem w_X9_readNumber_14 : bb X P m_X9_readNumber h K J s_X9_readNumber_14 ls st μ = bb X P m_X9_readNumber h K J ((14, .aload_n 0, 1, 0, 0, 0, .inl 0, []) ::
  (15, .getfield 115, 3, 8, 8, 0, .inl 0, [1204]) ::
  (18, .iload_n 1, 1, 1, 0, 0, .inl 0, []) ::
  (19, .iload_n 2, 1, 2, 0, 0, .inl 0, []) ::
  (20, .invokestatic 143, 3, 177, 3, 1, .inl 0, [1414]) ::
  (23, .ifCond .ne 9, 3, 32, 0, 0, .inl 0, []) ::
  (26, .aload_n 0, 1, 0, 0, 0, .inl 0, []) ::
  (27, .iconst 2, 1, 0, 0, 0, .inl (nI 2), []) ::
  (28, .invokevirtual 140, 3, 140, 2, 1, .inl 0, [1395, 8]) ::
  (31, .ireturn, 1, 1, 0, 0, .inl 0, []) :: s_X9_readNumber_32) ls st μ := by rw [s_X9_readNumber_14]
theorem v_X9_readNumber_14 : vc X P m_X9_readNumber h K k_X9_readNumber S (n + 1) 14 ls st μ = if 14 ∈ S then mAt X m_X9_readNumber h K 14 ls st μ else bb X P m_X9_readNumber h K (vc X P m_X9_readNumber h K k_X9_readNumber S n) s_X9_readNumber_14 ls st μ := by rw [vc_s, t_X9_readNumber_14]
theorem w_X9_readNumber_32 : bb X P m_X9_readNumber h K J s_X9_readNumber_32 ls st μ = bb X P m_X9_readNumber h K J ((32, .aload_n 0, 1, 0, 0, 0, .inl 0, []) ::
  (33, .aload_n 0, 1, 0, 0, 0, .inl 0, []) ::
  (34, .getfield 115, 3, 8, 8, 0, .inl 0, [1204]) ::
  (37, .putfield 147, 3, 8, 13, 0, .inl 0, [1209]) ::
  (40, .aload_n 0, 1, 0, 0, 0, .inl 0, []) ::
  (41, .invokevirtual 150, 3, 162, 1, 0, .inl 0, [1361, 8]) ::
  (44, .iconst 1, 1, 0, 0, 0, .inl (nI 1), []) ::
  (45, .ireturn, 1, 1, 0, 0, .inl 0, []) :: []) ls st μ := by rw [s_X9_readNumber_32]
theorem v_X9_readNumber_32 : vc X P m_X9_readNumber h K k_X9_readNumber S (n + 1) 32 ls st μ = if 32 ∈ S then mAt X m_X9_readNumber h K 32 ls st μ else bb X P m_X9_readNumber h K (vc X P m_X9_readNumber h K k_X9_readNumber S n) s_X9_readNumber_32 ls st μ := by rw [vc_s, t_X9_readNumber_32]
end
section
variable {X : mC} {P : mP} {h : Nat} {K : MV → Mem → Prop} {J : mJ} {ls : List (Nat × MV)} {st : List MV} {μ : Mem} {S : List Nat} {n : Nat}
theorem w_X9_readOne_0 : bb X P m_X9_readOne h K J s_X9_readOne_0 ls st μ = bb X P m_X9_readOne h K J ((0, .aload_n 0, 1, 0, 0, 0, .inl 0, []) ::
  (1, .bipush 40, 2, 0, 0, 0, .inl (nI 40), []) ::
  (3, .invokevirtual 153, 3, 182, 2, 1, .inl 0, [1456, 8]) ::
  (6, .istore_n 1, 1, 1, 0, 0, .inl 0, []) ::
  (7, .bipush 11, 2, 0, 0, 0, .inl (nI 11), []) ::
  (9, .istore_n 2, 1, 2, 0, 0, .inl 0, []) :: s_X9_readOne_10) ls st μ := by rw [s_X9_readOne_0]
theorem v_X9_readOne_0 : vc X P m_X9_readOne h K k_X9_readOne S (n + 1) 0 ls st μ = if 0 ∈ S then mAt X m_X9_readOne h K 0 ls st μ else bb X P m_X9_readOne h K (vc X P m_X9_readOne h K k_X9_readOne S n) s_X9_readOne_0 ls st μ := by rw [vc_s, t_X9_readOne_0]
theorem w_X9_readOne_10 : bb X P m_X9_readOne h K J s_X9_readOne_10 ls st μ = bb X P m_X9_readOne h K J ((10, .iload_n 2, 1, 2, 0, 0, .inl 0, []) ::
  (11, .bipush 18, 2, 0, 0, 0, .inl (nI 18), []) ::
  (13, .if_icmp .gt 17, 3, 30, 0, 0, .inl 0, []) ::
  (16, .aload_n 0, 1, 0, 0, 0, .inl 0, []) ::
  (17, .iload_n 2, 1, 2, 0, 0, .inl 0, []) ::
  (18, .invokevirtual 189, 3, 189, 2, 1, .inl 0, [1381, 8]) ::
  (21, .ifCond .ne 9, 3, 30, 0, 0, .inl 0, []) ::
  (24, .iinc 2 1, 3, 2, 0, 0, .inl (nI 1), []) ::
  (27, .goto (-17), 3, 10, 0, 0, .inl 0, []) :: s_X9_readOne_30) ls st μ := by rw [s_X9_readOne_10]
theorem v_X9_readOne_10 : vc X P m_X9_readOne h K k_X9_readOne S (n + 1) 10 ls st μ = if 10 ∈ S then mAt X m_X9_readOne h K 10 ls st μ else bb X P m_X9_readOne h K (vc X P m_X9_readOne h K k_X9_readOne S n) s_X9_readOne_10 ls st μ := by rw [vc_s, t_X9_readOne_10]
theorem w_X9_readOne_30 : bb X P m_X9_readOne h K J s_X9_readOne_30 ls st μ = bb X P m_X9_readOne h K J ((30, .iload_n 1, 1, 1, 0, 0, .inl 0, []) ::
  (31, .ifCond .ne 15, 3, 46, 0, 0, .inl 0, []) ::
  (34, .iload_n 2, 1, 2, 0, 0, .inl 0, []) ::
  (35, .bipush 18, 2, 0, 0, 0, .inl (nI 18), []) ::
  (37, .if_icmp .le 9, 3, 46, 0, 0, .inl 0, []) ::
  (40, .aload_n 0, 1, 0, 0, 0, .inl 0, []) ::
  (41, .iconst 1, 1, 0, 0, 0, .inl (nI 1), []) ::
  (42, .invokevirtual 140, 3, 140, 2, 1, .inl 0, [1395, 8]) ::
  (45, .ireturn, 1, 1, 0, 0, .inl 0, []) :: s_X9_readOne_46) ls st μ := by rw [s_X9_readOne_30]
theorem v_X9_readOne_30 : vc X P m_X9_readOne h K k_X9_readOne S (n + 1) 30 ls st μ = if 30 ∈ S then mAt X m_X9_readOne h K 30 ls st μ else bb X P m_X9_readOne h K (vc X P m_X9_readOne h K k_X9_readOne S n) s_X9_readOne_30 ls st μ := by rw [vc_s, t_X9_readOne_30]
theorem w_X9_readOne_46 : bb X P m_X9_readOne h K J s_X9_readOne_46 ls st μ = bb X P m_X9_readOne h K J ((46, .aload_n 0, 1, 0, 0, 0, .inl 0, []) ::
  (47, .getfield 378, 3, 8, 42, 0, .inl 0, [1238]) ::
  (50, .bipush 20, 2, 0, 0, 0, .inl (nI 20), []) ::
  (52, .if_icmp .eq 12, 3, 64, 0, 0, .inl 0, []) ::
  (55, .aload_n 0, 1, 0, 0, 0, .inl 0, []) ::
  (56, .getfield 381, 3, 8, 43, 0, .inl 0, [1239]) ::
  (59, .bipush 8, 2, 0, 0, 0, .inl (nI 8), []) ::
  (61, .if_icmp .ne 9, 3, 70, 0, 0, .inl 0, []) :: s_X9_readOne_64) ls st μ := by rw [s_X9_readOne_46]
theorem v_X9_readOne_46 : vc X P m_X9_readOne h K k_X9_readOne S (n + 1) 46 ls st μ = if 46 ∈ S then mAt X m_X9_readOne h K 46 ls st μ else bb X P m_X9_readOne h K (vc X P m_X9_readOne h K k_X9_readOne S n) s_X9_readOne_46 ls st μ := by rw [vc_s, t_X9_readOne_46]
theorem w_X9_readOne_64 : bb X P m_X9_readOne h K J s_X9_readOne_64 ls st μ = bb X P m_X9_readOne h K J ((64, .aload_n 0, 1, 0, 0, 0, .inl 0, []) ::
  (65, .iconst 4, 1, 0, 0, 0, .inl (nI 4), []) ::
  (66, .invokevirtual 140, 3, 140, 2, 1, .inl 0, [1395, 8]) ::
  (69, .ireturn, 1, 1, 0, 0, .inl 0, []) :: s_X9_readOne_70) ls st μ := by rw [s_X9_readOne_64]
theorem v_X9_readOne_64 : vc X P m_X9_readOne h K k_X9_readOne S (n + 1) 64 ls st μ = if 64 ∈ S then mAt X m_X9_readOne h K 64 ls st μ else bb X P m_X9_readOne h K (vc X P m_X9_readOne h K k_X9_readOne S n) s_X9_readOne_64 ls st μ := by rw [vc_s, t_X9_readOne_64]
theorem w_X9_readOne_70 : bb X P m_X9_readOne h K J s_X9_readOne_70 ls st μ = bb X P m_X9_readOne h K J ((70, .aload_n 0, 1, 0, 0, 0, .inl 0, []) ::
  (71, .dup, 1, 0, 0, 0, .inl 0, []) ::
  (72, .getfield 378, 3, 8, 42, 0, .inl 0, [1238]) ::
  (75, .iconst 1, 1, 0, 0, 0, .inl (nI 1), []) ::
  (76, .iadd, 1, 0, 0, 0, .inl 0, []) ::
  (77, .putfield 378, 3, 8, 42, 0, .inl 0, [1238]) ::
  (80, .aload_n 0, 1, 0, 0, 0, .inl 0, []) ::
  (81, .dup, 1, 0, 0, 0, .inl 0, []) ::
  (82, .getfield 381, 3, 8, 43, 0, .inl 0, [1239]) ::
  (85, .iconst 1, 1, 0, 0, 0, .inl (nI 1), []) ::
  (86, .iadd, 1, 0, 0, 0, .inl 0, []) ::
  (87, .putfield 381, 3, 8, 43, 0, .inl 0, [1239]) ::
  (90, .aload_n 0, 1, 0, 0, 0, .inl 0, []) ::
  (91, .invokevirtual 150, 3, 162, 1, 0, .inl 0, [1361, 8]) ::
  (94, .iload_n 1, 1, 1, 0, 0, .inl 0, []) ::
  (95, .ifCond .eq 10, 3, 105, 0, 0, .inl 0, []) ::
  (98, .aload_n 0, 1, 0, 0, 0, .inl 0, []) ::
  (99, .invokevirtual 384, 3, 218, 1, 1, .inl 0, [1767, 8]) ::
  (102, .goto 35, 3, 137, 0, 0, .inl 0, []) :: s_X9_readOne_105) ls st μ := by rw [s_X9_readOne_70]
theorem v_X9_readOne_70 : vc X P m_X9_readOne h K k_X9_readOne S (n + 1) 70 ls st μ = if 70 ∈ S then mAt X m_X9_readOne h K 70 ls st μ else bb X P m_X9_readOne h K (vc X P m_X9_readOne h K k_X9_readOne S n) s_X9_readOne_70 ls st μ := by rw [vc_s, t_X9_readOne_70]
theorem w_X9_readOne_105 : bb X P m_X9_readOne h K J s_X9_readOne_105 ls st μ = bb X P m_X9_readOne h K J ((105, .iload_n 2, 1, 2, 0, 0, .inl 0, []) ::
  (106, .bipush 11, 2, 0, 0, 0, .inl (nI 11), []) ::
  (108, .if_icmp .ne 10, 3, 118, 0, 0, .inl 0, []) ::
  (111, .aload_n 0, 1, 0, 0, 0, .inl 0, []) ::
  (112, .invokevirtual 387, 3, 228, 1, 1, .inl 0, [1771, 8]) ::
  (115, .goto 22, 3, 137, 0, 0, .inl 0, []) :: s_X9_readOne_118) ls st μ := by rw [s_X9_readOne_105]
theorem v_X9_readOne_105 : vc X P m_X9_readOne h K k_X9_readOne S (n + 1) 105 ls st μ = if 105 ∈ S then mAt X m_X9_readOne h K 105 ls st μ else bb X P m_X9_readOne h K (vc X P m_X9_readOne h K k_X9_readOne S n) s_X9_readOne_105 ls st μ := by rw [vc_s, t_X9_readOne_105]
theorem w_X9_readOne_118 : bb X P m_X9_readOne h K J s_X9_readOne_118 ls st μ = bb X P m_X9_readOne h K J ((118, .iload_n 2, 1, 2, 0, 0, .inl 0, []) ::
  (119, .bipush 15, 2, 0, 0, 0, .inl (nI 15), []) ::
  (121, .if_icmp .ge 11, 3, 132, 0, 0, .inl 0, []) ::
  (124, .aload_n 0, 1, 0, 0, 0, .inl 0, []) ::
  (125, .iload_n 2, 1, 2, 0, 0, .inl 0, []) ::
  (126, .invokevirtual 390, 3, 226, 2, 1, .inl 0, [1779, 8]) ::
  (129, .goto 8, 3, 137, 0, 0, .inl 0, []) :: s_X9_readOne_132) ls st μ := by rw [s_X9_readOne_118]
theorem v_X9_readOne_118 : vc X P m_X9_readOne h K k_X9_readOne S (n + 1) 118 ls st μ = if 118 ∈ S then mAt X m_X9_readOne h K 118 ls st μ else bb X P m_X9_readOne h K (vc X P m_X9_readOne h K k_X9_readOne S n) s_X9_readOne_118 ls st μ := by rw [vc_s, t_X9_readOne_118]
theorem w_X9_readOne_132 : bb X P m_X9_readOne h K J s_X9_readOne_132 ls st μ = bb X P m_X9_readOne h K J ((132, .aload_n 0, 1, 0, 0, 0, .inl 0, []) ::
  (133, .iload_n 2, 1, 2, 0, 0, .inl 0, []) ::
  (134, .invokevirtual 393, 3, 220, 2, 1, .inl 0, [1783, 8]) :: s_X9_readOne_137) ls st μ := by rw [s_X9_readOne_132]
theorem v_X9_readOne_132 : vc X P m_X9_readOne h K k_X9_readOne S (n + 1) 132 ls st μ = if 132 ∈ S then mAt X m_X9_readOne h K 132 ls st μ else bb X P m_X9_readOne h K (vc X P m_X9_readOne h K k_X9_readOne S n) s_X9_readOne_132 ls st μ := by rw [vc_s, t_X9_readOne_132]
theorem w_X9_readOne_137 : bb X P m_X9_readOne h K J s_X9_readOne_137 ls st μ = bb X P m_X9_readOne h K J ((137, .istore_n 3, 1, 3, 0, 0, .inl 0, []) ::
  (138, .aload_n 0, 1, 0, 0, 0, .inl 0, []) ::
  (139, .dup, 1, 0, 0, 0, .inl 0, []) ::
  (140, .getfield 381, 3, 8, 43, 0, .inl 0, [1239]) ::
  (143, .iconst 1, 1, 0, 0, 0, .inl (nI 1), []) ::
  (144, .isub, 1, 0, 0, 0, .inl 0, []) ::
  (145, .putfield 381, 3, 8, 43, 0, .inl 0, [1239]) ::
  (148, .iload_n 3, 1, 3, 0, 0, .inl 0, []) ::
  (149, .ireturn, 1, 1, 0, 0, .inl 0, []) :: []) ls st μ := by rw [s_X9_readOne_137]
theorem v_X9_readOne_137 : vc X P m_X9_readOne h K k_X9_readOne S (n + 1) 137 ls st μ = if 137 ∈ S then mAt X m_X9_readOne h K 137 ls st μ else bb X P m_X9_readOne h K (vc X P m_X9_readOne h K k_X9_readOne S n) s_X9_readOne_137 ls st μ := by rw [vc_s, t_X9_readOne_137]
end
section
variable {X : mC} {P : mP} {h : Nat} {K : MV → Mem → Prop} {J : mJ} {ls : List (Nat × MV)} {st : List MV} {μ : Mem} {S : List Nat} {n : Nat}
theorem w_X9_readOr_0 : bb X P m_X9_readOr h K J s_X9_readOr_0 ls st μ = bb X P m_X9_readOr h K J ((0, .aload_n 0, 1, 0, 0, 0, .inl 0, []) ::
  (1, .invokevirtual 365, 3, 217, 1, 1, .inl 0, [1759, 8]) ::
  (4, .ifCond .ne 5, 3, 9, 0, 0, .inl 0, []) ::
  (7, .iconst 0, 1, 0, 0, 0, .inl (nI 0), []) ::
  (8, .ireturn, 1, 1, 0, 0, .inl 0, []) :: s_X9_readOr_9) ls st μ := by rw [s_X9_readOr_0]
theorem v_X9_readOr_0 : vc X P m_X9_readOr h K k_X9_readOr S (n + 1) 0 ls st μ = if 0 ∈ S then mAt X m_X9_readOr h K 0 ls st μ else bb X P m_X9_readOr h K (vc X P m_X9_readOr h K k_X9_readOr S n) s_X9_readOr_0 ls st μ := by rw [vc_s, t_X9_readOr_0]
theorem w_X9_readOr_9 : bb X P m_X9_readOr h K J s_X9_readOr_9 ls st μ = bb X P m_X9_readOr h K J ((9, .aload_n 0, 1, 0, 0, 0, .inl 0, []) ::
  (10, .getfield 368, 3, 8, 44, 0, .inl 0, [1240]) ::
  (13, .istore_n 1, 1, 1, 0, 0, .inl 0, []) :: s_X9_readOr_14) ls st μ := by rw [s_X9_readOr_9]
theorem v_X9_readOr_9 : vc X P m_X9_readOr h K k_X9_readOr S (n + 1) 9 ls st μ = if 9 ∈ S then mAt X m_X9_readOr h K 9 ls st μ else bb X P m_X9_readOr h K (vc X P m_X9_readOr h K k_X9_readOr S n) s_X9_readOr_9 ls st μ := by rw [vc_s, t_X9_readOr_9]
theorem w_X9_readOr_14 : bb X P m_X9_readOr h K J s_X9_readOr_14 ls st μ = bb X P m_X9_readOr h K J ((14, .aload_n 0, 1, 0, 0, 0, .inl 0, []) ::
  (15, .bipush 9, 2, 0, 0, 0, .inl (nI 9), []) ::
  (17, .invokevirtual 189, 3, 189, 2, 1, .inl 0, [1381, 8]) ::
  (20, .ifCond .eq 31, 3, 51, 0, 0, .inl 0, []) ::
  (23, .aload_n 0, 1, 0, 0, 0, .inl 0, []) ::
  (24, .invokevirtual 150, 3, 162, 1, 0, .inl 0, [1361, 8]) ::
  (27, .aload_n 0, 1, 0, 0, 0, .inl 0, []) ::
  (28, .invokevirtual 365, 3, 217, 1, 1, .inl 0, [1759, 8]) ::
  (31, .ifCond .ne 5, 3, 36, 0, 0, .inl 0, []) ::
  (34, .iconst 0, 1, 0, 0, 0, .inl (nI 0), []) ::
  (35, .ireturn, 1, 1, 0, 0, .inl 0, []) :: s_X9_readOr_36) ls st μ := by rw [s_X9_readOr_14]
theorem v_X9_readOr_14 : vc X P m_X9_readOr h K k_X9_readOr S (n + 1) 14 ls st μ = if 14 ∈ S then mAt X m_X9_readOr h K 14 ls st μ else bb X P m_X9_readOr h K (vc X P m_X9_readOr h K k_X9_readOr S n) s_X9_readOr_14 ls st μ := by rw [vc_s, t_X9_readOr_14]
theorem w_X9_readOr_36 : bb X P m_X9_readOr h K J s_X9_readOr_36 ls st μ = bb X P m_X9_readOr h K J ((36, .aload_n 0, 1, 0, 0, 0, .inl 0, []) ::
  (37, .iconst 3, 1, 0, 0, 0, .inl (nI 3), []) ::
  (38, .iload_n 1, 1, 1, 0, 0, .inl 0, []) ::
  (39, .aload_n 0, 1, 0, 0, 0, .inl 0, []) ::
  (40, .getfield 368, 3, 8, 44, 0, .inl 0, [1240]) ::
  (43, .iconst 0, 1, 0, 0, 0, .inl (nI 0), []) ::
  (44, .invokevirtual 371, 3, 198, 5, 1, .inl 0, [1775, 8]) ::
  (47, .istore_n 1, 1, 1, 0, 0, .inl 0, []) ::
  (48, .goto (-34), 3, 14, 0, 0, .inl 0, []) :: s_X9_readOr_51) ls st μ := by rw [s_X9_readOr_36]
theorem v_X9_readOr_36 : vc X P m_X9_readOr h K k_X9_readOr S (n + 1) 36 ls st μ = if 36 ∈ S then mAt X m_X9_readOr h K 36 ls st μ else bb X P m_X9_readOr h K (vc X P m_X9_readOr h K k_X9_readOr S n) s_X9_readOr_36 ls st μ := by rw [vc_s, t_X9_readOr_36]
theorem w_X9_readOr_51 : bb X P m_X9_readOr h K J s_X9_readOr_51 ls st μ = bb X P m_X9_readOr h K J ((51, .aload_n 0, 1, 0, 0, 0, .inl 0, []) ::
  (52, .iload_n 1, 1, 1, 0, 0, .inl 0, []) ::
  (53, .putfield 368, 3, 8, 44, 0, .inl 0, [1240]) ::
  (56, .iconst 1, 1, 0, 0, 0, .inl (nI 1), []) ::
  (57, .ireturn, 1, 1, 0, 0, .inl 0, []) :: []) ls st μ := by rw [s_X9_readOr_51]
theorem v_X9_readOr_51 : vc X P m_X9_readOr h K k_X9_readOr S (n + 1) 51 ls st μ = if 51 ∈ S then mAt X m_X9_readOr h K 51 ls st μ else bb X P m_X9_readOr h K (vc X P m_X9_readOr h K k_X9_readOr S n) s_X9_readOr_51 ls st μ := by rw [vc_s, t_X9_readOr_51]
end
