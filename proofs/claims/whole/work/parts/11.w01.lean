section
variable {X : mC} {P : mP} {h : Nat} {K : MV → Mem → Prop} {J : mJ} {ls : List (Nat × MV)} {st : List MV} {μ : Mem} {S : List Nat} {n : Nat}
theorem w_X4_hasAll_0 : bb X P m_X4_hasAll h K J s_X4_hasAll_0 ls st μ = bb X P m_X4_hasAll h K J ((0, .iconst 1, 1, 0, 0, 0, .inl (nI 1), []) ::
  (1, .istore_n 3, 1, 3, 0, 0, .inl 0, []) ::
  (2, .iconst 0, 1, 0, 0, 0, .inl (nI 0), []) ::
  (3, .istore 4, 2, 4, 0, 0, .inl 0, []) :: s_X4_hasAll_5) ls st μ := by rw [s_X4_hasAll_0]
theorem v_X4_hasAll_0 : vc X P m_X4_hasAll h K k_X4_hasAll S (n + 1) 0 ls st μ = if 0 ∈ S then mAt X m_X4_hasAll h K 0 ls st μ else bb X P m_X4_hasAll h K (vc X P m_X4_hasAll h K k_X4_hasAll S n) s_X4_hasAll_0 ls st μ := by rw [vc_s, t_X4_hasAll_0]
theorem w_X4_hasAll_5 : bb X P m_X4_hasAll h K J s_X4_hasAll_5 ls st μ = bb X P m_X4_hasAll h K J ((5, .iload 4, 2, 4, 0, 0, .inl 0, []) ::
  (7, .aload_n 1, 1, 1, 0, 0, .inl 0, []) ::
  (8, .getfield 72, 3, 0, 0, 0, .inl 0, [245]) ::
  (11, .if_icmp .ge 48, 3, 59, 0, 0, .inl 0, []) ::
  (14, .iload_n 2, 1, 2, 0, 0, .inl 0, []) ::
  (15, .bipush 6, 2, 0, 0, 0, .inl (nI 6), []) ::
  (17, .imul, 1, 0, 0, 0, .inl 0, []) ::
  (18, .iload 4, 2, 4, 0, 0, .inl 0, []) ::
  (20, .iadd, 1, 0, 0, 0, .inl 0, []) ::
  (21, .istore 5, 2, 5, 0, 0, .inl 0, []) ::
  (23, .aload_n 0, 1, 0, 0, 0, .inl 0, []) ::
  (24, .getfield 15, 3, 3, 1, 3, .inr (.inr (16, 48, 1)), [382]) ::
  (27, .iload 5, 2, 5, 0, 0, .inl 0, []) ::
  (29, .iaload, 1, 0, 0, 0, .inl 0, []) ::
  (30, .aload_n 1, 1, 1, 0, 0, .inl 0, []) ::
  (31, .getfield 75, 3, 0, 10, 3, .inr (.inr (16, 48, 7)), [272]) ::
  (34, .iload 5, 2, 5, 0, 0, .inl 0, []) ::
  (36, .iaload, 1, 0, 0, 0, .inl 0, []) ::
  (37, .if_icmp .ge 16, 3, 53, 0, 0, .inl 0, []) ::
  (40, .aload_n 0, 1, 0, 0, 0, .inl 0, []) ::
  (41, .getfield 25, 3, 3, 4, 3, .inr (.inr (16, 48, 4)), [387]) ::
  (44, .iload 5, 2, 5, 0, 0, .inl 0, []) ::
  (46, .dup2, 1, 0, 0, 0, .inl 0, []) ::
  (47, .iaload, 1, 0, 0, 0, .inl 0, []) ::
  (48, .iconst 1, 1, 0, 0, 0, .inl (nI 1), []) ::
  (49, .iadd, 1, 0, 0, 0, .inl 0, []) ::
  (50, .iastore, 1, 0, 0, 0, .inl 0, []) ::
  (51, .iconst 0, 1, 0, 0, 0, .inl (nI 0), []) ::
  (52, .istore_n 3, 1, 3, 0, 0, .inl 0, []) :: s_X4_hasAll_53) ls st μ := by rw [s_X4_hasAll_5]
theorem v_X4_hasAll_5 : vc X P m_X4_hasAll h K k_X4_hasAll S (n + 1) 5 ls st μ = if 5 ∈ S then mAt X m_X4_hasAll h K 5 ls st μ else bb X P m_X4_hasAll h K (vc X P m_X4_hasAll h K k_X4_hasAll S n) s_X4_hasAll_5 ls st μ := by rw [vc_s, t_X4_hasAll_5]
theorem w_X4_hasAll_53 : bb X P m_X4_hasAll h K J s_X4_hasAll_53 ls st μ = bb X P m_X4_hasAll h K J ((53, .iinc 4 1, 3, 4, 0, 0, .inl (nI 1), []) ::
  (56, .goto (-51), 3, 5, 0, 0, .inl 0, []) :: s_X4_hasAll_59) ls st μ := by rw [s_X4_hasAll_53]
theorem v_X4_hasAll_53 : vc X P m_X4_hasAll h K k_X4_hasAll S (n + 1) 53 ls st μ = if 53 ∈ S then mAt X m_X4_hasAll h K 53 ls st μ else bb X P m_X4_hasAll h K (vc X P m_X4_hasAll h K k_X4_hasAll S n) s_X4_hasAll_53 ls st μ := by rw [vc_s, t_X4_hasAll_53]
theorem w_X4_hasAll_59 : bb X P m_X4_hasAll h K J s_X4_hasAll_59 ls st μ = bb X P m_X4_hasAll h K J ((59, .iload_n 3, 1, 3, 0, 0, .inl 0, []) ::
  (60, .ireturn, 1, 1, 0, 0, .inl 0, []) :: []) ls st μ := by rw [s_X4_hasAll_59]
theorem v_X4_hasAll_59 : vc X P m_X4_hasAll h K k_X4_hasAll S (n + 1) 59 ls st μ = if 59 ∈ S then mAt X m_X4_hasAll h K 59 ls st μ else bb X P m_X4_hasAll h K (vc X P m_X4_hasAll h K k_X4_hasAll S n) s_X4_hasAll_59 ls st μ := by rw [vc_s, t_X4_hasAll_59]
end
section
variable {X : mC} {P : mP} {h : Nat} {K : MV → Mem → Prop} {J : mJ} {ls : List (Nat × MV)} {st : List MV} {μ : Mem} {S : List Nat} {n : Nat}
theorem w_X4_inVats_0 : bb X P m_X4_inVats h K J s_X4_inVats_0 ls st μ = bb X P m_X4_inVats h K J ((0, .iconst 0, 1, 0, 0, 0, .inl (nI 0), []) ::
  (1, .istore_n 2, 1, 2, 0, 0, .inl 0, []) ::
  (2, .iconst 0, 1, 0, 0, 0, .inl (nI 0), []) ::
  (3, .istore_n 3, 1, 3, 0, 0, .inl 0, []) :: s_X4_inVats_4) ls st μ := by rw [s_X4_inVats_0]
theorem v_X4_inVats_0 : vc X P m_X4_inVats h K k_X4_inVats S (n + 1) 0 ls st μ = if 0 ∈ S then mAt X m_X4_inVats h K 0 ls st μ else bb X P m_X4_inVats h K (vc X P m_X4_inVats h K k_X4_inVats S n) s_X4_inVats_0 ls st μ := by rw [vc_s, t_X4_inVats_0]
theorem w_X4_inVats_4 : bb X P m_X4_inVats h K J s_X4_inVats_4 ls st μ = bb X P m_X4_inVats h K J ((4, .iload_n 3, 1, 3, 0, 0, .inl 0, []) ::
  (5, .bipush 8, 2, 0, 0, 0, .inl (nI 8), []) ::
  (7, .if_icmp .ge 23, 3, 30, 0, 0, .inl 0, []) ::
  (10, .iload_n 2, 1, 2, 0, 0, .inl 0, []) ::
  (11, .aload_n 0, 1, 0, 0, 0, .inl 0, []) ::
  (12, .getfield 15, 3, 3, 1, 3, .inr (.inr (16, 48, 1)), [382]) ::
  (15, .iload_n 3, 1, 3, 0, 0, .inl 0, []) ::
  (16, .bipush 6, 2, 0, 0, 0, .inl (nI 6), []) ::
  (18, .imul, 1, 0, 0, 0, .inl 0, []) ::
  (19, .iload_n 1, 1, 1, 0, 0, .inl 0, []) ::
  (20, .iadd, 1, 0, 0, 0, .inl 0, []) ::
  (21, .iaload, 1, 0, 0, 0, .inl 0, []) ::
  (22, .iadd, 1, 0, 0, 0, .inl 0, []) ::
  (23, .istore_n 2, 1, 2, 0, 0, .inl 0, []) ::
  (24, .iinc 3 1, 3, 3, 0, 0, .inl (nI 1), []) ::
  (27, .goto (-23), 3, 4, 0, 0, .inl 0, []) :: s_X4_inVats_30) ls st μ := by rw [s_X4_inVats_4]
theorem v_X4_inVats_4 : vc X P m_X4_inVats h K k_X4_inVats S (n + 1) 4 ls st μ = if 4 ∈ S then mAt X m_X4_inVats h K 4 ls st μ else bb X P m_X4_inVats h K (vc X P m_X4_inVats h K k_X4_inVats S n) s_X4_inVats_4 ls st μ := by rw [vc_s, t_X4_inVats_4]
theorem w_X4_inVats_30 : bb X P m_X4_inVats h K J s_X4_inVats_30 ls st μ = bb X P m_X4_inVats h K J ((30, .iload_n 2, 1, 2, 0, 0, .inl 0, []) ::
  (31, .ireturn, 1, 0, 0, 0, .inl 0, []) :: []) ls st μ := by rw [s_X4_inVats_30]
theorem v_X4_inVats_30 : vc X P m_X4_inVats h K k_X4_inVats S (n + 1) 30 ls st μ = if 30 ∈ S then mAt X m_X4_inVats h K 30 ls st μ else bb X P m_X4_inVats h K (vc X P m_X4_inVats h K k_X4_inVats S n) s_X4_inVats_30 ls st μ := by rw [vc_s, t_X4_inVats_30]
end
section
variable {X : mC} {P : mP} {h : Nat} {K : MV → Mem → Prop} {J : mJ} {ls : List (Nat × MV)} {st : List MV} {μ : Mem} {S : List Nat} {n : Nat}
theorem w_X4_isLike_0 : bb X P m_X4_isLike h K J s_X4_isLike_0 ls st μ = bb X P m_X4_isLike h K J ((0, .iconst 0, 1, 0, 0, 0, .inl (nI 0), []) ::
  (1, .istore_n 2, 1, 2, 0, 0, .inl 0, []) :: s_X4_isLike_2) ls st μ := by rw [s_X4_isLike_0]
theorem v_X4_isLike_0 : vc X P m_X4_isLike h K k_X4_isLike S (n + 1) 0 ls st μ = if 0 ∈ S then mAt X m_X4_isLike h K 0 ls st μ else bb X P m_X4_isLike h K (vc X P m_X4_isLike h K k_X4_isLike S n) s_X4_isLike_0 ls st μ := by rw [vc_s, t_X4_isLike_0]
theorem w_X4_isLike_2 : bb X P m_X4_isLike h K J s_X4_isLike_2 ls st μ = bb X P m_X4_isLike h K J ((2, .iload_n 2, 1, 2, 0, 0, .inl 0, []) ::
  (3, .bipush 48, 2, 0, 0, 0, .inl (nI 48), []) ::
  (5, .if_icmp .ge 26, 3, 31, 0, 0, .inl 0, []) ::
  (8, .aload_n 0, 1, 0, 0, 0, .inl 0, []) ::
  (9, .getfield 15, 3, 3, 1, 3, .inr (.inr (16, 48, 1)), [382]) ::
  (12, .iload_n 2, 1, 2, 0, 0, .inl 0, []) ::
  (13, .iaload, 1, 0, 0, 0, .inl 0, []) ::
  (14, .aload_n 1, 1, 1, 0, 0, .inl 0, []) ::
  (15, .getfield 15, 3, 3, 1, 3, .inr (.inr (16, 48, 1)), [382]) ::
  (18, .iload_n 2, 1, 2, 0, 0, .inl 0, []) ::
  (19, .iaload, 1, 0, 0, 0, .inl 0, []) ::
  (20, .if_icmp .eq 5, 3, 25, 0, 0, .inl 0, []) ::
  (23, .iconst 0, 1, 0, 0, 0, .inl (nI 0), []) ::
  (24, .ireturn, 1, 1, 0, 0, .inl 0, []) :: s_X4_isLike_25) ls st μ := by rw [s_X4_isLike_2]
theorem v_X4_isLike_2 : vc X P m_X4_isLike h K k_X4_isLike S (n + 1) 2 ls st μ = if 2 ∈ S then mAt X m_X4_isLike h K 2 ls st μ else bb X P m_X4_isLike h K (vc X P m_X4_isLike h K k_X4_isLike S n) s_X4_isLike_2 ls st μ := by rw [vc_s, t_X4_isLike_2]
theorem w_X4_isLike_25 : bb X P m_X4_isLike h K J s_X4_isLike_25 ls st μ = bb X P m_X4_isLike h K J ((25, .iinc 2 1, 3, 2, 0, 0, .inl (nI 1), []) ::
  (28, .goto (-26), 3, 2, 0, 0, .inl 0, []) :: s_X4_isLike_31) ls st μ := by rw [s_X4_isLike_25]
theorem v_X4_isLike_25 : vc X P m_X4_isLike h K k_X4_isLike S (n + 1) 25 ls st μ = if 25 ∈ S then mAt X m_X4_isLike h K 25 ls st μ else bb X P m_X4_isLike h K (vc X P m_X4_isLike h K k_X4_isLike S n) s_X4_isLike_25 ls st μ := by rw [vc_s, t_X4_isLike_25]
theorem w_X4_isLike_31 : bb X P m_X4_isLike h K J s_X4_isLike_31 ls st μ = bb X P m_X4_isLike h K J ((31, .iconst 0, 1, 0, 0, 0, .inl (nI 0), []) ::
  (32, .istore_n 2, 1, 2, 0, 0, .inl 0, []) :: s_X4_isLike_33) ls st μ := by rw [s_X4_isLike_31]
theorem v_X4_isLike_31 : vc X P m_X4_isLike h K k_X4_isLike S (n + 1) 31 ls st μ = if 31 ∈ S then mAt X m_X4_isLike h K 31 ls st μ else bb X P m_X4_isLike h K (vc X P m_X4_isLike h K k_X4_isLike S n) s_X4_isLike_31 ls st μ := by rw [vc_s, t_X4_isLike_31]
theorem w_X4_isLike_33 : bb X P m_X4_isLike h K J s_X4_isLike_33 ls st μ = bb X P m_X4_isLike h K J ((33, .iload_n 2, 1, 2, 0, 0, .inl 0, []) ::
  (34, .bipush 6, 2, 0, 0, 0, .inl (nI 6), []) ::
  (36, .if_icmp .ge 26, 3, 62, 0, 0, .inl 0, []) ::
  (39, .aload_n 0, 1, 0, 0, 0, .inl 0, []) ::
  (40, .getfield 28, 3, 3, 5, 3, .inr (.inr (16, 6, 5)), [389]) ::
  (43, .iload_n 2, 1, 2, 0, 0, .inl 0, []) ::
  (44, .iaload, 1, 0, 0, 0, .inl 0, []) ::
  (45, .aload_n 1, 1, 1, 0, 0, .inl 0, []) ::
  (46, .getfield 28, 3, 3, 5, 3, .inr (.inr (16, 6, 5)), [389]) ::
  (49, .iload_n 2, 1, 2, 0, 0, .inl 0, []) ::
  (50, .iaload, 1, 0, 0, 0, .inl 0, []) ::
  (51, .if_icmp .eq 5, 3, 56, 0, 0, .inl 0, []) ::
  (54, .iconst 0, 1, 0, 0, 0, .inl (nI 0), []) ::
  (55, .ireturn, 1, 1, 0, 0, .inl 0, []) :: s_X4_isLike_56) ls st μ := by rw [s_X4_isLike_33]
theorem v_X4_isLike_33 : vc X P m_X4_isLike h K k_X4_isLike S (n + 1) 33 ls st μ = if 33 ∈ S then mAt X m_X4_isLike h K 33 ls st μ else bb X P m_X4_isLike h K (vc X P m_X4_isLike h K k_X4_isLike S n) s_X4_isLike_33 ls st μ := by rw [vc_s, t_X4_isLike_33]
theorem w_X4_isLike_56 : bb X P m_X4_isLike h K J s_X4_isLike_56 ls st μ = bb X P m_X4_isLike h K J ((56, .iinc 2 1, 3, 2, 0, 0, .inl (nI 1), []) ::
  (59, .goto (-26), 3, 33, 0, 0, .inl 0, []) :: s_X4_isLike_62) ls st μ := by rw [s_X4_isLike_56]
theorem v_X4_isLike_56 : vc X P m_X4_isLike h K k_X4_isLike S (n + 1) 56 ls st μ = if 56 ∈ S then mAt X m_X4_isLike h K 56 ls st μ else bb X P m_X4_isLike h K (vc X P m_X4_isLike h K k_X4_isLike S n) s_X4_isLike_56 ls st μ := by rw [vc_s, t_X4_isLike_56]
theorem w_X4_isLike_62 : bb X P m_X4_isLike h K J s_X4_isLike_62 ls st μ = bb X P m_X4_isLike h K J ((62, .iconst 1, 1, 0, 0, 0, .inl (nI 1), []) ::
  (63, .ireturn, 1, 1, 0, 0, .inl 0, []) :: []) ls st μ := by rw [s_X4_isLike_62]
theorem v_X4_isLike_62 : vc X P m_X4_isLike h K k_X4_isLike S (n + 1) 62 ls st μ = if 62 ∈ S then mAt X m_X4_isLike h K 62 ls st μ else bb X P m_X4_isLike h K (vc X P m_X4_isLike h K k_X4_isLike S n) s_X4_isLike_62 ls st μ := by rw [vc_s, t_X4_isLike_62]
end
section
variable {X : mC} {P : mP} {h : Nat} {K : MV → Mem → Prop} {J : mJ} {ls : List (Nat × MV)} {st : List MV} {μ : Mem} {S : List Nat} {n : Nat}
theorem w_X4_isSteady_0 : bb X P m_X4_isSteady h K J s_X4_isSteady_0 ls st μ = bb X P m_X4_isSteady h K J ((0, .aload_n 0, 1, 0, 0, 0, .inl 0, []) ::
  (1, .getfield 28, 3, 3, 5, 3, .inr (.inr (16, 6, 5)), [389]) ::
  (4, .iconst 0, 1, 0, 0, 0, .inl (nI 0), []) ::
  (5, .invokestatic 55, 3, 1, 2, 0, .inl 0, [706]) ::
  (8, .iconst 0, 1, 0, 0, 0, .inl (nI 0), []) ::
  (9, .istore_n 3, 1, 3, 0, 0, .inl 0, []) :: s_X4_isSteady_10) ls st μ := by rw [s_X4_isSteady_0]
theorem v_X4_isSteady_0 : vc X P m_X4_isSteady h K k_X4_isSteady S (n + 1) 0 ls st μ = if 0 ∈ S then mAt X m_X4_isSteady h K 0 ls st μ else bb X P m_X4_isSteady h K (vc X P m_X4_isSteady h K k_X4_isSteady S n) s_X4_isSteady_0 ls st μ := by rw [vc_s, t_X4_isSteady_0]
theorem w_X4_isSteady_10 : bb X P m_X4_isSteady h K J s_X4_isSteady_10 ls st μ = bb X P m_X4_isSteady h K J ((10, .iload_n 3, 1, 3, 0, 0, .inl 0, []) ::
  (11, .aload_n 1, 1, 1, 0, 0, .inl 0, []) ::
  (12, .getfield 69, 3, 0, 1, 0, .inl 0, [248]) ::
  (15, .if_icmp .ge 144, 3, 159, 0, 0, .inl 0, []) ::
  (18, .iload_n 2, 1, 2, 0, 0, .inl 0, []) ::
  (19, .iload_n 3, 1, 3, 0, 0, .inl 0, []) ::
  (20, .ishr, 1, 0, 0, 0, .inl 0, []) ::
  (21, .iconst 1, 1, 0, 0, 0, .inl (nI 1), []) ::
  (22, .iand, 1, 0, 0, 0, .inl 0, []) ::
  (23, .iconst 1, 1, 0, 0, 0, .inl (nI 1), []) ::
  (24, .if_icmp .ne 7, 3, 31, 0, 0, .inl 0, []) ::
  (27, .iconst 1, 1, 0, 0, 0, .inl (nI 1), []) ::
  (28, .goto 4, 3, 32, 0, 0, .inl 0, []) :: s_X4_isSteady_31) ls st μ := by rw [s_X4_isSteady_10]
theorem v_X4_isSteady_10 : vc X P m_X4_isSteady h K k_X4_isSteady S (n + 1) 10 ls st μ = if 10 ∈ S then mAt X m_X4_isSteady h K 10 ls st μ else bb X P m_X4_isSteady h K (vc X P m_X4_isSteady h K k_X4_isSteady S n) s_X4_isSteady_10 ls st μ := by rw [vc_s, t_X4_isSteady_10]
theorem w_X4_isSteady_31 : bb X P m_X4_isSteady h K J s_X4_isSteady_31 ls st μ = bb X P m_X4_isSteady h K J ((31, .iconst 0, 1, 0, 0, 0, .inl (nI 0), []) :: s_X4_isSteady_32) ls st μ := by rw [s_X4_isSteady_31]
theorem v_X4_isSteady_31 : vc X P m_X4_isSteady h K k_X4_isSteady S (n + 1) 31 ls st μ = if 31 ∈ S then mAt X m_X4_isSteady h K 31 ls st μ else bb X P m_X4_isSteady h K (vc X P m_X4_isSteady h K k_X4_isSteady S n) s_X4_isSteady_31 ls st μ := by rw [vc_s, t_X4_isSteady_31]
theorem w_X4_isSteady_32 : bb X P m_X4_isSteady h K J s_X4_isSteady_32 ls st μ = bb X P m_X4_isSteady h K J ((32, .istore 4, 2, 4, 0, 0, .inl 0, []) ::
  (34, .iconst 0, 1, 0, 0, 0, .inl (nI 0), []) ::
  (35, .istore 5, 2, 5, 0, 0, .inl 0, []) :: s_X4_isSteady_37) ls st μ := by rw [s_X4_isSteady_32]
theorem v_X4_isSteady_32 : vc X P m_X4_isSteady h K k_X4_isSteady S (n + 1) 32 ls st μ = if 32 ∈ S then mAt X m_X4_isSteady h K 32 ls st μ else bb X P m_X4_isSteady h K (vc X P m_X4_isSteady h K k_X4_isSteady S n) s_X4_isSteady_32 ls st μ := by rw [vc_s, t_X4_isSteady_32]
theorem w_X4_isSteady_37 : bb X P m_X4_isSteady h K J s_X4_isSteady_37 ls st μ = bb X P m_X4_isSteady h K J ((37, .iload 5, 2, 5, 0, 0, .inl 0, []) ::
  (39, .aload_n 1, 1, 1, 0, 0, .inl 0, []) ::
  (40, .getfield 72, 3, 0, 0, 0, .inl 0, [245]) ::
  (43, .if_icmp .ge 110, 3, 153, 0, 0, .inl 0, []) ::
  (46, .iload_n 3, 1, 3, 0, 0, .inl 0, []) ::
  (47, .bipush 6, 2, 0, 0, 0, .inl (nI 6), []) ::
  (49, .imul, 1, 0, 0, 0, .inl 0, []) ::
  (50, .iload 5, 2, 5, 0, 0, .inl 0, []) ::
  (52, .iadd, 1, 0, 0, 0, .inl 0, []) ::
  (53, .istore 6, 2, 6, 0, 0, .inl 0, []) ::
  (55, .aload_n 0, 1, 0, 0, 0, .inl 0, []) ::
  (56, .getfield 28, 3, 3, 5, 3, .inr (.inr (16, 6, 5)), [389]) ::
  (59, .iload 5, 2, 5, 0, 0, .inl 0, []) ::
  (61, .dup2, 1, 0, 0, 0, .inl 0, []) ::
  (62, .iaload, 1, 0, 0, 0, .inl 0, []) ::
  (63, .aload_n 1, 1, 1, 0, 0, .inl 0, []) ::
  (64, .getfield 125, 3, 0, 14, 3, .inr (.inr (16, 48, 11)), [288]) ::
  (67, .iload 6, 2, 6, 0, 0, .inl 0, []) ::
  (69, .iaload, 1, 0, 0, 0, .inl 0, []) ::
  (70, .iadd, 1, 0, 0, 0, .inl 0, []) ::
  (71, .iastore, 1, 0, 0, 0, .inl 0, []) ::
  (72, .iload 4, 2, 4, 0, 0, .inl 0, []) ::
  (74, .ifCond .eq 47, 3, 121, 0, 0, .inl 0, []) ::
  (77, .aload_n 0, 1, 0, 0, 0, .inl 0, []) ::
  (78, .getfield 28, 3, 3, 5, 3, .inr (.inr (16, 6, 5)), [389]) ::
  (81, .iload 5, 2, 5, 0, 0, .inl 0, []) ::
  (83, .iaload, 1, 0, 0, 0, .inl 0, []) ::
  (84, .aload_n 1, 1, 1, 0, 0, .inl 0, []) ::
  (85, .getfield 75, 3, 0, 10, 3, .inr (.inr (16, 48, 7)), [272]) ::
  (88, .iload 6, 2, 6, 0, 0, .inl 0, []) ::
  (90, .iaload, 1, 0, 0, 0, .inl 0, []) ::
  (91, .if_icmp .ge 5, 3, 96, 0, 0, .inl 0, []) ::
  (94, .iconst 0, 1, 0, 0, 0, .inl (nI 0), []) ::
  (95, .ireturn, 1, 1, 0, 0, .inl 0, []) :: s_X4_isSteady_96) ls st μ := by rw [s_X4_isSteady_37]
theorem v_X4_isSteady_37 : vc X P m_X4_isSteady h K k_X4_isSteady S (n + 1) 37 ls st μ = if 37 ∈ S then mAt X m_X4_isSteady h K 37 ls st μ else bb X P m_X4_isSteady h K (vc X P m_X4_isSteady h K k_X4_isSteady S n) s_X4_isSteady_37 ls st μ := by rw [vc_s, t_X4_isSteady_37]
theorem w_X4_isSteady_96 : bb X P m_X4_isSteady h K J s_X4_isSteady_96 ls st μ = bb X P m_X4_isSteady h K J ((96, .aload_n 0, 1, 0, 0, 0, .inl 0, []) ::
  (97, .getfield 28, 3, 3, 5, 3, .inr (.inr (16, 6, 5)), [389]) ::
  (100, .iload 5, 2, 5, 0, 0, .inl 0, []) ::
  (102, .dup2, 1, 0, 0, 0, .inl 0, []) ::
  (103, .iaload, 1, 0, 0, 0, .inl 0, []) ::
  (104, .aload_n 1, 1, 1, 0, 0, .inl 0, []) ::
  (105, .getfield 128, 3, 0, 13, 3, .inr (.inr (16, 48, 10)), [285]) ::
  (108, .iload 6, 2, 6, 0, 0, .inl 0, []) ::
  (110, .iaload, 1, 0, 0, 0, .inl 0, []) ::
  (111, .aload_n 1, 1, 1, 0, 0, .inl 0, []) ::
  (112, .getfield 75, 3, 0, 10, 3, .inr (.inr (16, 48, 7)), [272]) ::
  (115, .iload 6, 2, 6, 0, 0, .inl 0, []) ::
  (117, .iaload, 1, 0, 0, 0, .inl 0, []) ::
  (118, .isub, 1, 0, 0, 0, .inl 0, []) ::
  (119, .iadd, 1, 0, 0, 0, .inl 0, []) ::
  (120, .iastore, 1, 0, 0, 0, .inl 0, []) :: s_X4_isSteady_121) ls st μ := by rw [s_X4_isSteady_96]
theorem v_X4_isSteady_96 : vc X P m_X4_isSteady h K k_X4_isSteady S (n + 1) 96 ls st μ = if 96 ∈ S then mAt X m_X4_isSteady h K 96 ls st μ else bb X P m_X4_isSteady h K (vc X P m_X4_isSteady h K k_X4_isSteady S n) s_X4_isSteady_96 ls st μ := by rw [vc_s, t_X4_isSteady_96]
theorem w_X4_isSteady_121 : bb X P m_X4_isSteady h K J s_X4_isSteady_121 ls st μ = bb X P m_X4_isSteady h K J ((121, .aload_n 0, 1, 0, 0, 0, .inl 0, []) ::
  (122, .getfield 28, 3, 3, 5, 3, .inr (.inr (16, 6, 5)), [389]) ::
  (125, .iload 5, 2, 5, 0, 0, .inl 0, []) ::
  (127, .aload_n 0, 1, 0, 0, 0, .inl 0, []) ::
  (128, .getfield 28, 3, 3, 5, 3, .inr (.inr (16, 6, 5)), [389]) ::
  (131, .iload 5, 2, 5, 0, 0, .inl 0, []) ::
  (133, .iaload, 1, 0, 0, 0, .inl 0, []) ::
  (134, .aload_n 1, 1, 1, 0, 0, .inl 0, []) ::
  (135, .getfield 118, 3, 0, 6, 3, .inr (.inr (16, 6, 3)), [259]) ::
  (138, .iload 5, 2, 5, 0, 0, .inl 0, []) ::
  (140, .iaload, 1, 0, 0, 0, .inl 0, []) ::
  (141, .isub, 1, 0, 0, 0, .inl 0, []) ::
  (142, .iconst 0, 1, 0, 0, 0, .inl (nI 0), []) ::
  (143, .invokestatic 142, 3, 0, 2, 11, .inl 0, [934]) ::
  (146, .iastore, 1, 0, 0, 0, .inl 0, []) ::
  (147, .iinc 5 1, 3, 5, 0, 0, .inl (nI 1), []) ::
  (150, .goto (-113), 3, 37, 0, 0, .inl 0, []) :: s_X4_isSteady_153) ls st μ := by rw [s_X4_isSteady_121]
theorem v_X4_isSteady_121 : vc X P m_X4_isSteady h K k_X4_isSteady S (n + 1) 121 ls st μ = if 121 ∈ S then mAt X m_X4_isSteady h K 121 ls st μ else bb X P m_X4_isSteady h K (vc X P m_X4_isSteady h K k_X4_isSteady S n) s_X4_isSteady_121 ls st μ := by rw [vc_s, t_X4_isSteady_121]
theorem w_X4_isSteady_153 : bb X P m_X4_isSteady h K J s_X4_isSteady_153 ls st μ = bb X P m_X4_isSteady h K J ((153, .iinc 3 1, 3, 3, 0, 0, .inl (nI 1), []) ::
  (156, .goto (-146), 3, 10, 0, 0, .inl 0, []) :: s_X4_isSteady_159) ls st μ := by rw [s_X4_isSteady_153]
theorem v_X4_isSteady_153 : vc X P m_X4_isSteady h K k_X4_isSteady S (n + 1) 153 ls st μ = if 153 ∈ S then mAt X m_X4_isSteady h K 153 ls st μ else bb X P m_X4_isSteady h K (vc X P m_X4_isSteady h K k_X4_isSteady S n) s_X4_isSteady_153 ls st μ := by rw [vc_s, t_X4_isSteady_153]
theorem w_X4_isSteady_159 : bb X P m_X4_isSteady h K J s_X4_isSteady_159 ls st μ = bb X P m_X4_isSteady h K J ((159, .iconst 1, 1, 0, 0, 0, .inl (nI 1), []) ::
  (160, .ireturn, 1, 1, 0, 0, .inl 0, []) :: []) ls st μ := by rw [s_X4_isSteady_159]
theorem v_X4_isSteady_159 : vc X P m_X4_isSteady h K k_X4_isSteady S (n + 1) 159 ls st μ = if 159 ∈ S then mAt X m_X4_isSteady h K 159 ls st μ else bb X P m_X4_isSteady h K (vc X P m_X4_isSteady h K k_X4_isSteady S n) s_X4_isSteady_159 ls st μ := by rw [vc_s, t_X4_isSteady_159]
end
section
variable {X : mC} {P : mP} {h : Nat} {K : MV → Mem → Prop} {J : mJ} {ls : List (Nat × MV)} {st : List MV} {μ : Mem} {S : List Nat} {n : Nat}
theorem w_X4_lessen_0 : bb X P m_X4_lessen h K J s_X4_lessen_0 ls st μ = bb X P m_X4_lessen h K J ((0, .aload_n 0, 1, 0, 0, 0, .inl 0, []) ::
  (1, .getfield 28, 3, 3, 5, 3, .inr (.inr (16, 6, 5)), [389]) ::
  (4, .iload_n 1, 1, 1, 0, 0, .inl 0, []) ::
  (5, .dup2, 1, 0, 0, 0, .inl 0, []) ::
  (6, .iaload, 1, 0, 0, 0, .inl 0, []) ::
  (7, .iload_n 2, 1, 2, 0, 0, .inl 0, []) ::
  (8, .isub, 1, 0, 0, 0, .inl 0, []) ::
  (9, .iastore, 1, 0, 0, 0, .inl 0, []) ::
  (10, .aload_n 0, 1, 0, 0, 0, .inl 0, []) ::
  (11, .getfield 28, 3, 3, 5, 3, .inr (.inr (16, 6, 5)), [389]) ::
  (14, .iload_n 1, 1, 1, 0, 0, .inl 0, []) ::
  (15, .iaload, 1, 0, 0, 0, .inl 0, []) ::
  (16, .ifCond .ne 17, 3, 33, 0, 0, .inl 0, []) ::
  (19, .aload_n 0, 1, 0, 0, 0, .inl 0, []) ::
  (20, .getfield 31, 3, 3, 6, 3, .inr (.inr (16, 6, 6)), [391]) ::
  (23, .iload_n 1, 1, 1, 0, 0, .inl 0, []) ::
  (24, .iconst 0, 1, 0, 0, 0, .inl (nI 0), []) ::
  (25, .iastore, 1, 0, 0, 0, .inl 0, []) ::
  (26, .aload_n 0, 1, 0, 0, 0, .inl 0, []) ::
  (27, .getfield 34, 3, 3, 7, 3, .inr (.inr (16, 6, 7)), [392]) ::
  (30, .iload_n 1, 1, 1, 0, 0, .inl 0, []) ::
  (31, .iconst 0, 1, 0, 0, 0, .inl (nI 0), []) ::
  (32, .iastore, 1, 0, 0, 0, .inl 0, []) :: s_X4_lessen_33) ls st μ := by rw [s_X4_lessen_0]
theorem v_X4_lessen_0 : vc X P m_X4_lessen h K k_X4_lessen S (n + 1) 0 ls st μ = if 0 ∈ S then mAt X m_X4_lessen h K 0 ls st μ else bb X P m_X4_lessen h K (vc X P m_X4_lessen h K k_X4_lessen S n) s_X4_lessen_0 ls st μ := by rw [vc_s, t_X4_lessen_0]
theorem w_X4_lessen_33 : bb X P m_X4_lessen h K J s_X4_lessen_33 ls st μ = bb X P m_X4_lessen h K J ((33, .return_, 1, 0, 0, 0, .inl 0, []) :: []) ls st μ := by rw [s_X4_lessen_33]
theorem v_X4_lessen_33 : vc X P m_X4_lessen h K k_X4_lessen S (n + 1) 33 ls st μ = if 33 ∈ S then mAt X m_X4_lessen h K 33 ls st μ else bb X P m_X4_lessen h K (vc X P m_X4_lessen h K k_X4_lessen S n) s_X4_lessen_33 ls st μ := by rw [vc_s, t_X4_lessen_33]
end
section
variable {X : mC} {P : mP} {h : Nat} {K : MV → Mem → Prop} {J : mJ} {ls : List (Nat × MV)} {st : List MV} {μ : Mem} {S : List Nat} {n : Nat}
theorem w_X4_letOut_0 : bb X P m_X4_letOut h K J s_X4_letOut_0 ls st μ = bb X P m_X4_letOut h K J ((0, .iconst 0, 1, 0, 0, 0, .inl (nI 0), []) ::
  (1, .istore_n 2, 1, 2, 0, 0, .inl 0, []) :: s_X4_letOut_2) ls st μ := by rw [s_X4_letOut_0]
theorem v_X4_letOut_0 : vc X P m_X4_letOut h K k_X4_letOut S (n + 1) 0 ls st μ = if 0 ∈ S then mAt X m_X4_letOut h K 0 ls st μ else bb X P m_X4_letOut h K (vc X P m_X4_letOut h K k_X4_letOut S n) s_X4_letOut_0 ls st μ := by rw [vc_s, t_X4_letOut_0]
theorem w_X4_letOut_2 : bb X P m_X4_letOut h K J s_X4_letOut_2 ls st μ = bb X P m_X4_letOut h K J ((2, .iload_n 2, 1, 2, 0, 0, .inl 0, []) ::
  (3, .aload_n 1, 1, 1, 0, 0, .inl 0, []) ::
  (4, .getfield 72, 3, 0, 0, 0, .inl 0, [245]) ::
  (7, .if_icmp .ge 38, 3, 45, 0, 0, .inl 0, []) ::
  (10, .aload_n 0, 1, 0, 0, 0, .inl 0, []) ::
  (11, .getfield 46, 3, 3, 11, 3, .inr (.inr (16, 36, 11)), [401]) ::
  (14, .bipush 30, 2, 0, 0, 0, .inl (nI 30), []) ::
  (16, .iload_n 2, 1, 2, 0, 0, .inl 0, []) ::
  (17, .iadd, 1, 0, 0, 0, .inl 0, []) ::
  (18, .dup2, 1, 0, 0, 0, .inl 0, []) ::
  (19, .iaload, 1, 0, 0, 0, .inl 0, []) ::
  (20, .aload_n 0, 1, 0, 0, 0, .inl 0, []) ::
  (21, .getfield 28, 3, 3, 5, 3, .inr (.inr (16, 6, 5)), [389]) ::
  (24, .iload_n 2, 1, 2, 0, 0, .inl 0, []) ::
  (25, .iaload, 1, 0, 0, 0, .inl 0, []) ::
  (26, .iadd, 1, 0, 0, 0, .inl 0, []) ::
  (27, .iastore, 1, 0, 0, 0, .inl 0, []) ::
  (28, .aload_n 0, 1, 0, 0, 0, .inl 0, []) ::
  (29, .iload_n 2, 1, 2, 0, 0, .inl 0, []) ::
  (30, .aload_n 0, 1, 0, 0, 0, .inl 0, []) ::
  (31, .getfield 28, 3, 3, 5, 3, .inr (.inr (16, 6, 5)), [389]) ::
  (34, .iload_n 2, 1, 2, 0, 0, .inl 0, []) ::
  (35, .iaload, 1, 0, 0, 0, .inl 0, []) ::
  (36, .invokevirtual 121, 3, 39, 3, 0, .inl 0, [744, 3]) ::
  (39, .iinc 2 1, 3, 2, 0, 0, .inl (nI 1), []) ::
  (42, .goto (-40), 3, 2, 0, 0, .inl 0, []) :: s_X4_letOut_45) ls st μ := by rw [s_X4_letOut_2]
theorem v_X4_letOut_2 : vc X P m_X4_letOut h K k_X4_letOut S (n + 1) 2 ls st μ = if 2 ∈ S then mAt X m_X4_letOut h K 2 ls st μ else bb X P m_X4_letOut h K (vc X P m_X4_letOut h K k_X4_letOut S n) s_X4_letOut_2 ls st μ := by rw [vc_s, t_X4_letOut_2]
theorem w_X4_letOut_45 : bb X P m_X4_letOut h K J s_X4_letOut_45 ls st μ = bb X P m_X4_letOut h K J ((45, .return_, 1, 0, 0, 0, .inl 0, []) :: []) ls st μ := by rw [s_X4_letOut_45]
theorem v_X4_letOut_45 : vc X P m_X4_letOut h K k_X4_letOut S (n + 1) 45 ls st μ = if 45 ∈ S then mAt X m_X4_letOut h K 45 ls st μ else bb X P m_X4_letOut h K (vc X P m_X4_letOut h K k_X4_letOut S n) s_X4_letOut_45 ls st μ := by rw [vc_s, t_X4_letOut_45]
end
section
variable {X : mC} {P : mP} {h : Nat} {K : MV → Mem → Prop} {J : mJ} {ls : List (Nat × MV)} {st : List MV} {μ : Mem} {S : List Nat} {n : Nat}
theorem w_X4_loseOnWay_0 : bb X P m_X4_loseOnWay h K J s_X4_loseOnWay_0 ls st μ = bb X P m_X4_loseOnWay h K J ((0, .iconst 0, 1, 0, 0, 0, .inl (nI 0), []) ::
  (1, .istore_n 2, 1, 2, 0, 0, .inl 0, []) :: s_X4_loseOnWay_2) ls st μ := by rw [s_X4_loseOnWay_0]
theorem v_X4_loseOnWay_0 : vc X P m_X4_loseOnWay h K k_X4_loseOnWay S (n + 1) 0 ls st μ = if 0 ∈ S then mAt X m_X4_loseOnWay h K 0 ls st μ else bb X P m_X4_loseOnWay h K (vc X P m_X4_loseOnWay h K k_X4_loseOnWay S n) s_X4_loseOnWay_0 ls st μ := by rw [vc_s, t_X4_loseOnWay_0]
theorem w_X4_loseOnWay_2 : bb X P m_X4_loseOnWay h K J s_X4_loseOnWay_2 ls st μ = bb X P m_X4_loseOnWay h K J ((2, .iload_n 2, 1, 2, 0, 0, .inl 0, []) ::
  (3, .aload_n 1, 1, 1, 0, 0, .inl 0, []) ::
  (4, .getfield 72, 3, 0, 0, 0, .inl 0, [245]) ::
  (7, .if_icmp .ge 44, 3, 51, 0, 0, .inl 0, []) ::
  (10, .aload_n 0, 1, 0, 0, 0, .inl 0, []) ::
  (11, .getfield 28, 3, 3, 5, 3, .inr (.inr (16, 6, 5)), [389]) ::
  (14, .iload_n 2, 1, 2, 0, 0, .inl 0, []) ::
  (15, .iaload, 1, 0, 0, 0, .inl 0, []) ::
  (16, .aload_n 1, 1, 1, 0, 0, .inl 0, []) ::
  (17, .getfield 118, 3, 0, 6, 3, .inr (.inr (16, 6, 3)), [259]) ::
  (20, .iload_n 2, 1, 2, 0, 0, .inl 0, []) ::
  (21, .iaload, 1, 0, 0, 0, .inl 0, []) ::
  (22, .invokestatic 81, 3, 0, 2, 10, .inl 0, [727]) ::
  (25, .istore_n 3, 1, 3, 0, 0, .inl 0, []) ::
  (26, .aload_n 0, 1, 0, 0, 0, .inl 0, []) ::
  (27, .getfield 46, 3, 3, 11, 3, .inr (.inr (16, 36, 11)), [401]) ::
  (30, .bipush 24, 2, 0, 0, 0, .inl (nI 24), []) ::
  (32, .iload_n 2, 1, 2, 0, 0, .inl 0, []) ::
  (33, .iadd, 1, 0, 0, 0, .inl 0, []) ::
  (34, .dup2, 1, 0, 0, 0, .inl 0, []) ::
  (35, .iaload, 1, 0, 0, 0, .inl 0, []) ::
  (36, .iload_n 3, 1, 3, 0, 0, .inl 0, []) ::
  (37, .iadd, 1, 0, 0, 0, .inl 0, []) ::
  (38, .iastore, 1, 0, 0, 0, .inl 0, []) ::
  (39, .aload_n 0, 1, 0, 0, 0, .inl 0, []) ::
  (40, .iload_n 2, 1, 2, 0, 0, .inl 0, []) ::
  (41, .iload_n 3, 1, 3, 0, 0, .inl 0, []) ::
  (42, .invokevirtual 121, 3, 39, 3, 0, .inl 0, [744, 3]) ::
  (45, .iinc 2 1, 3, 2, 0, 0, .inl (nI 1), []) ::
  (48, .goto (-46), 3, 2, 0, 0, .inl 0, []) :: s_X4_loseOnWay_51) ls st μ := by rw [s_X4_loseOnWay_2]
theorem v_X4_loseOnWay_2 : vc X P m_X4_loseOnWay h K k_X4_loseOnWay S (n + 1) 2 ls st μ = if 2 ∈ S then mAt X m_X4_loseOnWay h K 2 ls st μ else bb X P m_X4_loseOnWay h K (vc X P m_X4_loseOnWay h K k_X4_loseOnWay S n) s_X4_loseOnWay_2 ls st μ := by rw [vc_s, t_X4_loseOnWay_2]
theorem w_X4_loseOnWay_51 : bb X P m_X4_loseOnWay h K J s_X4_loseOnWay_51 ls st μ = bb X P m_X4_loseOnWay h K J ((51, .return_, 1, 0, 0, 0, .inl 0, []) :: []) ls st μ := by rw [s_X4_loseOnWay_51]
theorem v_X4_loseOnWay_51 : vc X P m_X4_loseOnWay h K k_X4_loseOnWay S (n + 1) 51 ls st μ = if 51 ∈ S then mAt X m_X4_loseOnWay h K 51 ls st μ else bb X P m_X4_loseOnWay h K (vc X P m_X4_loseOnWay h K k_X4_loseOnWay S n) s_X4_loseOnWay_51 ls st μ := by rw [vc_s, t_X4_loseOnWay_51]
end
section
variable {X : mC} {P : mP} {h : Nat} {K : MV → Mem → Prop} {J : mJ} {ls : List (Nat × MV)} {st : List MV} {μ : Mem} {S : List Nat} {n : Nat}
theorem w_X4_pass_0 : bb X P m_X4_pass h K J s_X4_pass_0 ls st μ = bb X P m_X4_pass h K J ((0, .aload_n 0, 1, 0, 0, 0, .inl 0, []) ::
  (1, .getfield 9, 3, 3, 0, 0, .inl 0, [378]) ::
  (4, .bipush 12, 2, 0, 0, 0, .inl (nI 12), []) ::
  (6, .irem, 1, 0, 0, 0, .inl 0, []) ::
  (7, .istore_n 3, 1, 3, 0, 0, .inl 0, []) ::
  (8, .aload_n 1, 1, 1, 0, 0, .inl 0, []) ::
  (9, .getfield 91, 3, 0, 3, 2, .inl 0, [253]) ::
  (12, .ifCond .eq 8, 3, 20, 0, 0, .inl 0, []) ::
  (15, .aload_n 0, 1, 0, 0, 0, .inl 0, []) ::
  (16, .aload_n 1, 1, 1, 0, 0, .inl 0, []) ::
  (17, .invokevirtual 95, 3, 41, 2, 0, .inl 0, [740, 3]) :: s_X4_pass_20) ls st μ := by rw [s_X4_pass_0]
theorem v_X4_pass_0 : vc X P m_X4_pass h K k_X4_pass S (n + 1) 0 ls st μ = if 0 ∈ S then mAt X m_X4_pass h K 0 ls st μ else bb X P m_X4_pass h K (vc X P m_X4_pass h K k_X4_pass S n) s_X4_pass_0 ls st μ := by rw [vc_s, t_X4_pass_0]
theorem w_X4_pass_20 : bb X P m_X4_pass h K J s_X4_pass_20 ls st μ = bb X P m_X4_pass h K J ((20, .iconst 0, 1, 0, 0, 0, .inl (nI 0), []) ::
  (21, .istore 4, 2, 4, 0, 0, .inl 0, []) :: s_X4_pass_23) ls st μ := by rw [s_X4_pass_20]
theorem v_X4_pass_20 : vc X P m_X4_pass h K k_X4_pass S (n + 1) 20 ls st μ = if 20 ∈ S then mAt X m_X4_pass h K 20 ls st μ else bb X P m_X4_pass h K (vc X P m_X4_pass h K k_X4_pass S n) s_X4_pass_20 ls st μ := by rw [vc_s, t_X4_pass_20]
theorem w_X4_pass_23 : bb X P m_X4_pass h K J s_X4_pass_23 ls st μ = bb X P m_X4_pass h K J ((23, .iload 4, 2, 4, 0, 0, .inl 0, []) ::
  (25, .aload_n 1, 1, 1, 0, 0, .inl 0, []) ::
  (26, .getfield 69, 3, 0, 1, 0, .inl 0, [248]) ::
  (29, .if_icmp .ge 93, 3, 122, 0, 0, .inl 0, []) ::
  (32, .aload_n 0, 1, 0, 0, 0, .inl 0, []) ::
  (33, .aload_n 1, 1, 1, 0, 0, .inl 0, []) ::
  (34, .iload 4, 2, 4, 0, 0, .inl 0, []) ::
  (36, .invokevirtual 99, 3, 32, 3, 0, .inl 0, [748, 3]) ::
  (39, .aload_n 1, 1, 1, 0, 0, .inl 0, []) ::
  (40, .getfield 102, 3, 0, 7, 3, .inr (.inr (16, 8, 4)), [263]) ::
  (43, .iload 4, 2, 4, 0, 0, .inl 0, []) ::
  (45, .iaload, 1, 0, 0, 0, .inl 0, []) ::
  (46, .iload_n 3, 1, 3, 0, 0, .inl 0, []) ::
  (47, .if_icmp .gt 18, 3, 65, 0, 0, .inl 0, []) ::
  (50, .iload_n 3, 1, 3, 0, 0, .inl 0, []) ::
  (51, .aload_n 1, 1, 1, 0, 0, .inl 0, []) ::
  (52, .getfield 105, 3, 0, 8, 3, .inr (.inr (16, 8, 5)), [266]) ::
  (55, .iload 4, 2, 4, 0, 0, .inl 0, []) ::
  (57, .iaload, 1, 0, 0, 0, .inl 0, []) ::
  (58, .if_icmp .gt 7, 3, 65, 0, 0, .inl 0, []) ::
  (61, .iconst 1, 1, 0, 0, 0, .inl (nI 1), []) ::
  (62, .goto 4, 3, 66, 0, 0, .inl 0, []) :: s_X4_pass_65) ls st μ := by rw [s_X4_pass_23]
theorem v_X4_pass_23 : vc X P m_X4_pass h K k_X4_pass S (n + 1) 23 ls st μ = if 23 ∈ S then mAt X m_X4_pass h K 23 ls st μ else bb X P m_X4_pass h K (vc X P m_X4_pass h K k_X4_pass S n) s_X4_pass_23 ls st μ := by rw [vc_s, t_X4_pass_23]
theorem w_X4_pass_65 : bb X P m_X4_pass h K J s_X4_pass_65 ls st μ = bb X P m_X4_pass h K J ((65, .iconst 0, 1, 0, 0, 0, .inl (nI 0), []) :: s_X4_pass_66) ls st μ := by rw [s_X4_pass_65]
theorem v_X4_pass_65 : vc X P m_X4_pass h K k_X4_pass S (n + 1) 65 ls st μ = if 65 ∈ S then mAt X m_X4_pass h K 65 ls st μ else bb X P m_X4_pass h K (vc X P m_X4_pass h K k_X4_pass S n) s_X4_pass_65 ls st μ := by rw [vc_s, t_X4_pass_65]
theorem w_X4_pass_66 : bb X P m_X4_pass h K J s_X4_pass_66 ls st μ = bb X P m_X4_pass h K J ((66, .istore 5, 2, 5, 0, 0, .inl 0, []) ::
  (68, .iload 5, 2, 5, 0, 0, .inl 0, []) ::
  (70, .ifCond .eq 30, 3, 100, 0, 0, .inl 0, []) ::
  (73, .iload_n 2, 1, 2, 0, 0, .inl 0, []) ::
  (74, .iload 4, 2, 4, 0, 0, .inl 0, []) ::
  (76, .ishr, 1, 0, 0, 0, .inl 0, []) ::
  (77, .iconst 1, 1, 0, 0, 0, .inl (nI 1), []) ::
  (78, .iand, 1, 0, 0, 0, .inl 0, []) ::
  (79, .iconst 1, 1, 0, 0, 0, .inl (nI 1), []) ::
  (80, .if_icmp .ne 20, 3, 100, 0, 0, .inl 0, []) ::
  (83, .aload_n 0, 1, 0, 0, 0, .inl 0, []) ::
  (84, .aload_n 1, 1, 1, 0, 0, .inl 0, []) ::
  (85, .iload 4, 2, 4, 0, 0, .inl 0, []) ::
  (87, .invokevirtual 108, 3, 35, 3, 1, .inl 0, [752, 3]) ::
  (90, .ifCond .eq 10, 3, 100, 0, 0, .inl 0, []) ::
  (93, .aload_n 0, 1, 0, 0, 0, .inl 0, []) ::
  (94, .aload_n 1, 1, 1, 0, 0, .inl 0, []) ::
  (95, .iload 4, 2, 4, 0, 0, .inl 0, []) ::
  (97, .invokevirtual 112, 3, 34, 3, 0, .inl 0, [756, 3]) :: s_X4_pass_100) ls st μ := by rw [s_X4_pass_66]
theorem v_X4_pass_66 : vc X P m_X4_pass h K k_X4_pass S (n + 1) 66 ls st μ = if 66 ∈ S then mAt X m_X4_pass h K 66 ls st μ else bb X P m_X4_pass h K (vc X P m_X4_pass h K k_X4_pass S n) s_X4_pass_66 ls st μ := by rw [vc_s, t_X4_pass_66]
theorem w_X4_pass_100 : bb X P m_X4_pass h K J s_X4_pass_100 ls st μ = bb X P m_X4_pass h K J ((100, .iload 4, 2, 4, 0, 0, .inl 0, []) ::
  (102, .aload_n 1, 1, 1, 0, 0, .inl 0, []) ::
  (103, .getfield 69, 3, 0, 1, 0, .inl 0, [248]) ::
  (106, .iconst 1, 1, 0, 0, 0, .inl (nI 1), []) ::
  (107, .isub, 1, 0, 0, 0, .inl 0, []) ::
  (108, .if_icmp .ge 8, 3, 116, 0, 0, .inl 0, []) ::
  (111, .aload_n 0, 1, 0, 0, 0, .inl 0, []) ::
  (112, .aload_n 1, 1, 1, 0, 0, .inl 0, []) ::
  (113, .invokevirtual 95, 3, 41, 2, 0, .inl 0, [740, 3]) :: s_X4_pass_116) ls st μ := by rw [s_X4_pass_100]
theorem v_X4_pass_100 : vc X P m_X4_pass h K k_X4_pass S (n + 1) 100 ls st μ = if 100 ∈ S then mAt X m_X4_pass h K 100 ls st μ else bb X P m_X4_pass h K (vc X P m_X4_pass h K k_X4_pass S n) s_X4_pass_100 ls st μ := by rw [vc_s, t_X4_pass_100]
theorem w_X4_pass_116 : bb X P m_X4_pass h K J s_X4_pass_116 ls st μ = bb X P m_X4_pass h K J ((116, .iinc 4 1, 3, 4, 0, 0, .inl (nI 1), []) ::
  (119, .goto (-96), 3, 23, 0, 0, .inl 0, []) :: s_X4_pass_122) ls st μ := by rw [s_X4_pass_116]
theorem v_X4_pass_116 : vc X P m_X4_pass h K k_X4_pass S (n + 1) 116 ls st μ = if 116 ∈ S then mAt X m_X4_pass h K 116 ls st μ else bb X P m_X4_pass h K (vc X P m_X4_pass h K k_X4_pass S n) s_X4_pass_116 ls st μ := by rw [vc_s, t_X4_pass_116]
theorem w_X4_pass_122 : bb X P m_X4_pass h K J s_X4_pass_122 ls st μ = bb X P m_X4_pass h K J ((122, .aload_n 1, 1, 1, 0, 0, .inl 0, []) ::
  (123, .getfield 91, 3, 0, 3, 2, .inl 0, [253]) ::
  (126, .ifCond .ne 8, 3, 134, 0, 0, .inl 0, []) ::
  (129, .aload_n 0, 1, 0, 0, 0, .inl 0, []) ::
  (130, .aload_n 1, 1, 1, 0, 0, .inl 0, []) ::
  (131, .invokevirtual 115, 3, 40, 2, 0, .inl 0, [760, 3]) :: s_X4_pass_134) ls st μ := by rw [s_X4_pass_122]
theorem v_X4_pass_122 : vc X P m_X4_pass h K k_X4_pass S (n + 1) 122 ls st μ = if 122 ∈ S then mAt X m_X4_pass h K 122 ls st μ else bb X P m_X4_pass h K (vc X P m_X4_pass h K k_X4_pass S n) s_X4_pass_122 ls st μ := by rw [vc_s, t_X4_pass_122]
theorem w_X4_pass_134 : bb X P m_X4_pass h K J s_X4_pass_134 ls st μ = bb X P m_X4_pass h K J ((134, .aload_n 0, 1, 0, 0, 0, .inl 0, []) ::
  (135, .dup, 1, 0, 0, 0, .inl 0, []) ::
  (136, .getfield 9, 3, 3, 0, 0, .inl 0, [378]) ::
  (139, .iconst 1, 1, 0, 0, 0, .inl (nI 1), []) ::
  (140, .iadd, 1, 0, 0, 0, .inl 0, []) ::
  (141, .putfield 9, 3, 3, 0, 0, .inl 0, [378]) ::
  (144, .return_, 1, 0, 0, 0, .inl 0, []) :: []) ls st μ := by rw [s_X4_pass_134]
theorem v_X4_pass_134 : vc X P m_X4_pass h K k_X4_pass S (n + 1) 134 ls st μ = if 134 ∈ S then mAt X m_X4_pass h K 134 ls st μ else bb X P m_X4_pass h K (vc X P m_X4_pass h K k_X4_pass S n) s_X4_pass_134 ls st μ := by rw [vc_s, t_X4_pass_134]
end
section
variable {X : mC} {P : mP} {h : Nat} {K : MV → Mem → Prop} {J : mJ} {ls : List (Nat × MV)} {st : List MV} {μ : Mem} {S : List Nat} {n : Nat}
theorem w_X4_passMany_0 : bb X P m_X4_passMany h K J s_X4_passMany_0 ls st μ = bb X P m_X4_passMany h K J ((0, .iconst 0, 1, 0, 0, 0, .inl (nI 0), []) ::
  (1, .istore 4, 2, 4, 0, 0, .inl 0, []) :: s_X4_passMany_3) ls st μ := by rw [s_X4_passMany_0]
theorem v_X4_passMany_0 : vc X P m_X4_passMany h K k_X4_passMany S (n + 1) 0 ls st μ = if 0 ∈ S then mAt X m_X4_passMany h K 0 ls st μ else bb X P m_X4_passMany h K (vc X P m_X4_passMany h K k_X4_passMany S n) s_X4_passMany_0 ls st μ := by rw [vc_s, t_X4_passMany_0]
theorem w_X4_passMany_3 : bb X P m_X4_passMany h K J s_X4_passMany_3 ls st μ = bb X P m_X4_passMany h K J ((3, .iload 4, 2, 4, 0, 0, .inl 0, []) ::
  (5, .iload_n 3, 1, 3, 0, 0, .inl 0, []) ::
  (6, .if_icmp .ge 15, 3, 21, 0, 0, .inl 0, []) ::
  (9, .aload_n 0, 1, 0, 0, 0, .inl 0, []) ::
  (10, .aload_n 1, 1, 1, 0, 0, .inl 0, []) ::
  (11, .iload_n 2, 1, 2, 0, 0, .inl 0, []) ::
  (12, .invokevirtual 87, 3, 42, 3, 0, .inl 0, [849, 3]) ::
  (15, .iinc 4 1, 3, 4, 0, 0, .inl (nI 1), []) ::
  (18, .goto (-15), 3, 3, 0, 0, .inl 0, []) :: s_X4_passMany_21) ls st μ := by rw [s_X4_passMany_3]
theorem v_X4_passMany_3 : vc X P m_X4_passMany h K k_X4_passMany S (n + 1) 3 ls st μ = if 3 ∈ S then mAt X m_X4_passMany h K 3 ls st μ else bb X P m_X4_passMany h K (vc X P m_X4_passMany h K k_X4_passMany S n) s_X4_passMany_3 ls st μ := by rw [vc_s, t_X4_passMany_3]
theorem w_X4_passMany_21 : bb X P m_X4_passMany h K J s_X4_passMany_21 ls st μ = bb X P m_X4_passMany h K J ((21, .return_, 1, 0, 0, 0, .inl 0, []) :: []) ls st μ := by rw [s_X4_passMany_21]
theorem v_X4_passMany_21 : vc X P m_X4_passMany h K k_X4_passMany S (n + 1) 21 ls st μ = if 21 ∈ S then mAt X m_X4_passMany h K 21 ls st μ else bb X P m_X4_passMany h K (vc X P m_X4_passMany h K k_X4_passMany S n) s_X4_passMany_21 ls st μ := by rw [vc_s, t_X4_passMany_21]
end
section
variable {X : mC} {P : mP} {h : Nat} {K : MV → Mem → Prop} {J : mJ} {ls : List (Nat × MV)} {st : List MV} {μ : Mem} {S : List Nat} {n : Nat}
theorem w_X4_startAsTold_0 : bb X P m_X4_startAsTold h K J s_X4_startAsTold_0 ls st μ = bb X P m_X4_startAsTold h K J ((0, .aload_n 0, 1, 0, 0, 0, .inl 0, []) ::
  (1, .invokevirtual 61, 3, 45, 1, 0, .inl 0, [702, 3]) ::
  (4, .aload_n 1, 1, 1, 0, 0, .inl 0, []) ::
  (5, .getfield 64, 3, 0, 12, 3, .inr (.inr (16, 48, 9)), [280]) ::
  (8, .iconst 0, 1, 0, 0, 0, .inl (nI 0), []) ::
  (9, .aload_n 0, 1, 0, 0, 0, .inl 0, []) ::
  (10, .getfield 15, 3, 3, 1, 3, .inr (.inr (16, 48, 1)), [382]) ::
  (13, .iconst 0, 1, 0, 0, 0, .inl (nI 0), []) ::
  (14, .bipush 48, 2, 0, 0, 0, .inl (nI 48), []) ::
  (16, .invokestatic 49, 3, 0, 5, 9, .inl 0, [707]) ::
  (19, .return_, 1, 0, 0, 0, .inl 0, []) :: []) ls st μ := by rw [s_X4_startAsTold_0]
theorem v_X4_startAsTold_0 : vc X P m_X4_startAsTold h K k_X4_startAsTold S (n + 1) 0 ls st μ = if 0 ∈ S then mAt X m_X4_startAsTold h K 0 ls st μ else bb X P m_X4_startAsTold h K (vc X P m_X4_startAsTold h K k_X4_startAsTold S n) s_X4_startAsTold_0 ls st μ := by rw [vc_s, t_X4_startAsTold_0]
end
section
variable {X : mC} {P : mP} {h : Nat} {K : MV → Mem → Prop} {J : mJ} {ls : List (Nat × MV)} {st : List MV} {μ : Mem} {S : List Nat} {n : Nat}
theorem w_X4_startEmpty_0 : bb X P m_X4_startEmpty h K J s_X4_startEmpty_0 ls st μ = bb X P m_X4_startEmpty h K J ((0, .aload_n 0, 1, 0, 0, 0, .inl 0, []) ::
  (1, .iconst 0, 1, 0, 0, 0, .inl (nI 0), []) ::
  (2, .putfield 9, 3, 3, 0, 0, .inl 0, [378]) ::
  (5, .aload_n 0, 1, 0, 0, 0, .inl 0, []) ::
  (6, .getfield 15, 3, 3, 1, 3, .inr (.inr (16, 48, 1)), [382]) ::
  (9, .iconst 0, 1, 0, 0, 0, .inl (nI 0), []) ::
  (10, .invokestatic 55, 3, 1, 2, 0, .inl 0, [706]) ::
  (13, .aload_n 0, 1, 0, 0, 0, .inl 0, []) ::
  (14, .getfield 19, 3, 3, 2, 3, .inr (.inr (16, 48, 2)), [384]) ::
  (17, .iconst 0, 1, 0, 0, 0, .inl (nI 0), []) ::
  (18, .invokestatic 55, 3, 1, 2, 0, .inl 0, [706]) ::
  (21, .aload_n 0, 1, 0, 0, 0, .inl 0, []) ::
  (22, .getfield 22, 3, 3, 3, 3, .inr (.inr (16, 48, 3)), [385]) ::
  (25, .iconst 0, 1, 0, 0, 0, .inl (nI 0), []) ::
  (26, .invokestatic 55, 3, 1, 2, 0, .inl 0, [706]) ::
  (29, .aload_n 0, 1, 0, 0, 0, .inl 0, []) ::
  (30, .getfield 25, 3, 3, 4, 3, .inr (.inr (16, 48, 4)), [387]) ::
  (33, .iconst 0, 1, 0, 0, 0, .inl (nI 0), []) ::
  (34, .invokestatic 55, 3, 1, 2, 0, .inl 0, [706]) ::
  (37, .aload_n 0, 1, 0, 0, 0, .inl 0, []) ::
  (38, .getfield 28, 3, 3, 5, 3, .inr (.inr (16, 6, 5)), [389]) ::
  (41, .iconst 0, 1, 0, 0, 0, .inl (nI 0), []) ::
  (42, .invokestatic 55, 3, 1, 2, 0, .inl 0, [706]) ::
  (45, .aload_n 0, 1, 0, 0, 0, .inl 0, []) ::
  (46, .getfield 31, 3, 3, 6, 3, .inr (.inr (16, 6, 6)), [391]) ::
  (49, .iconst 0, 1, 0, 0, 0, .inl (nI 0), []) ::
  (50, .invokestatic 55, 3, 1, 2, 0, .inl 0, [706]) ::
  (53, .aload_n 0, 1, 0, 0, 0, .inl 0, []) ::
  (54, .getfield 34, 3, 3, 7, 3, .inr (.inr (16, 6, 7)), [392]) ::
  (57, .iconst 0, 1, 0, 0, 0, .inl (nI 0), []) ::
  (58, .invokestatic 55, 3, 1, 2, 0, .inl 0, [706]) ::
  (61, .aload_n 0, 1, 0, 0, 0, .inl 0, []) ::
  (62, .getfield 37, 3, 3, 8, 3, .inr (.inr (16, 8, 8)), [393]) ::
  (65, .iconst 0, 1, 0, 0, 0, .inl (nI 0), []) ::
  (66, .invokestatic 55, 3, 1, 2, 0, .inl 0, [706]) ::
  (69, .aload_n 0, 1, 0, 0, 0, .inl 0, []) ::
  (70, .getfield 40, 3, 3, 9, 3, .inr (.inr (16, 8, 9)), [396]) ::
  (73, .iconst (-1), 1, 0, 0, 0, .inl (-1), []) ::
  (74, .invokestatic 55, 3, 1, 2, 0, .inl 0, [706]) ::
  (77, .aload_n 0, 1, 0, 0, 0, .inl 0, []) ::
  (78, .getfield 43, 3, 3, 10, 3, .inr (.inr (16, 8, 10)), [398]) ::
  (81, .iconst 0, 1, 0, 0, 0, .inl (nI 0), []) ::
  (82, .invokestatic 55, 3, 1, 2, 0, .inl 0, [706]) ::
  (85, .aload_n 0, 1, 0, 0, 0, .inl 0, []) ::
  (86, .getfield 46, 3, 3, 11, 3, .inr (.inr (16, 36, 11)), [401]) ::
  (89, .iconst 0, 1, 0, 0, 0, .inl (nI 0), []) ::
  (90, .invokestatic 55, 3, 1, 2, 0, .inl 0, [706]) ::
  (93, .return_, 1, 0, 0, 0, .inl 0, []) :: []) ls st μ := by rw [s_X4_startEmpty_0]
theorem v_X4_startEmpty_0 : vc X P m_X4_startEmpty h K k_X4_startEmpty S (n + 1) 0 ls st μ = if 0 ∈ S then mAt X m_X4_startEmpty h K 0 ls st μ else bb X P m_X4_startEmpty h K (vc X P m_X4_startEmpty h K k_X4_startEmpty S n) s_X4_startEmpty_0 ls st μ := by rw [vc_s, t_X4_startEmpty_0]
end
section
variable {X : mC} {P : mP} {h : Nat} {K : MV → Mem → Prop} {J : mJ} {ls : List (Nat × MV)} {st : List MV} {μ : Mem} {S : List Nat} {n : Nat}
theorem w_X4_startKindled_0 : bb X P m_X4_startKindled h K J s_X4_startKindled_0 ls st μ = bb X P m_X4_startKindled h K J ((0, .aload_n 0, 1, 0, 0, 0, .inl 0, []) ::
  (1, .invokevirtual 61, 3, 45, 1, 0, .inl 0, [702, 3]) ::
  (4, .iconst 0, 1, 0, 0, 0, .inl (nI 0), []) ::
  (5, .istore_n 3, 1, 3, 0, 0, .inl 0, []) ::
  (6, .iconst 0, 1, 0, 0, 0, .inl (nI 0), []) ::
  (7, .istore 4, 2, 4, 0, 0, .inl 0, []) :: s_X4_startKindled_9) ls st μ := by rw [s_X4_startKindled_0]
theorem v_X4_startKindled_0 : vc X P m_X4_startKindled h K k_X4_startKindled S (n + 1) 0 ls st μ = if 0 ∈ S then mAt X m_X4_startKindled h K 0 ls st μ else bb X P m_X4_startKindled h K (vc X P m_X4_startKindled h K k_X4_startKindled S n) s_X4_startKindled_0 ls st μ := by rw [vc_s, t_X4_startKindled_0]
theorem w_X4_startKindled_9 : bb X P m_X4_startKindled h K J s_X4_startKindled_9 ls st μ = bb X P m_X4_startKindled h K J ((9, .iload 4, 2, 4, 0, 0, .inl 0, []) ::
  (11, .aload_n 1, 1, 1, 0, 0, .inl 0, []) ::
  (12, .getfield 69, 3, 0, 1, 0, .inl 0, [248]) ::
  (15, .if_icmp .ge 79, 3, 94, 0, 0, .inl 0, []) ::
  (18, .iconst 0, 1, 0, 0, 0, .inl (nI 0), []) ::
  (19, .istore 5, 2, 5, 0, 0, .inl 0, []) :: s_X4_startKindled_21) ls st μ := by rw [s_X4_startKindled_9]
theorem v_X4_startKindled_9 : vc X P m_X4_startKindled h K k_X4_startKindled S (n + 1) 9 ls st μ = if 9 ∈ S then mAt X m_X4_startKindled h K 9 ls st μ else bb X P m_X4_startKindled h K (vc X P m_X4_startKindled h K k_X4_startKindled S n) s_X4_startKindled_9 ls st μ := by rw [vc_s, t_X4_startKindled_9]
theorem w_X4_startKindled_21 : bb X P m_X4_startKindled h K J s_X4_startKindled_21 ls st μ = bb X P m_X4_startKindled h K J ((21, .iload 5, 2, 5, 0, 0, .inl 0, []) ::
  (23, .aload_n 1, 1, 1, 0, 0, .inl 0, []) ::
  (24, .getfield 72, 3, 0, 0, 0, .inl 0, [245]) ::
  (27, .if_icmp .ge 61, 3, 88, 0, 0, .inl 0, []) ::
  (30, .iload_n 2, 1, 2, 0, 0, .inl 0, []) ::
  (31, .iload 4, 2, 4, 0, 0, .inl 0, []) ::
  (33, .ishr, 1, 0, 0, 0, .inl 0, []) ::
  (34, .iconst 1, 1, 0, 0, 0, .inl (nI 1), []) ::
  (35, .iand, 1, 0, 0, 0, .inl 0, []) ::
  (36, .iconst 1, 1, 0, 0, 0, .inl (nI 1), []) ::
  (37, .if_icmp .ne 51, 3, 88, 0, 0, .inl 0, []) ::
  (40, .aload_n 0, 1, 0, 0, 0, .inl 0, []) ::
  (41, .getfield 15, 3, 3, 1, 3, .inr (.inr (16, 48, 1)), [382]) ::
  (44, .iload 4, 2, 4, 0, 0, .inl 0, []) ::
  (46, .bipush 6, 2, 0, 0, 0, .inl (nI 6), []) ::
  (48, .imul, 1, 0, 0, 0, .inl 0, []) ::
  (49, .iload 5, 2, 5, 0, 0, .inl 0, []) ::
  (51, .iadd, 1, 0, 0, 0, .inl 0, []) ::
  (52, .aload_n 1, 1, 1, 0, 0, .inl 0, []) ::
  (53, .getfield 75, 3, 0, 10, 3, .inr (.inr (16, 48, 7)), [272]) ::
  (56, .iload 4, 2, 4, 0, 0, .inl 0, []) ::
  (58, .bipush 6, 2, 0, 0, 0, .inl (nI 6), []) ::
  (60, .imul, 1, 0, 0, 0, .inl 0, []) ::
  (61, .iload 5, 2, 5, 0, 0, .inl 0, []) ::
  (63, .iadd, 1, 0, 0, 0, .inl 0, []) ::
  (64, .iaload, 1, 0, 0, 0, .inl 0, []) ::
  (65, .iastore, 1, 0, 0, 0, .inl 0, []) ::
  (66, .iload_n 3, 1, 3, 0, 0, .inl 0, []) ::
  (67, .aload_n 1, 1, 1, 0, 0, .inl 0, []) ::
  (68, .getfield 75, 3, 0, 10, 3, .inr (.inr (16, 48, 7)), [272]) ::
  (71, .iload 4, 2, 4, 0, 0, .inl 0, []) ::
  (73, .bipush 6, 2, 0, 0, 0, .inl (nI 6), []) ::
  (75, .imul, 1, 0, 0, 0, .inl 0, []) ::
  (76, .iload 5, 2, 5, 0, 0, .inl 0, []) ::
  (78, .iadd, 1, 0, 0, 0, .inl 0, []) ::
  (79, .iaload, 1, 0, 0, 0, .inl 0, []) ::
  (80, .iadd, 1, 0, 0, 0, .inl 0, []) ::
  (81, .istore_n 3, 1, 3, 0, 0, .inl 0, []) ::
  (82, .iinc 5 1, 3, 5, 0, 0, .inl (nI 1), []) ::
  (85, .goto (-64), 3, 21, 0, 0, .inl 0, []) :: s_X4_startKindled_88) ls st μ := by rw [s_X4_startKindled_21]
theorem v_X4_startKindled_21 : vc X P m_X4_startKindled h K k_X4_startKindled S (n + 1) 21 ls st μ = if 21 ∈ S then mAt X m_X4_startKindled h K 21 ls st μ else bb X P m_X4_startKindled h K (vc X P m_X4_startKindled h K k_X4_startKindled S n) s_X4_startKindled_21 ls st μ := by rw [vc_s, t_X4_startKindled_21]
theorem w_X4_startKindled_88 : bb X P m_X4_startKindled h K J s_X4_startKindled_88 ls st μ = bb X P m_X4_startKindled h K J ((88, .iinc 4 1, 3, 4, 0, 0, .inl (nI 1), []) ::
  (91, .goto (-82), 3, 9, 0, 0, .inl 0, []) :: s_X4_startKindled_94) ls st μ := by rw [s_X4_startKindled_88]
theorem v_X4_startKindled_88 : vc X P m_X4_startKindled h K k_X4_startKindled S (n + 1) 88 ls st μ = if 88 ∈ S then mAt X m_X4_startKindled h K 88 ls st μ else bb X P m_X4_startKindled h K (vc X P m_X4_startKindled h K k_X4_startKindled S n) s_X4_startKindled_88 ls st μ := by rw [vc_s, t_X4_startKindled_88]
theorem w_X4_startKindled_94 : bb X P m_X4_startKindled h K J s_X4_startKindled_94 ls st μ = bb X P m_X4_startKindled h K J ((94, .iload_n 3, 1, 3, 0, 0, .inl 0, []) ::
  (95, .ireturn, 1, 0, 0, 0, .inl 0, []) :: []) ls st μ := by rw [s_X4_startKindled_94]
theorem v_X4_startKindled_94 : vc X P m_X4_startKindled h K k_X4_startKindled S (n + 1) 94 ls st μ = if 94 ∈ S then mAt X m_X4_startKindled h K 94 ls st μ else bb X P m_X4_startKindled h K (vc X P m_X4_startKindled h K k_X4_startKindled S n) s_X4_startKindled_94 ls st μ := by rw [vc_s, t_X4_startKindled_94]
end
section
variable {X : mC} {P : mP} {h : Nat} {K : MV → Mem → Prop} {J : mJ} {ls : List (Nat × MV)} {st : List MV} {μ : Mem} {S : List Nat} {n : Nat}
theorem w_X4_total_0 : bb X P m_X4_total h K J s_X4_total_0 ls st μ = bb X P m_X4_total h K J ((0, .iconst 0, 1, 0, 0, 0, .inl (nI 0), []) ::
  (1, .istore_n 2, 1, 2, 0, 0, .inl 0, []) ::
  (2, .iconst 0, 1, 0, 0, 0, .inl (nI 0), []) ::
  (3, .istore_n 3, 1, 3, 0, 0, .inl 0, []) :: s_X4_total_4) ls st μ := by rw [s_X4_total_0]
theorem v_X4_total_0 : vc X P m_X4_total h K k_X4_total S (n + 1) 0 ls st μ = if 0 ∈ S then mAt X m_X4_total h K 0 ls st μ else bb X P m_X4_total h K (vc X P m_X4_total h K k_X4_total S n) s_X4_total_0 ls st μ := by rw [vc_s, t_X4_total_0]
theorem w_X4_total_4 : bb X P m_X4_total h K J s_X4_total_4 ls st μ = bb X P m_X4_total h K J ((4, .iload_n 3, 1, 3, 0, 0, .inl 0, []) ::
  (5, .aload_n 1, 1, 1, 0, 0, .inl 0, []) ::
  (6, .getfield 69, 3, 0, 1, 0, .inl 0, [248]) ::
  (9, .if_icmp .ge 25, 3, 34, 0, 0, .inl 0, []) ::
  (12, .iload_n 2, 1, 2, 0, 0, .inl 0, []) ::
  (13, .aload_n 0, 1, 0, 0, 0, .inl 0, []) ::
  (14, .getfield 37, 3, 3, 8, 3, .inr (.inr (16, 8, 8)), [393]) ::
  (17, .iload_n 3, 1, 3, 0, 0, .inl 0, []) ::
  (18, .iaload, 1, 0, 0, 0, .inl 0, []) ::
  (19, .aload_n 1, 1, 1, 0, 0, .inl 0, []) ::
  (20, .getfield 131, 3, 0, 9, 3, .inr (.inr (16, 8, 6)), [270]) ::
  (23, .iload_n 3, 1, 3, 0, 0, .inl 0, []) ::
  (24, .iaload, 1, 0, 0, 0, .inl 0, []) ::
  (25, .imul, 1, 0, 0, 0, .inl 0, []) ::
  (26, .iadd, 1, 0, 0, 0, .inl 0, []) ::
  (27, .istore_n 2, 1, 2, 0, 0, .inl 0, []) ::
  (28, .iinc 3 1, 3, 3, 0, 0, .inl (nI 1), []) ::
  (31, .goto (-27), 3, 4, 0, 0, .inl 0, []) :: s_X4_total_34) ls st μ := by rw [s_X4_total_4]
theorem v_X4_total_4 : vc X P m_X4_total h K k_X4_total S (n + 1) 4 ls st μ = if 4 ∈ S then mAt X m_X4_total h K 4 ls st μ else bb X P m_X4_total h K (vc X P m_X4_total h K k_X4_total S n) s_X4_total_4 ls st μ := by rw [vc_s, t_X4_total_4]
theorem w_X4_total_34 : bb X P m_X4_total h K J s_X4_total_34 ls st μ = bb X P m_X4_total h K J ((34, .iload_n 2, 1, 2, 0, 0, .inl 0, []) ::
  (35, .ireturn, 1, 0, 0, 0, .inl 0, []) :: []) ls st μ := by rw [s_X4_total_34]
theorem v_X4_total_34 : vc X P m_X4_total h K k_X4_total S (n + 1) 34 ls st μ = if 34 ∈ S then mAt X m_X4_total h K 34 ls st μ else bb X P m_X4_total h K (vc X P m_X4_total h K k_X4_total S n) s_X4_total_34 ls st μ := by rw [vc_s, t_X4_total_34]
end
section
variable {X : mC} {P : mP} {h : Nat} {K : MV → Mem → Prop} {J : mJ} {ls : List (Nat × MV)} {st : List MV} {μ : Mem} {S : List Nat} {n : Nat}
theorem w_X4_wentLately_0 : bb X P m_X4_wentLately h K J s_X4_wentLately_0 ls st μ = bb X P m_X4_wentLately h K J ((0, .aload_n 0, 1, 0, 0, 0, .inl 0, []) ::
  (1, .getfield 37, 3, 3, 8, 3, .inr (.inr (16, 8, 8)), [393]) ::
  (4, .iload_n 1, 1, 1, 0, 0, .inl 0, []) ::
  (5, .iaload, 1, 0, 0, 0, .inl 0, []) ::
  (6, .ifCond .le 22, 3, 28, 0, 0, .inl 0, []) ::
  (9, .aload_n 0, 1, 0, 0, 0, .inl 0, []) ::
  (10, .getfield 40, 3, 3, 9, 3, .inr (.inr (16, 8, 9)), [396]) ::
  (13, .iload_n 1, 1, 1, 0, 0, .inl 0, []) ::
  (14, .iaload, 1, 0, 0, 0, .inl 0, []) ::
  (15, .aload_n 0, 1, 0, 0, 0, .inl 0, []) ::
  (16, .getfield 9, 3, 3, 0, 0, .inl 0, [378]) ::
  (19, .iconst 1, 1, 0, 0, 0, .inl (nI 1), []) ::
  (20, .isub, 1, 0, 0, 0, .inl 0, []) ::
  (21, .if_icmp .ne 7, 3, 28, 0, 0, .inl 0, []) ::
  (24, .iconst 1, 1, 0, 0, 0, .inl (nI 1), []) ::
  (25, .goto 4, 3, 29, 0, 0, .inl 0, []) :: s_X4_wentLately_28) ls st μ := by rw [s_X4_wentLately_0]
theorem v_X4_wentLately_0 : vc X P m_X4_wentLately h K k_X4_wentLately S (n + 1) 0 ls st μ = if 0 ∈ S then mAt X m_X4_wentLately h K 0 ls st μ else bb X P m_X4_wentLately h K (vc X P m_X4_wentLately h K k_X4_wentLately S n) s_X4_wentLately_0 ls st μ := by rw [vc_s, t_X4_wentLately_0]
theorem w_X4_wentLately_28 : bb X P m_X4_wentLately h K J s_X4_wentLately_28 ls st μ = bb X P m_X4_wentLately h K J ((28, .iconst 0, 1, 0, 0, 0, .inl (nI 0), []) :: s_X4_wentLately_29) ls st μ := by rw [s_X4_wentLately_28]
theorem v_X4_wentLately_28 : vc X P m_X4_wentLately h K k_X4_wentLately S (n + 1) 28 ls st μ = if 28 ∈ S then mAt X m_X4_wentLately h K 28 ls st μ else bb X P m_X4_wentLately h K (vc X P m_X4_wentLately h K k_X4_wentLately S n) s_X4_wentLately_28 ls st μ := by rw [vc_s, t_X4_wentLately_28]
theorem w_X4_wentLately_29 : bb X P m_X4_wentLately h K J s_X4_wentLately_29 ls st μ = bb X P m_X4_wentLately h K J ((29, .ireturn, 1, 1, 0, 0, .inl 0, []) :: []) ls st μ := by rw [s_X4_wentLately_29]
theorem v_X4_wentLately_29 : vc X P m_X4_wentLately h K k_X4_wentLately S (n + 1) 29 ls st μ = if 29 ∈ S then mAt X m_X4_wentLately h K 29 ls st μ else bb X P m_X4_wentLately h K (vc X P m_X4_wentLately h K k_X4_wentLately S n) s_X4_wentLately_29 ls st μ := by rw [vc_s, t_X4_wentLately_29]
end
section
variable {X : mC} {P : mP} {h : Nat} {K : MV → Mem → Prop} {J : mJ} {ls : List (Nat × MV)} {st : List MV} {μ : Mem} {S : List Nat} {n : Nat}
theorem w_X5_addStep_0 : bb X P m_X5_addStep h K J s_X5_addStep_0 ls st μ = bb X P m_X5_addStep h K J ((0, .aload_n 0, 1, 0, 0, 0, .inl 0, []) ::
  (1, .getfield 25, 3, 4, 1, 0, .inl 0, [357]) ::
  (4, .bipush 40, 2, 0, 0, 0, .inl (nI 40), []) ::
  (6, .if_icmp .ge 43, 3, 49, 0, 0, .inl 0, []) ::
  (9, .aload_n 0, 1, 0, 0, 0, .inl 0, []) ::
  (10, .getfield 11, 3, 4, 2, 3, .inr (.inr (16, 40, 1)), [358]) ::
  (13, .aload_n 0, 1, 0, 0, 0, .inl 0, []) ::
  (14, .getfield 25, 3, 4, 1, 0, .inl 0, [357]) ::
  (17, .iload_n 1, 1, 1, 0, 0, .inl 0, []) ::
  (18, .iastore, 1, 0, 0, 0, .inl 0, []) ::
  (19, .aload_n 0, 1, 0, 0, 0, .inl 0, []) ::
  (20, .getfield 15, 3, 4, 3, 3, .inr (.inr (16, 40, 2)), [359]) ::
  (23, .aload_n 0, 1, 0, 0, 0, .inl 0, []) ::
  (24, .getfield 25, 3, 4, 1, 0, .inl 0, [357]) ::
  (27, .iload_n 2, 1, 2, 0, 0, .inl 0, []) ::
  (28, .iastore, 1, 0, 0, 0, .inl 0, []) ::
  (29, .aload_n 0, 1, 0, 0, 0, .inl 0, []) ::
  (30, .getfield 18, 3, 4, 4, 3, .inr (.inr (16, 40, 3)), [360]) ::
  (33, .aload_n 0, 1, 0, 0, 0, .inl 0, []) ::
  (34, .getfield 25, 3, 4, 1, 0, .inl 0, [357]) ::
  (37, .iload_n 3, 1, 3, 0, 0, .inl 0, []) ::
  (38, .iastore, 1, 0, 0, 0, .inl 0, []) ::
  (39, .aload_n 0, 1, 0, 0, 0, .inl 0, []) ::
  (40, .dup, 1, 0, 0, 0, .inl 0, []) ::
  (41, .getfield 25, 3, 4, 1, 0, .inl 0, [357]) ::
  (44, .iconst 1, 1, 0, 0, 0, .inl (nI 1), []) ::
  (45, .iadd, 1, 0, 0, 0, .inl 0, []) ::
  (46, .putfield 25, 3, 4, 1, 0, .inl 0, [357]) :: s_X5_addStep_49) ls st μ := by rw [s_X5_addStep_0]
theorem v_X5_addStep_0 : vc X P m_X5_addStep h K k_X5_addStep S (n + 1) 0 ls st μ = if 0 ∈ S then mAt X m_X5_addStep h K 0 ls st μ else bb X P m_X5_addStep h K (vc X P m_X5_addStep h K k_X5_addStep S n) s_X5_addStep_0 ls st μ := by rw [vc_s, t_X5_addStep_0]
theorem w_X5_addStep_49 : bb X P m_X5_addStep h K J s_X5_addStep_49 ls st μ = bb X P m_X5_addStep h K J ((49, .iconst 1, 1, 0, 0, 0, .inl (nI 1), []) ::
  (50, .ireturn, 1, 1, 0, 0, .inl 0, []) :: []) ls st μ := by rw [s_X5_addStep_49]
theorem v_X5_addStep_49 : vc X P m_X5_addStep h K k_X5_addStep S (n + 1) 49 ls st μ = if 49 ∈ S then mAt X m_X5_addStep h K 49 ls st μ else bb X P m_X5_addStep h K (vc X P m_X5_addStep h K k_X5_addStep S n) s_X5_addStep_49 ls st μ := by rw [vc_s, t_X5_addStep_49]
end
section
variable {X : mC} {P : mP} {h : Nat} {K : MV → Mem → Prop} {J : mJ} {ls : List (Nat × MV)} {st : List MV} {μ : Mem} {S : List Nat} {n : Nat}
theorem w_X5_clear_0 : bb X P m_X5_clear h K J s_X5_clear_0 ls st μ = bb X P m_X5_clear h K J ((0, .aload_n 0, 1, 0, 0, 0, .inl 0, []) ::
  (1, .iconst 0, 1, 0, 0, 0, .inl (nI 0), []) ::
  (2, .putfield 21, 3, 4, 0, 0, .inl 0, [355]) ::
  (5, .aload_n 0, 1, 0, 0, 0, .inl 0, []) ::
  (6, .iconst 0, 1, 0, 0, 0, .inl (nI 0), []) ::
  (7, .putfield 25, 3, 4, 1, 0, .inl 0, [357]) ::
  (10, .return_, 1, 0, 0, 0, .inl 0, []) :: []) ls st μ := by rw [s_X5_clear_0]
theorem v_X5_clear_0 : vc X P m_X5_clear h K k_X5_clear S (n + 1) 0 ls st μ = if 0 ∈ S then mAt X m_X5_clear h K 0 ls st μ else bb X P m_X5_clear h K (vc X P m_X5_clear h K k_X5_clear S n) s_X5_clear_0 ls st μ := by rw [vc_s, t_X5_clear_0]
end
section
variable {X : mC} {P : mP} {h : Nat} {K : MV → Mem → Prop} {J : mJ} {ls : List (Nat × MV)} {st : List MV} {μ : Mem} {S : List Nat} {n : Nat}
theorem w_X5_compares_0 : bb X P m_X5_compares h K J s_X5_compares_0 ls st μ = bb X P m_X5_compares h K J ((0, .aload_n 0, 1, 0, 0, 0, .inl 0, []) ::
  (1, .getfield 18, 3, 4, 4, 3, .inr (.inr (16, 40, 3)), [360]) ::
  (4, .iload_n 2, 1, 2, 0, 0, .inl 0, []) ::
  (5, .iaload, 1, 0, 0, 0, .inl 0, []) ::
  (6, .bipush 60, 2, 0, 0, 0, .inl (nI 60), []) ::
  (8, .if_icmp .ne 19, 3, 27, 0, 0, .inl 0, []) ::
  (11, .iload_n 1, 1, 1, 0, 0, .inl 0, []) ::
  (12, .aload_n 0, 1, 0, 0, 0, .inl 0, []) ::
  (13, .getfield 15, 3, 4, 3, 3, .inr (.inr (16, 40, 2)), [359]) ::
  (16, .iload_n 2, 1, 2, 0, 0, .inl 0, []) ::
  (17, .iaload, 1, 0, 0, 0, .inl 0, []) ::
  (18, .if_icmp .ge 7, 3, 25, 0, 0, .inl 0, []) ::
  (21, .iconst 1, 1, 0, 0, 0, .inl (nI 1), []) ::
  (22, .goto 4, 3, 26, 0, 0, .inl 0, []) :: s_X5_compares_25) ls st μ := by rw [s_X5_compares_0]
theorem v_X5_compares_0 : vc X P m_X5_compares h K k_X5_compares S (n + 1) 0 ls st μ = if 0 ∈ S then mAt X m_X5_compares h K 0 ls st μ else bb X P m_X5_compares h K (vc X P m_X5_compares h K k_X5_compares S n) s_X5_compares_0 ls st μ := by rw [vc_s, t_X5_compares_0]
theorem w_X5_compares_25 : bb X P m_X5_compares h K J s_X5_compares_25 ls st μ = bb X P m_X5_compares h K J ((25, .iconst 0, 1, 0, 0, 0, .inl (nI 0), []) :: s_X5_compares_26) ls st μ := by rw [s_X5_compares_25]
theorem v_X5_compares_25 : vc X P m_X5_compares h K k_X5_compares S (n + 1) 25 ls st μ = if 25 ∈ S then mAt X m_X5_compares h K 25 ls st μ else bb X P m_X5_compares h K (vc X P m_X5_compares h K k_X5_compares S n) s_X5_compares_25 ls st μ := by rw [vc_s, t_X5_compares_25]
theorem w_X5_compares_26 : bb X P m_X5_compares h K J s_X5_compares_26 ls st μ = bb X P m_X5_compares h K J ((26, .ireturn, 1, 1, 0, 0, .inl 0, []) :: s_X5_compares_27) ls st μ := by rw [s_X5_compares_26]
theorem v_X5_compares_26 : vc X P m_X5_compares h K k_X5_compares S (n + 1) 26 ls st μ = if 26 ∈ S then mAt X m_X5_compares h K 26 ls st μ else bb X P m_X5_compares h K (vc X P m_X5_compares h K k_X5_compares S n) s_X5_compares_26 ls st μ := by rw [vc_s, t_X5_compares_26]
theorem w_X5_compares_27 : bb X P m_X5_compares h K J s_X5_compares_27 ls st μ = bb X P m_X5_compares h K J ((27, .aload_n 0, 1, 0, 0, 0, .inl 0, []) ::
  (28, .getfield 18, 3, 4, 4, 3, .inr (.inr (16, 40, 3)), [360]) ::
  (31, .iload_n 2, 1, 2, 0, 0, .inl 0, []) ::
  (32, .iaload, 1, 0, 0, 0, .inl 0, []) ::
  (33, .bipush 61, 2, 0, 0, 0, .inl (nI 61), []) ::
  (35, .if_icmp .ne 21, 3, 56, 0, 0, .inl 0, []) ::
  (38, .iload_n 1, 1, 1, 0, 0, .inl 0, []) ::
  (39, .aload_n 0, 1, 0, 0, 0, .inl 0, []) ::
  (40, .getfield 15, 3, 4, 3, 3, .inr (.inr (16, 40, 2)), [359]) ::
  (43, .iload_n 2, 1, 2, 0, 0, .inl 0, []) ::
  (44, .iaload, 1, 0, 0, 0, .inl 0, []) ::
  (45, .if_icmp .ne 7, 3, 52, 0, 0, .inl 0, []) ::
  (48, .iconst 1, 1, 0, 0, 0, .inl (nI 1), []) ::
  (49, .goto 22, 3, 71, 0, 0, .inl 0, []) :: s_X5_compares_52) ls st μ := by rw [s_X5_compares_27]
theorem v_X5_compares_27 : vc X P m_X5_compares h K k_X5_compares S (n + 1) 27 ls st μ = if 27 ∈ S then mAt X m_X5_compares h K 27 ls st μ else bb X P m_X5_compares h K (vc X P m_X5_compares h K k_X5_compares S n) s_X5_compares_27 ls st μ := by rw [vc_s, t_X5_compares_27]
theorem w_X5_compares_52 : bb X P m_X5_compares h K J s_X5_compares_52 ls st μ = bb X P m_X5_compares h K J ((52, .iconst 0, 1, 0, 0, 0, .inl (nI 0), []) ::
  (53, .goto 18, 3, 71, 0, 0, .inl 0, []) :: s_X5_compares_56) ls st μ := by rw [s_X5_compares_52]
theorem v_X5_compares_52 : vc X P m_X5_compares h K k_X5_compares S (n + 1) 52 ls st μ = if 52 ∈ S then mAt X m_X5_compares h K 52 ls st μ else bb X P m_X5_compares h K (vc X P m_X5_compares h K k_X5_compares S n) s_X5_compares_52 ls st μ := by rw [vc_s, t_X5_compares_52]
theorem w_X5_compares_56 : bb X P m_X5_compares h K J s_X5_compares_56 ls st μ = bb X P m_X5_compares h K J ((56, .iload_n 1, 1, 1, 0, 0, .inl 0, []) ::
  (57, .aload_n 0, 1, 0, 0, 0, .inl 0, []) ::
  (58, .getfield 15, 3, 4, 3, 3, .inr (.inr (16, 40, 2)), [359]) ::
  (61, .iload_n 2, 1, 2, 0, 0, .inl 0, []) ::
  (62, .iaload, 1, 0, 0, 0, .inl 0, []) ::
  (63, .if_icmp .le 7, 3, 70, 0, 0, .inl 0, []) ::
  (66, .iconst 1, 1, 0, 0, 0, .inl (nI 1), []) ::
  (67, .goto 4, 3, 71, 0, 0, .inl 0, []) :: s_X5_compares_70) ls st μ := by rw [s_X5_compares_56]
theorem v_X5_compares_56 : vc X P m_X5_compares h K k_X5_compares S (n + 1) 56 ls st μ = if 56 ∈ S then mAt X m_X5_compares h K 56 ls st μ else bb X P m_X5_compares h K (vc X P m_X5_compares h K k_X5_compares S n) s_X5_compares_56 ls st μ := by rw [vc_s, t_X5_compares_56]
theorem w_X5_compares_70 : bb X P m_X5_compares h K J s_X5_compares_70 ls st μ = bb X P m_X5_compares h K J ((70, .iconst 0, 1, 0, 0, 0, .inl (nI 0), []) :: s_X5_compares_71) ls st μ := by rw [s_X5_compares_70]
theorem v_X5_compares_70 : vc X P m_X5_compares h K k_X5_compares S (n + 1) 70 ls st μ = if 70 ∈ S then mAt X m_X5_compares h K 70 ls st μ else bb X P m_X5_compares h K (vc X P m_X5_compares h K k_X5_compares S n) s_X5_compares_70 ls st μ := by rw [vc_s, t_X5_compares_70]
theorem w_X5_compares_71 : bb X P m_X5_compares h K J s_X5_compares_71 ls st μ = bb X P m_X5_compares h K J ((71, .ireturn, 1, 1, 0, 0, .inl 0, []) :: []) ls st μ := by rw [s_X5_compares_71]
theorem v_X5_compares_71 : vc X P m_X5_compares h K k_X5_compares S (n + 1) 71 ls st μ = if 71 ∈ S then mAt X m_X5_compares h K 71 ls st μ else bb X P m_X5_compares h K (vc X P m_X5_compares h K k_X5_compares S n) s_X5_compares_71 ls st μ := by rw [vc_s, t_X5_compares_71]
end
section
variable {X : mC} {P : mP} {h : Nat} {K : MV → Mem → Prop} {J : mJ} {ls : List (Nat × MV)} {st : List MV} {μ : Mem} {S : List Nat} {n : Nat}
theorem w_X5_copyFrom_0 : bb X P m_X5_copyFrom h K J s_X5_copyFrom_0 ls st μ = bb X P m_X5_copyFrom h K J ((0, .aload_n 0, 1, 0, 0, 0, .inl 0, []) ::
  (1, .aload_n 1, 1, 1, 0, 0, .inl 0, []) ::
  (2, .getfield 21, 3, 4, 0, 0, .inl 0, [355]) ::
  (5, .putfield 21, 3, 4, 0, 0, .inl 0, [355]) ::
  (8, .aload_n 0, 1, 0, 0, 0, .inl 0, []) ::
  (9, .aload_n 1, 1, 1, 0, 0, .inl 0, []) ::
  (10, .getfield 25, 3, 4, 1, 0, .inl 0, [357]) ::
  (13, .putfield 25, 3, 4, 1, 0, .inl 0, [357]) ::
  (16, .aload_n 1, 1, 1, 0, 0, .inl 0, []) ::
  (17, .getfield 11, 3, 4, 2, 3, .inr (.inr (16, 40, 1)), [358]) ::
  (20, .iconst 0, 1, 0, 0, 0, .inl (nI 0), []) ::
  (21, .aload_n 0, 1, 0, 0, 0, .inl 0, []) ::
  (22, .getfield 11, 3, 4, 2, 3, .inr (.inr (16, 40, 1)), [358]) ::
  (25, .iconst 0, 1, 0, 0, 0, .inl (nI 0), []) ::
  (26, .bipush 40, 2, 0, 0, 0, .inl (nI 40), []) ::
  (28, .invokestatic 28, 3, 0, 5, 9, .inl 0, [1074]) ::
  (31, .aload_n 1, 1, 1, 0, 0, .inl 0, []) ::
  (32, .getfield 15, 3, 4, 3, 3, .inr (.inr (16, 40, 2)), [359]) ::
  (35, .iconst 0, 1, 0, 0, 0, .inl (nI 0), []) ::
  (36, .aload_n 0, 1, 0, 0, 0, .inl 0, []) ::
  (37, .getfield 15, 3, 4, 3, 3, .inr (.inr (16, 40, 2)), [359]) ::
  (40, .iconst 0, 1, 0, 0, 0, .inl (nI 0), []) ::
  (41, .bipush 40, 2, 0, 0, 0, .inl (nI 40), []) ::
  (43, .invokestatic 28, 3, 0, 5, 9, .inl 0, [1074]) ::
  (46, .aload_n 1, 1, 1, 0, 0, .inl 0, []) ::
  (47, .getfield 18, 3, 4, 4, 3, .inr (.inr (16, 40, 3)), [360]) ::
  (50, .iconst 0, 1, 0, 0, 0, .inl (nI 0), []) ::
  (51, .aload_n 0, 1, 0, 0, 0, .inl 0, []) ::
  (52, .getfield 18, 3, 4, 4, 3, .inr (.inr (16, 40, 3)), [360]) ::
  (55, .iconst 0, 1, 0, 0, 0, .inl (nI 0), []) ::
  (56, .bipush 40, 2, 0, 0, 0, .inl (nI 40), []) ::
  (58, .invokestatic 28, 3, 0, 5, 9, .inl 0, [1074]) ::
  (61, .return_, 1, 0, 0, 0, .inl 0, []) :: []) ls st μ := by rw [s_X5_copyFrom_0]
theorem v_X5_copyFrom_0 : vc X P m_X5_copyFrom h K k_X5_copyFrom S (n + 1) 0 ls st μ = if 0 ∈ S then mAt X m_X5_copyFrom h K 0 ls st μ else bb X P m_X5_copyFrom h K (vc X P m_X5_copyFrom h K k_X5_copyFrom S n) s_X5_copyFrom_0 ls st μ := by rw [vc_s, t_X5_copyFrom_0]
end
section
variable {X : mC} {P : mP} {h : Nat} {K : MV → Mem → Prop} {J : mJ} {ls : List (Nat × MV)} {st : List MV} {μ : Mem} {S : List Nat} {n : Nat}
theorem w_X5_isStepTrueOf_0 : bb X P m_X5_isStepTrueOf h K J s_X5_isStepTrueOf_0 ls st μ = bb X P m_X5_isStepTrueOf h K J ((0, .aload_n 0, 1, 0, 0, 0, .inl 0, []) ::
  (1, .getfield 11, 3, 4, 2, 3, .inr (.inr (16, 40, 1)), [358]) ::
  (4, .iload_n 1, 1, 1, 0, 0, .inl 0, []) ::
  (5, .iaload, 1, 0, 0, 0, .inl 0, []) ::
  (6, .tableswitch 166 12 17 #[38, 63, 88, 114, 127, 146], 38, 172, 12, 0, .inl 0, [44, 69, 94, 120, 133, 152]) :: s_X5_isStepTrueOf_44) ls st μ := by rw [s_X5_isStepTrueOf_0]
theorem v_X5_isStepTrueOf_0 : vc X P m_X5_isStepTrueOf h K k_X5_isStepTrueOf S (n + 1) 0 ls st μ = if 0 ∈ S then mAt X m_X5_isStepTrueOf h K 0 ls st μ else bb X P m_X5_isStepTrueOf h K (vc X P m_X5_isStepTrueOf h K k_X5_isStepTrueOf S n) s_X5_isStepTrueOf_0 ls st μ := by rw [vc_s, t_X5_isStepTrueOf_0]
theorem w_X5_isStepTrueOf_44 : bb X P m_X5_isStepTrueOf h K J s_X5_isStepTrueOf_44 ls st μ = bb X P m_X5_isStepTrueOf h K J ((44, .aload_n 3, 1, 3, 0, 0, .inl 0, []) ::
  (45, .getfield 106, 3, 0, 10, 3, .inr (.inr (16, 48, 7)), [275]) ::
  (48, .iload_n 2, 1, 2, 0, 0, .inl 0, []) ::
  (49, .bipush 6, 2, 0, 0, 0, .inl (nI 6), []) ::
  (51, .imul, 1, 0, 0, 0, .inl 0, []) ::
  (52, .aload_n 0, 1, 0, 0, 0, .inl 0, []) ::
  (53, .getfield 15, 3, 4, 3, 3, .inr (.inr (16, 40, 2)), [359]) ::
  (56, .iload_n 1, 1, 1, 0, 0, .inl 0, []) ::
  (57, .iaload, 1, 0, 0, 0, .inl 0, []) ::
  (58, .iadd, 1, 0, 0, 0, .inl 0, []) ::
  (59, .iaload, 1, 0, 0, 0, .inl 0, []) ::
  (60, .ifCond .le 7, 3, 67, 0, 0, .inl 0, []) ::
  (63, .iconst 1, 1, 0, 0, 0, .inl (nI 1), []) ::
  (64, .goto 4, 3, 68, 0, 0, .inl 0, []) :: s_X5_isStepTrueOf_67) ls st μ := by rw [s_X5_isStepTrueOf_44]
theorem v_X5_isStepTrueOf_44 : vc X P m_X5_isStepTrueOf h K k_X5_isStepTrueOf S (n + 1) 44 ls st μ = if 44 ∈ S then mAt X m_X5_isStepTrueOf h K 44 ls st μ else bb X P m_X5_isStepTrueOf h K (vc X P m_X5_isStepTrueOf h K k_X5_isStepTrueOf S n) s_X5_isStepTrueOf_44 ls st μ := by rw [vc_s, t_X5_isStepTrueOf_44]
theorem w_X5_isStepTrueOf_67 : bb X P m_X5_isStepTrueOf h K J s_X5_isStepTrueOf_67 ls st μ = bb X P m_X5_isStepTrueOf h K J ((67, .iconst 0, 1, 0, 0, 0, .inl (nI 0), []) :: s_X5_isStepTrueOf_68) ls st μ := by rw [s_X5_isStepTrueOf_67]
theorem v_X5_isStepTrueOf_67 : vc X P m_X5_isStepTrueOf h K k_X5_isStepTrueOf S (n + 1) 67 ls st μ = if 67 ∈ S then mAt X m_X5_isStepTrueOf h K 67 ls st μ else bb X P m_X5_isStepTrueOf h K (vc X P m_X5_isStepTrueOf h K k_X5_isStepTrueOf S n) s_X5_isStepTrueOf_67 ls st μ := by rw [vc_s, t_X5_isStepTrueOf_67]
theorem w_X5_isStepTrueOf_68 : bb X P m_X5_isStepTrueOf h K J s_X5_isStepTrueOf_68 ls st μ = bb X P m_X5_isStepTrueOf h K J ((68, .ireturn, 1, 1, 0, 0, .inl 0, []) :: s_X5_isStepTrueOf_69) ls st μ := by rw [s_X5_isStepTrueOf_68]
theorem v_X5_isStepTrueOf_68 : vc X P m_X5_isStepTrueOf h K k_X5_isStepTrueOf S (n + 1) 68 ls st μ = if 68 ∈ S then mAt X m_X5_isStepTrueOf h K 68 ls st μ else bb X P m_X5_isStepTrueOf h K (vc X P m_X5_isStepTrueOf h K k_X5_isStepTrueOf S n) s_X5_isStepTrueOf_68 ls st μ := by rw [vc_s, t_X5_isStepTrueOf_68]
theorem w_X5_isStepTrueOf_69 : bb X P m_X5_isStepTrueOf h K J s_X5_isStepTrueOf_69 ls st μ = bb X P m_X5_isStepTrueOf h K J ((69, .aload_n 3, 1, 3, 0, 0, .inl 0, []) ::
  (70, .getfield 109, 3, 0, 13, 3, .inr (.inr (16, 48, 10)), [284]) ::
  (73, .iload_n 2, 1, 2, 0, 0, .inl 0, []) ::
  (74, .bipush 6, 2, 0, 0, 0, .inl (nI 6), []) ::
  (76, .imul, 1, 0, 0, 0, .inl 0, []) ::
  (77, .aload_n 0, 1, 0, 0, 0, .inl 0, []) ::
  (78, .getfield 15, 3, 4, 3, 3, .inr (.inr (16, 40, 2)), [359]) ::
  (81, .iload_n 1, 1, 1, 0, 0, .inl 0, []) ::
  (82, .iaload, 1, 0, 0, 0, .inl 0, []) ::
  (83, .iadd, 1, 0, 0, 0, .inl 0, []) ::
  (84, .iaload, 1, 0, 0, 0, .inl 0, []) ::
  (85, .ifCond .le 7, 3, 92, 0, 0, .inl 0, []) ::
  (88, .iconst 1, 1, 0, 0, 0, .inl (nI 1), []) ::
  (89, .goto 4, 3, 93, 0, 0, .inl 0, []) :: s_X5_isStepTrueOf_92) ls st μ := by rw [s_X5_isStepTrueOf_69]
theorem v_X5_isStepTrueOf_69 : vc X P m_X5_isStepTrueOf h K k_X5_isStepTrueOf S (n + 1) 69 ls st μ = if 69 ∈ S then mAt X m_X5_isStepTrueOf h K 69 ls st μ else bb X P m_X5_isStepTrueOf h K (vc X P m_X5_isStepTrueOf h K k_X5_isStepTrueOf S n) s_X5_isStepTrueOf_69 ls st μ := by rw [vc_s, t_X5_isStepTrueOf_69]
theorem w_X5_isStepTrueOf_92 : bb X P m_X5_isStepTrueOf h K J s_X5_isStepTrueOf_92 ls st μ = bb X P m_X5_isStepTrueOf h K J ((92, .iconst 0, 1, 0, 0, 0, .inl (nI 0), []) :: s_X5_isStepTrueOf_93) ls st μ := by rw [s_X5_isStepTrueOf_92]
theorem v_X5_isStepTrueOf_92 : vc X P m_X5_isStepTrueOf h K k_X5_isStepTrueOf S (n + 1) 92 ls st μ = if 92 ∈ S then mAt X m_X5_isStepTrueOf h K 92 ls st μ else bb X P m_X5_isStepTrueOf h K (vc X P m_X5_isStepTrueOf h K k_X5_isStepTrueOf S n) s_X5_isStepTrueOf_92 ls st μ := by rw [vc_s, t_X5_isStepTrueOf_92]
theorem w_X5_isStepTrueOf_93 : bb X P m_X5_isStepTrueOf h K J s_X5_isStepTrueOf_93 ls st μ = bb X P m_X5_isStepTrueOf h K J ((93, .ireturn, 1, 1, 0, 0, .inl 0, []) :: s_X5_isStepTrueOf_94) ls st μ := by rw [s_X5_isStepTrueOf_93]
theorem v_X5_isStepTrueOf_93 : vc X P m_X5_isStepTrueOf h K k_X5_isStepTrueOf S (n + 1) 93 ls st μ = if 93 ∈ S then mAt X m_X5_isStepTrueOf h K 93 ls st μ else bb X P m_X5_isStepTrueOf h K (vc X P m_X5_isStepTrueOf h K k_X5_isStepTrueOf S n) s_X5_isStepTrueOf_93 ls st μ := by rw [vc_s, t_X5_isStepTrueOf_93]
theorem w_X5_isStepTrueOf_94 : bb X P m_X5_isStepTrueOf h K J s_X5_isStepTrueOf_94 ls st μ = bb X P m_X5_isStepTrueOf h K J ((94, .aload 4, 2, 4, 0, 0, .inl 0, []) ::
  (96, .getfield 112, 3, 3, 10, 3, .inr (.inr (16, 8, 10)), [399]) ::
  (99, .iload_n 2, 1, 2, 0, 0, .inl 0, []) ::
  (100, .iaload, 1, 0, 0, 0, .inl 0, []) ::
  (101, .aload_n 0, 1, 0, 0, 0, .inl 0, []) ::
  (102, .getfield 15, 3, 4, 3, 3, .inr (.inr (16, 40, 2)), [359]) ::
  (105, .iload_n 1, 1, 1, 0, 0, .inl 0, []) ::
  (106, .iaload, 1, 0, 0, 0, .inl 0, []) ::
  (107, .ishr, 1, 0, 0, 0, .inl 0, []) ::
  (108, .iconst 1, 1, 0, 0, 0, .inl (nI 1), []) ::
  (109, .iand, 1, 0, 0, 0, .inl 0, []) ::
  (110, .iconst 1, 1, 0, 0, 0, .inl (nI 1), []) ::
  (111, .if_icmp .ne 7, 3, 118, 0, 0, .inl 0, []) ::
  (114, .iconst 1, 1, 0, 0, 0, .inl (nI 1), []) ::
  (115, .goto 4, 3, 119, 0, 0, .inl 0, []) :: s_X5_isStepTrueOf_118) ls st μ := by rw [s_X5_isStepTrueOf_94]
theorem v_X5_isStepTrueOf_94 : vc X P m_X5_isStepTrueOf h K k_X5_isStepTrueOf S (n + 1) 94 ls st μ = if 94 ∈ S then mAt X m_X5_isStepTrueOf h K 94 ls st μ else bb X P m_X5_isStepTrueOf h K (vc X P m_X5_isStepTrueOf h K k_X5_isStepTrueOf S n) s_X5_isStepTrueOf_94 ls st μ := by rw [vc_s, t_X5_isStepTrueOf_94]
theorem w_X5_isStepTrueOf_118 : bb X P m_X5_isStepTrueOf h K J s_X5_isStepTrueOf_118 ls st μ = bb X P m_X5_isStepTrueOf h K J ((118, .iconst 0, 1, 0, 0, 0, .inl (nI 0), []) :: s_X5_isStepTrueOf_119) ls st μ := by rw [s_X5_isStepTrueOf_118]
theorem v_X5_isStepTrueOf_118 : vc X P m_X5_isStepTrueOf h K k_X5_isStepTrueOf S (n + 1) 118 ls st μ = if 118 ∈ S then mAt X m_X5_isStepTrueOf h K 118 ls st μ else bb X P m_X5_isStepTrueOf h K (vc X P m_X5_isStepTrueOf h K k_X5_isStepTrueOf S n) s_X5_isStepTrueOf_118 ls st μ := by rw [vc_s, t_X5_isStepTrueOf_118]
theorem w_X5_isStepTrueOf_119 : bb X P m_X5_isStepTrueOf h K J s_X5_isStepTrueOf_119 ls st μ = bb X P m_X5_isStepTrueOf h K J ((119, .ireturn, 1, 1, 0, 0, .inl 0, []) :: s_X5_isStepTrueOf_120) ls st μ := by rw [s_X5_isStepTrueOf_119]
theorem v_X5_isStepTrueOf_119 : vc X P m_X5_isStepTrueOf h K k_X5_isStepTrueOf S (n + 1) 119 ls st μ = if 119 ∈ S then mAt X m_X5_isStepTrueOf h K 119 ls st μ else bb X P m_X5_isStepTrueOf h K (vc X P m_X5_isStepTrueOf h K k_X5_isStepTrueOf S n) s_X5_isStepTrueOf_119 ls st μ := by rw [vc_s, t_X5_isStepTrueOf_119]
theorem w_X5_isStepTrueOf_120 : bb X P m_X5_isStepTrueOf h K J s_X5_isStepTrueOf_120 ls st μ = bb X P m_X5_isStepTrueOf h K J ((120, .aload_n 0, 1, 0, 0, 0, .inl 0, []) ::
  (121, .aload 4, 2, 4, 0, 0, .inl 0, []) ::
  (123, .getfield 117, 3, 3, 8, 3, .inr (.inr (16, 8, 8)), [394]) ::
  (126, .iload_n 2, 1, 2, 0, 0, .inl 0, []) ::
  (127, .iaload, 1, 0, 0, 0, .inl 0, []) ::
  (128, .iload_n 1, 1, 1, 0, 0, .inl 0, []) ::
  (129, .invokevirtual 120, 3, 51, 3, 1, .inl 0, [1087, 4]) ::
  (132, .ireturn, 1, 1, 0, 0, .inl 0, []) :: s_X5_isStepTrueOf_133) ls st μ := by rw [s_X5_isStepTrueOf_120]
theorem v_X5_isStepTrueOf_120 : vc X P m_X5_isStepTrueOf h K k_X5_isStepTrueOf S (n + 1) 120 ls st μ = if 120 ∈ S then mAt X m_X5_isStepTrueOf h K 120 ls st μ else bb X P m_X5_isStepTrueOf h K (vc X P m_X5_isStepTrueOf h K k_X5_isStepTrueOf S n) s_X5_isStepTrueOf_120 ls st μ := by rw [vc_s, t_X5_isStepTrueOf_120]
theorem w_X5_isStepTrueOf_133 : bb X P m_X5_isStepTrueOf h K J s_X5_isStepTrueOf_133 ls st μ = bb X P m_X5_isStepTrueOf h K J ((133, .aload_n 0, 1, 0, 0, 0, .inl 0, []) ::
  (134, .aload 4, 2, 4, 0, 0, .inl 0, []) ::
  (136, .getfield 124, 3, 3, 0, 0, .inl 0, [381]) ::
  (139, .aload 4, 2, 4, 0, 0, .inl 0, []) ::
  (141, .getfield 117, 3, 3, 8, 3, .inr (.inr (16, 8, 8)), [394]) ::
  (144, .iload_n 2, 1, 2, 0, 0, .inl 0, []) ::
  (145, .iaload, 1, 0, 0, 0, .inl 0, []) ::
  (146, .isub, 1, 0, 0, 0, .inl 0, []) ::
  (147, .iload_n 1, 1, 1, 0, 0, .inl 0, []) ::
  (148, .invokevirtual 120, 3, 51, 3, 1, .inl 0, [1087, 4]) ::
  (151, .ireturn, 1, 1, 0, 0, .inl 0, []) :: s_X5_isStepTrueOf_152) ls st μ := by rw [s_X5_isStepTrueOf_133]
theorem v_X5_isStepTrueOf_133 : vc X P m_X5_isStepTrueOf h K k_X5_isStepTrueOf S (n + 1) 133 ls st μ = if 133 ∈ S then mAt X m_X5_isStepTrueOf h K 133 ls st μ else bb X P m_X5_isStepTrueOf h K (vc X P m_X5_isStepTrueOf h K k_X5_isStepTrueOf S n) s_X5_isStepTrueOf_133 ls st μ := by rw [vc_s, t_X5_isStepTrueOf_133]
theorem w_X5_isStepTrueOf_152 : bb X P m_X5_isStepTrueOf h K J s_X5_isStepTrueOf_152 ls st μ = bb X P m_X5_isStepTrueOf h K J ((152, .aload_n 0, 1, 0, 0, 0, .inl 0, []) ::
  (153, .aload 4, 2, 4, 0, 0, .inl 0, []) ::
  (155, .getfield 117, 3, 3, 8, 3, .inr (.inr (16, 8, 8)), [394]) ::
  (158, .iload_n 2, 1, 2, 0, 0, .inl 0, []) ::
  (159, .iaload, 1, 0, 0, 0, .inl 0, []) ::
  (160, .aload_n 3, 1, 3, 0, 0, .inl 0, []) ::
  (161, .getfield 127, 3, 0, 9, 3, .inr (.inr (16, 8, 6)), [269]) ::
  (164, .iload_n 2, 1, 2, 0, 0, .inl 0, []) ::
  (165, .iaload, 1, 0, 0, 0, .inl 0, []) ::
  (166, .imul, 1, 0, 0, 0, .inl 0, []) ::
  (167, .iload_n 1, 1, 1, 0, 0, .inl 0, []) ::
  (168, .invokevirtual 120, 3, 51, 3, 1, .inl 0, [1087, 4]) ::
  (171, .ireturn, 1, 1, 0, 0, .inl 0, []) :: s_X5_isStepTrueOf_172) ls st μ := by rw [s_X5_isStepTrueOf_152]
theorem v_X5_isStepTrueOf_152 : vc X P m_X5_isStepTrueOf h K k_X5_isStepTrueOf S (n + 1) 152 ls st μ = if 152 ∈ S then mAt X m_X5_isStepTrueOf h K 152 ls st μ else bb X P m_X5_isStepTrueOf h K (vc X P m_X5_isStepTrueOf h K k_X5_isStepTrueOf S n) s_X5_isStepTrueOf_152 ls st μ := by rw [vc_s, t_X5_isStepTrueOf_152]
theorem w_X5_isStepTrueOf_172 : bb X P m_X5_isStepTrueOf h K J s_X5_isStepTrueOf_172 ls st μ = bb X P m_X5_isStepTrueOf h K J ((172, .aload_n 0, 1, 0, 0, 0, .inl 0, []) ::
  (173, .iload_n 2, 1, 2, 0, 0, .inl 0, []) ::
  (174, .iload_n 1, 1, 1, 0, 0, .inl 0, []) ::
  (175, .invokevirtual 120, 3, 51, 3, 1, .inl 0, [1087, 4]) ::
  (178, .ireturn, 1, 1, 0, 0, .inl 0, []) :: []) ls st μ := by rw [s_X5_isStepTrueOf_172]
theorem v_X5_isStepTrueOf_172 : vc X P m_X5_isStepTrueOf h K k_X5_isStepTrueOf S (n + 1) 172 ls st μ = if 172 ∈ S then mAt X m_X5_isStepTrueOf h K 172 ls st μ else bb X P m_X5_isStepTrueOf h K (vc X P m_X5_isStepTrueOf h K k_X5_isStepTrueOf S n) s_X5_isStepTrueOf_172 ls st μ := by rw [vc_s, t_X5_isStepTrueOf_172]
end
section
variable {X : mC} {P : mP} {h : Nat} {K : MV → Mem → Prop} {J : mJ} {ls : List (Nat × MV)} {st : List MV} {μ : Mem} {S : List Nat} {n : Nat}
theorem w_X5_isTrueOf_0 : bb X P m_X5_isTrueOf h K J s_X5_isTrueOf_0 ls st μ = bb X P m_X5_isTrueOf h K J ((0, .iconst 0, 1, 0, 0, 0, .inl (nI 0), []) ::
  (1, .istore 4, 2, 4, 0, 0, .inl 0, []) ::
  (3, .iconst 0, 1, 0, 0, 0, .inl (nI 0), []) ::
  (4, .istore 5, 2, 5, 0, 0, .inl 0, []) :: s_X5_isTrueOf_6) ls st μ := by rw [s_X5_isTrueOf_0]
theorem v_X5_isTrueOf_0 : vc X P m_X5_isTrueOf h K k_X5_isTrueOf S (n + 1) 0 ls st μ = if 0 ∈ S then mAt X m_X5_isTrueOf h K 0 ls st μ else bb X P m_X5_isTrueOf h K (vc X P m_X5_isTrueOf h K k_X5_isTrueOf S n) s_X5_isTrueOf_0 ls st μ := by rw [vc_s, t_X5_isTrueOf_0]
theorem w_X5_isTrueOf_6 : bb X P m_X5_isTrueOf h K J s_X5_isTrueOf_6 ls st μ = bb X P m_X5_isTrueOf h K J ((6, .iload 5, 2, 5, 0, 0, .inl 0, []) ::
  (8, .aload_n 0, 1, 0, 0, 0, .inl 0, []) ::
  (9, .getfield 25, 3, 4, 1, 0, .inl 0, [357]) ::
  (12, .if_icmp .ge 110, 3, 122, 0, 0, .inl 0, []) ::
  (15, .iload 4, 2, 4, 0, 0, .inl 0, []) ::
  (17, .iconst 1, 1, 0, 0, 0, .inl (nI 1), []) ::
  (18, .iand, 1, 0, 0, 0, .inl 0, []) ::
  (19, .istore 6, 2, 6, 0, 0, .inl 0, []) ::
  (21, .aload_n 0, 1, 0, 0, 0, .inl 0, []) ::
  (22, .getfield 11, 3, 4, 2, 3, .inr (.inr (16, 40, 1)), [358]) ::
  (25, .iload 5, 2, 5, 0, 0, .inl 0, []) ::
  (27, .iaload, 1, 0, 0, 0, .inl 0, []) ::
  (28, .tableswitch 64 9 11 #[52, 37, 28], 28, 92, 9, 0, .inl 0, [80, 65, 56]) :: s_X5_isTrueOf_56) ls st μ := by rw [s_X5_isTrueOf_6]
theorem v_X5_isTrueOf_6 : vc X P m_X5_isTrueOf h K k_X5_isTrueOf S (n + 1) 6 ls st μ = if 6 ∈ S then mAt X m_X5_isTrueOf h K 6 ls st μ else bb X P m_X5_isTrueOf h K (vc X P m_X5_isTrueOf h K k_X5_isTrueOf S n) s_X5_isTrueOf_6 ls st μ := by rw [vc_s, t_X5_isTrueOf_6]
theorem w_X5_isTrueOf_56 : bb X P m_X5_isTrueOf h K J s_X5_isTrueOf_56 ls st μ = bb X P m_X5_isTrueOf h K J ((56, .iload 4, 2, 4, 0, 0, .inl 0, []) ::
  (58, .iconst 1, 1, 0, 0, 0, .inl (nI 1), []) ::
  (59, .ixor, 1, 0, 0, 0, .inl 0, []) ::
  (60, .istore 4, 2, 4, 0, 0, .inl 0, []) ::
  (62, .goto 54, 3, 116, 0, 0, .inl 0, []) :: s_X5_isTrueOf_65) ls st μ := by rw [s_X5_isTrueOf_56]
theorem v_X5_isTrueOf_56 : vc X P m_X5_isTrueOf h K k_X5_isTrueOf S (n + 1) 56 ls st μ = if 56 ∈ S then mAt X m_X5_isTrueOf h K 56 ls st μ else bb X P m_X5_isTrueOf h K (vc X P m_X5_isTrueOf h K k_X5_isTrueOf S n) s_X5_isTrueOf_56 ls st μ := by rw [vc_s, t_X5_isTrueOf_56]
theorem w_X5_isTrueOf_65 : bb X P m_X5_isTrueOf h K J s_X5_isTrueOf_65 ls st μ = bb X P m_X5_isTrueOf h K J ((65, .iload 4, 2, 4, 0, 0, .inl 0, []) ::
  (67, .iconst 1, 1, 0, 0, 0, .inl (nI 1), []) ::
  (68, .ishr, 1, 0, 0, 0, .inl 0, []) ::
  (69, .iload 6, 2, 6, 0, 0, .inl 0, []) ::
  (71, .bipush (-2), 2, 0, 0, 0, .inl (-2), []) ::
  (73, .ior, 1, 0, 0, 0, .inl 0, []) ::
  (74, .iand, 1, 0, 0, 0, .inl 0, []) ::
  (75, .istore 4, 2, 4, 0, 0, .inl 0, []) ::
  (77, .goto 39, 3, 116, 0, 0, .inl 0, []) :: s_X5_isTrueOf_80) ls st μ := by rw [s_X5_isTrueOf_65]
theorem v_X5_isTrueOf_65 : vc X P m_X5_isTrueOf h K k_X5_isTrueOf S (n + 1) 65 ls st μ = if 65 ∈ S then mAt X m_X5_isTrueOf h K 65 ls st μ else bb X P m_X5_isTrueOf h K (vc X P m_X5_isTrueOf h K k_X5_isTrueOf S n) s_X5_isTrueOf_65 ls st μ := by rw [vc_s, t_X5_isTrueOf_65]
theorem w_X5_isTrueOf_80 : bb X P m_X5_isTrueOf h K J s_X5_isTrueOf_80 ls st μ = bb X P m_X5_isTrueOf h K J ((80, .iload 4, 2, 4, 0, 0, .inl 0, []) ::
  (82, .iconst 1, 1, 0, 0, 0, .inl (nI 1), []) ::
  (83, .ishr, 1, 0, 0, 0, .inl 0, []) ::
  (84, .iload 6, 2, 6, 0, 0, .inl 0, []) ::
  (86, .ior, 1, 0, 0, 0, .inl 0, []) ::
  (87, .istore 4, 2, 4, 0, 0, .inl 0, []) ::
  (89, .goto 27, 3, 116, 0, 0, .inl 0, []) :: s_X5_isTrueOf_92) ls st μ := by rw [s_X5_isTrueOf_80]
theorem v_X5_isTrueOf_80 : vc X P m_X5_isTrueOf h K k_X5_isTrueOf S (n + 1) 80 ls st μ = if 80 ∈ S then mAt X m_X5_isTrueOf h K 80 ls st μ else bb X P m_X5_isTrueOf h K (vc X P m_X5_isTrueOf h K k_X5_isTrueOf S n) s_X5_isTrueOf_80 ls st μ := by rw [vc_s, t_X5_isTrueOf_80]
theorem w_X5_isTrueOf_92 : bb X P m_X5_isTrueOf h K J s_X5_isTrueOf_92 ls st μ = bb X P m_X5_isTrueOf h K J ((92, .iload 4, 2, 4, 0, 0, .inl 0, []) ::
  (94, .iconst 1, 1, 0, 0, 0, .inl (nI 1), []) ::
  (95, .ishl, 1, 0, 0, 0, .inl 0, []) ::
  (96, .aload_n 0, 1, 0, 0, 0, .inl 0, []) ::
  (97, .iload 5, 2, 5, 0, 0, .inl 0, []) ::
  (99, .iload_n 1, 1, 1, 0, 0, .inl 0, []) ::
  (100, .aload_n 2, 1, 2, 0, 0, .inl 0, []) ::
  (101, .aload_n 3, 1, 3, 0, 0, .inl 0, []) ::
  (102, .invokevirtual 102, 3, 53, 5, 1, .inl 0, [1083, 4]) ::
  (105, .ifCond .eq 7, 3, 112, 0, 0, .inl 0, []) ::
  (108, .iconst 1, 1, 0, 0, 0, .inl (nI 1), []) ::
  (109, .goto 4, 3, 113, 0, 0, .inl 0, []) :: s_X5_isTrueOf_112) ls st μ := by rw [s_X5_isTrueOf_92]
theorem v_X5_isTrueOf_92 : vc X P m_X5_isTrueOf h K k_X5_isTrueOf S (n + 1) 92 ls st μ = if 92 ∈ S then mAt X m_X5_isTrueOf h K 92 ls st μ else bb X P m_X5_isTrueOf h K (vc X P m_X5_isTrueOf h K k_X5_isTrueOf S n) s_X5_isTrueOf_92 ls st μ := by rw [vc_s, t_X5_isTrueOf_92]
theorem w_X5_isTrueOf_112 : bb X P m_X5_isTrueOf h K J s_X5_isTrueOf_112 ls st μ = bb X P m_X5_isTrueOf h K J ((112, .iconst 0, 1, 0, 0, 0, .inl (nI 0), []) :: s_X5_isTrueOf_113) ls st μ := by rw [s_X5_isTrueOf_112]
theorem v_X5_isTrueOf_112 : vc X P m_X5_isTrueOf h K k_X5_isTrueOf S (n + 1) 112 ls st μ = if 112 ∈ S then mAt X m_X5_isTrueOf h K 112 ls st μ else bb X P m_X5_isTrueOf h K (vc X P m_X5_isTrueOf h K k_X5_isTrueOf S n) s_X5_isTrueOf_112 ls st μ := by rw [vc_s, t_X5_isTrueOf_112]
theorem w_X5_isTrueOf_113 : bb X P m_X5_isTrueOf h K J s_X5_isTrueOf_113 ls st μ = bb X P m_X5_isTrueOf h K J ((113, .ior, 1, 0, 0, 0, .inl 0, []) ::
  (114, .istore 4, 2, 4, 0, 0, .inl 0, []) :: s_X5_isTrueOf_116) ls st μ := by rw [s_X5_isTrueOf_113]
theorem v_X5_isTrueOf_113 : vc X P m_X5_isTrueOf h K k_X5_isTrueOf S (n + 1) 113 ls st μ = if 113 ∈ S then mAt X m_X5_isTrueOf h K 113 ls st μ else bb X P m_X5_isTrueOf h K (vc X P m_X5_isTrueOf h K k_X5_isTrueOf S n) s_X5_isTrueOf_113 ls st μ := by rw [vc_s, t_X5_isTrueOf_113]
theorem w_X5_isTrueOf_116 : bb X P m_X5_isTrueOf h K J s_X5_isTrueOf_116 ls st μ = bb X P m_X5_isTrueOf h K J ((116, .iinc 5 1, 3, 5, 0, 0, .inl (nI 1), []) ::
  (119, .goto (-113), 3, 6, 0, 0, .inl 0, []) :: s_X5_isTrueOf_122) ls st μ := by rw [s_X5_isTrueOf_116]
theorem v_X5_isTrueOf_116 : vc X P m_X5_isTrueOf h K k_X5_isTrueOf S (n + 1) 116 ls st μ = if 116 ∈ S then mAt X m_X5_isTrueOf h K 116 ls st μ else bb X P m_X5_isTrueOf h K (vc X P m_X5_isTrueOf h K k_X5_isTrueOf S n) s_X5_isTrueOf_116 ls st μ := by rw [vc_s, t_X5_isTrueOf_116]
theorem w_X5_isTrueOf_122 : bb X P m_X5_isTrueOf h K J s_X5_isTrueOf_122 ls st μ = bb X P m_X5_isTrueOf h K J ((122, .iload 4, 2, 4, 0, 0, .inl 0, []) ::
  (124, .iconst 1, 1, 0, 0, 0, .inl (nI 1), []) ::
  (125, .iand, 1, 0, 0, 0, .inl 0, []) ::
  (126, .iconst 1, 1, 0, 0, 0, .inl (nI 1), []) ::
  (127, .if_icmp .ne 7, 3, 134, 0, 0, .inl 0, []) ::
  (130, .iconst 1, 1, 0, 0, 0, .inl (nI 1), []) ::
  (131, .goto 4, 3, 135, 0, 0, .inl 0, []) :: s_X5_isTrueOf_134) ls st μ := by rw [s_X5_isTrueOf_122]
theorem v_X5_isTrueOf_122 : vc X P m_X5_isTrueOf h K k_X5_isTrueOf S (n + 1) 122 ls st μ = if 122 ∈ S then mAt X m_X5_isTrueOf h K 122 ls st μ else bb X P m_X5_isTrueOf h K (vc X P m_X5_isTrueOf h K k_X5_isTrueOf S n) s_X5_isTrueOf_122 ls st μ := by rw [vc_s, t_X5_isTrueOf_122]
theorem w_X5_isTrueOf_134 : bb X P m_X5_isTrueOf h K J s_X5_isTrueOf_134 ls st μ = bb X P m_X5_isTrueOf h K J ((134, .iconst 0, 1, 0, 0, 0, .inl (nI 0), []) :: s_X5_isTrueOf_135) ls st μ := by rw [s_X5_isTrueOf_134]
theorem v_X5_isTrueOf_134 : vc X P m_X5_isTrueOf h K k_X5_isTrueOf S (n + 1) 134 ls st μ = if 134 ∈ S then mAt X m_X5_isTrueOf h K 134 ls st μ else bb X P m_X5_isTrueOf h K (vc X P m_X5_isTrueOf h K k_X5_isTrueOf S n) s_X5_isTrueOf_134 ls st μ := by rw [vc_s, t_X5_isTrueOf_134]
theorem w_X5_isTrueOf_135 : bb X P m_X5_isTrueOf h K J s_X5_isTrueOf_135 ls st μ = bb X P m_X5_isTrueOf h K J ((135, .ireturn, 1, 1, 0, 0, .inl 0, []) :: []) ls st μ := by rw [s_X5_isTrueOf_135]
theorem v_X5_isTrueOf_135 : vc X P m_X5_isTrueOf h K k_X5_isTrueOf S (n + 1) 135 ls st μ = if 135 ∈ S then mAt X m_X5_isTrueOf h K 135 ls st μ else bb X P m_X5_isTrueOf h K (vc X P m_X5_isTrueOf h K k_X5_isTrueOf S n) s_X5_isTrueOf_135 ls st μ := by rw [vc_s, t_X5_isTrueOf_135]
end
section
variable {X : mC} {P : mP} {h : Nat} {K : MV → Mem → Prop} {J : mJ} {ls : List (Nat × MV)} {st : List MV} {μ : Mem} {S : List Nat} {n : Nat}
theorem w_X5_readAll_0 : bb X P m_X5_readAll h K J s_X5_readAll_0 ls st μ = bb X P m_X5_readAll h K J ((0, .aload_n 0, 1, 0, 0, 0, .inl 0, []) ::
  (1, .aload_n 1, 1, 1, 0, 0, .inl 0, []) ::
  (2, .aload_n 2, 1, 2, 0, 0, .inl 0, []) ::
  (3, .iload_n 3, 1, 3, 0, 0, .inl 0, []) ::
  (4, .invokevirtual 69, 3, 60, 4, 1, .inl 0, [1044, 4]) ::
  (7, .ifCond .ne 5, 3, 12, 0, 0, .inl 0, []) ::
  (10, .iconst 0, 1, 0, 0, 0, .inl (nI 0), []) ::
  (11, .ireturn, 1, 1, 0, 0, .inl 0, []) :: s_X5_readAll_12) ls st μ := by rw [s_X5_readAll_0]
theorem v_X5_readAll_0 : vc X P m_X5_readAll h K k_X5_readAll S (n + 1) 0 ls st μ = if 0 ∈ S then mAt X m_X5_readAll h K 0 ls st μ else bb X P m_X5_readAll h K (vc X P m_X5_readAll h K k_X5_readAll S n) s_X5_readAll_0 ls st μ := by rw [vc_s, t_X5_readAll_0]
theorem w_X5_readAll_12 : bb X P m_X5_readAll h K J s_X5_readAll_12 ls st μ = bb X P m_X5_readAll h K J ((12, .iconst 0, 1, 0, 0, 0, .inl (nI 0), []) ::
  (13, .istore 4, 2, 4, 0, 0, .inl 0, []) :: s_X5_readAll_15) ls st μ := by rw [s_X5_readAll_12]
theorem v_X5_readAll_12 : vc X P m_X5_readAll h K k_X5_readAll S (n + 1) 12 ls st μ = if 12 ∈ S then mAt X m_X5_readAll h K 12 ls st μ else bb X P m_X5_readAll h K (vc X P m_X5_readAll h K k_X5_readAll S n) s_X5_readAll_12 ls st μ := by rw [vc_s, t_X5_readAll_12]
theorem w_X5_readAll_15 : bb X P m_X5_readAll h K J s_X5_readAll_15 ls st μ = bb X P m_X5_readAll h K J ((15, .iload 4, 2, 4, 0, 0, .inl 0, []) ::
  (17, .bipush 20, 2, 0, 0, 0, .inl (nI 20), []) ::
  (19, .if_icmp .ge 43, 3, 62, 0, 0, .inl 0, []) ::
  (22, .aload_n 1, 1, 1, 0, 0, .inl 0, []) ::
  (23, .getfield 57, 3, 5, 8, 0, .inl 0, [201]) ::
  (26, .bipush 10, 2, 0, 0, 0, .inl (nI 10), []) ::
  (28, .if_icmp .ne 34, 3, 62, 0, 0, .inl 0, []) ::
  (31, .aload_n 1, 1, 1, 0, 0, .inl 0, []) ::
  (32, .invokevirtual 62, 3, 61, 1, 0, .inl 0, [1050, 5]) ::
  (35, .aload_n 0, 1, 0, 0, 0, .inl 0, []) ::
  (36, .aload_n 1, 1, 1, 0, 0, .inl 0, []) ::
  (37, .aload_n 2, 1, 2, 0, 0, .inl 0, []) ::
  (38, .iload_n 3, 1, 3, 0, 0, .inl 0, []) ::
  (39, .invokevirtual 69, 3, 60, 4, 1, .inl 0, [1044, 4]) ::
  (42, .ifCond .ne 5, 3, 47, 0, 0, .inl 0, []) ::
  (45, .iconst 0, 1, 0, 0, 0, .inl (nI 0), []) ::
  (46, .ireturn, 1, 1, 0, 0, .inl 0, []) :: s_X5_readAll_47) ls st μ := by rw [s_X5_readAll_15]
theorem v_X5_readAll_15 : vc X P m_X5_readAll h K k_X5_readAll S (n + 1) 15 ls st μ = if 15 ∈ S then mAt X m_X5_readAll h K 15 ls st μ else bb X P m_X5_readAll h K (vc X P m_X5_readAll h K k_X5_readAll S n) s_X5_readAll_15 ls st μ := by rw [vc_s, t_X5_readAll_15]
theorem w_X5_readAll_47 : bb X P m_X5_readAll h K J s_X5_readAll_47 ls st μ = bb X P m_X5_readAll h K J ((47, .aload_n 0, 1, 0, 0, 0, .inl 0, []) ::
  (48, .bipush 10, 2, 0, 0, 0, .inl (nI 10), []) ::
  (50, .iconst 0, 1, 0, 0, 0, .inl (nI 0), []) ::
  (51, .iconst 0, 1, 0, 0, 0, .inl (nI 0), []) ::
  (52, .invokevirtual 65, 3, 49, 4, 1, .inl 0, [1052, 4]) ::
  (55, .pop, 1, 0, 0, 0, .inl 0, []) ::
  (56, .iinc 4 1, 3, 4, 0, 0, .inl (nI 1), []) ::
  (59, .goto (-44), 3, 15, 0, 0, .inl 0, []) :: s_X5_readAll_62) ls st μ := by rw [s_X5_readAll_47]
theorem v_X5_readAll_47 : vc X P m_X5_readAll h K k_X5_readAll S (n + 1) 47 ls st μ = if 47 ∈ S then mAt X m_X5_readAll h K 47 ls st μ else bb X P m_X5_readAll h K (vc X P m_X5_readAll h K k_X5_readAll S n) s_X5_readAll_47 ls st μ := by rw [vc_s, t_X5_readAll_47]
theorem w_X5_readAll_62 : bb X P m_X5_readAll h K J s_X5_readAll_62 ls st μ = bb X P m_X5_readAll h K J ((62, .iconst 1, 1, 0, 0, 0, .inl (nI 1), []) ::
  (63, .ireturn, 1, 1, 0, 0, .inl 0, []) :: []) ls st μ := by rw [s_X5_readAll_62]
theorem v_X5_readAll_62 : vc X P m_X5_readAll h K k_X5_readAll S (n + 1) 62 ls st μ = if 62 ∈ S then mAt X m_X5_readAll h K 62 ls st μ else bb X P m_X5_readAll h K (vc X P m_X5_readAll h K k_X5_readAll S n) s_X5_readAll_62 ls st μ := by rw [vc_s, t_X5_readAll_62]
end
section
variable {X : mC} {P : mP} {h : Nat} {K : MV → Mem → Prop} {J : mJ} {ls : List (Nat × MV)} {st : List MV} {μ : Mem} {S : List Nat} {n : Nat}
theorem w_X5_readComparison_0 : bb X P m_X5_readComparison h K J s_X5_readComparison_0 ls st μ = bb X P m_X5_readComparison h K J ((0, .aload_n 1, 1, 1, 0, 0, .inl 0, []) ::
  (1, .invokevirtual 95, 3, 64, 1, 1, .inl 0, [1060, 5]) ::
  (4, .ifCond .ne 9, 3, 13, 0, 0, .inl 0, []) ::
  (7, .aload_n 1, 1, 1, 0, 0, .inl 0, []) ::
  (8, .iconst 1, 1, 0, 0, 0, .inl (nI 1), []) ::
  (9, .invokevirtual 50, 3, 62, 2, 1, .inl 0, [1049, 5]) ::
  (12, .ireturn, 1, 1, 0, 0, .inl 0, []) :: s_X5_readComparison_13) ls st μ := by rw [s_X5_readComparison_0]
theorem v_X5_readComparison_0 : vc X P m_X5_readComparison h K k_X5_readComparison S (n + 1) 0 ls st μ = if 0 ∈ S then mAt X m_X5_readComparison h K 0 ls st μ else bb X P m_X5_readComparison h K (vc X P m_X5_readComparison h K k_X5_readComparison S n) s_X5_readComparison_0 ls st μ := by rw [vc_s, t_X5_readComparison_0]
theorem w_X5_readComparison_13 : bb X P m_X5_readComparison h K J s_X5_readComparison_13 ls st μ = bb X P m_X5_readComparison h K J ((13, .aload_n 1, 1, 1, 0, 0, .inl 0, []) ::
  (14, .getfield 99, 3, 5, 7, 0, .inl 0, [198]) ::
  (17, .istore_n 3, 1, 3, 0, 0, .inl 0, []) ::
  (18, .aload_n 1, 1, 1, 0, 0, .inl 0, []) ::
  (19, .invokevirtual 62, 3, 61, 1, 0, .inl 0, [1050, 5]) ::
  (22, .aload_n 1, 1, 1, 0, 0, .inl 0, []) ::
  (23, .getfield 47, 3, 5, 5, 0, .inl 0, [193]) ::
  (26, .iconst 3, 1, 0, 0, 0, .inl (nI 3), []) ::
  (27, .if_icmp .eq 9, 3, 36, 0, 0, .inl 0, []) ::
  (30, .aload_n 1, 1, 1, 0, 0, .inl 0, []) ::
  (31, .iconst 1, 1, 0, 0, 0, .inl (nI 1), []) ::
  (32, .invokevirtual 50, 3, 62, 2, 1, .inl 0, [1049, 5]) ::
  (35, .ireturn, 1, 1, 0, 0, .inl 0, []) :: s_X5_readComparison_36) ls st μ := by rw [s_X5_readComparison_13]
theorem v_X5_readComparison_13 : vc X P m_X5_readComparison h K k_X5_readComparison S (n + 1) 13 ls st μ = if 13 ∈ S then mAt X m_X5_readComparison h K 13 ls st μ else bb X P m_X5_readComparison h K (vc X P m_X5_readComparison h K k_X5_readComparison S n) s_X5_readComparison_13 ls st μ := by rw [vc_s, t_X5_readComparison_13]
theorem w_X5_readComparison_36 : bb X P m_X5_readComparison h K J s_X5_readComparison_36 ls st μ = bb X P m_X5_readComparison h K J ((36, .aload_n 1, 1, 1, 0, 0, .inl 0, []) ::
  (37, .getfield 99, 3, 5, 7, 0, .inl 0, [198]) ::
  (40, .istore 4, 2, 4, 0, 0, .inl 0, []) ::
  (42, .aload_n 1, 1, 1, 0, 0, .inl 0, []) ::
  (43, .invokevirtual 62, 3, 61, 1, 0, .inl 0, [1050, 5]) ::
  (46, .aload_n 0, 1, 0, 0, 0, .inl 0, []) ::
  (47, .iload_n 2, 1, 2, 0, 0, .inl 0, []) ::
  (48, .iload 4, 2, 4, 0, 0, .inl 0, []) ::
  (50, .iload_n 3, 1, 3, 0, 0, .inl 0, []) ::
  (51, .invokevirtual 65, 3, 49, 4, 1, .inl 0, [1052, 4]) ::
  (54, .ireturn, 1, 1, 0, 0, .inl 0, []) :: []) ls st μ := by rw [s_X5_readComparison_36]
theorem v_X5_readComparison_36 : vc X P m_X5_readComparison h K k_X5_readComparison S (n + 1) 36 ls st μ = if 36 ∈ S then mAt X m_X5_readComparison h K 36 ls st μ else bb X P m_X5_readComparison h K (vc X P m_X5_readComparison h K k_X5_readComparison S n) s_X5_readComparison_36 ls st μ := by rw [vc_s, t_X5_readComparison_36]
end
section
variable {X : mC} {P : mP} {h : Nat} {K : MV → Mem → Prop} {J : mJ} {ls : List (Nat × MV)} {st : List MV} {μ : Mem} {S : List Nat} {n : Nat}
theorem w_X5_readCondition_0 : bb X P m_X5_readCondition h K J s_X5_readCondition_0 ls st μ = bb X P m_X5_readCondition h K J ((0, .aload_n 0, 1, 0, 0, 0, .inl 0, []) ::
  (1, .aload_n 1, 1, 1, 0, 0, .inl 0, []) ::
  (2, .aload_n 2, 1, 2, 0, 0, .inl 0, []) ::
  (3, .iload_n 3, 1, 3, 0, 0, .inl 0, []) ::
  (4, .invokevirtual 54, 3, 55, 4, 1, .inl 0, [1040, 4]) ::
  (7, .ifCond .ne 5, 3, 12, 0, 0, .inl 0, []) ::
  (10, .iconst 0, 1, 0, 0, 0, .inl (nI 0), []) ::
  (11, .ireturn, 1, 1, 0, 0, .inl 0, []) :: s_X5_readCondition_12) ls st μ := by rw [s_X5_readCondition_0]
theorem v_X5_readCondition_0 : vc X P m_X5_readCondition h K k_X5_readCondition S (n + 1) 0 ls st μ = if 0 ∈ S then mAt X m_X5_readCondition h K 0 ls st μ else bb X P m_X5_readCondition h K (vc X P m_X5_readCondition h K k_X5_readCondition S n) s_X5_readCondition_0 ls st μ := by rw [vc_s, t_X5_readCondition_0]
theorem w_X5_readCondition_12 : bb X P m_X5_readCondition h K J s_X5_readCondition_12 ls st μ = bb X P m_X5_readCondition h K J ((12, .iconst 0, 1, 0, 0, 0, .inl (nI 0), []) ::
  (13, .istore 4, 2, 4, 0, 0, .inl 0, []) :: s_X5_readCondition_15) ls st μ := by rw [s_X5_readCondition_12]
theorem v_X5_readCondition_12 : vc X P m_X5_readCondition h K k_X5_readCondition S (n + 1) 12 ls st μ = if 12 ∈ S then mAt X m_X5_readCondition h K 12 ls st μ else bb X P m_X5_readCondition h K (vc X P m_X5_readCondition h K k_X5_readCondition S n) s_X5_readCondition_12 ls st μ := by rw [vc_s, t_X5_readCondition_12]
theorem w_X5_readCondition_15 : bb X P m_X5_readCondition h K J s_X5_readCondition_15 ls st μ = bb X P m_X5_readCondition h K J ((15, .iload 4, 2, 4, 0, 0, .inl 0, []) ::
  (17, .bipush 20, 2, 0, 0, 0, .inl (nI 20), []) ::
  (19, .if_icmp .ge 43, 3, 62, 0, 0, .inl 0, []) ::
  (22, .aload_n 1, 1, 1, 0, 0, .inl 0, []) ::
  (23, .getfield 57, 3, 5, 8, 0, .inl 0, [201]) ::
  (26, .bipush 9, 2, 0, 0, 0, .inl (nI 9), []) ::
  (28, .if_icmp .ne 34, 3, 62, 0, 0, .inl 0, []) ::
  (31, .aload_n 1, 1, 1, 0, 0, .inl 0, []) ::
  (32, .invokevirtual 62, 3, 61, 1, 0, .inl 0, [1050, 5]) ::
  (35, .aload_n 0, 1, 0, 0, 0, .inl 0, []) ::
  (36, .aload_n 1, 1, 1, 0, 0, .inl 0, []) ::
  (37, .aload_n 2, 1, 2, 0, 0, .inl 0, []) ::
  (38, .iload_n 3, 1, 3, 0, 0, .inl 0, []) ::
  (39, .invokevirtual 54, 3, 55, 4, 1, .inl 0, [1040, 4]) ::
  (42, .ifCond .ne 5, 3, 47, 0, 0, .inl 0, []) ::
  (45, .iconst 0, 1, 0, 0, 0, .inl (nI 0), []) ::
  (46, .ireturn, 1, 1, 0, 0, .inl 0, []) :: s_X5_readCondition_47) ls st μ := by rw [s_X5_readCondition_15]
theorem v_X5_readCondition_15 : vc X P m_X5_readCondition h K k_X5_readCondition S (n + 1) 15 ls st μ = if 15 ∈ S then mAt X m_X5_readCondition h K 15 ls st μ else bb X P m_X5_readCondition h K (vc X P m_X5_readCondition h K k_X5_readCondition S n) s_X5_readCondition_15 ls st μ := by rw [vc_s, t_X5_readCondition_15]
theorem w_X5_readCondition_47 : bb X P m_X5_readCondition h K J s_X5_readCondition_47 ls st μ = bb X P m_X5_readCondition h K J ((47, .aload_n 0, 1, 0, 0, 0, .inl 0, []) ::
  (48, .bipush 9, 2, 0, 0, 0, .inl (nI 9), []) ::
  (50, .iconst 0, 1, 0, 0, 0, .inl (nI 0), []) ::
  (51, .iconst 0, 1, 0, 0, 0, .inl (nI 0), []) ::
  (52, .invokevirtual 65, 3, 49, 4, 1, .inl 0, [1052, 4]) ::
  (55, .pop, 1, 0, 0, 0, .inl 0, []) ::
  (56, .iinc 4 1, 3, 4, 0, 0, .inl (nI 1), []) ::
  (59, .goto (-44), 3, 15, 0, 0, .inl 0, []) :: s_X5_readCondition_62) ls st μ := by rw [s_X5_readCondition_47]
theorem v_X5_readCondition_47 : vc X P m_X5_readCondition h K k_X5_readCondition S (n + 1) 47 ls st μ = if 47 ∈ S then mAt X m_X5_readCondition h K 47 ls st μ else bb X P m_X5_readCondition h K (vc X P m_X5_readCondition h K k_X5_readCondition S n) s_X5_readCondition_47 ls st μ := by rw [vc_s, t_X5_readCondition_47]
theorem w_X5_readCondition_62 : bb X P m_X5_readCondition h K J s_X5_readCondition_62 ls st μ = bb X P m_X5_readCondition h K J ((62, .iconst 1, 1, 0, 0, 0, .inl (nI 1), []) ::
  (63, .ireturn, 1, 1, 0, 0, .inl 0, []) :: []) ls st μ := by rw [s_X5_readCondition_62]
theorem v_X5_readCondition_62 : vc X P m_X5_readCondition h K k_X5_readCondition S (n + 1) 62 ls st μ = if 62 ∈ S then mAt X m_X5_readCondition h K 62 ls st μ else bb X P m_X5_readCondition h K (vc X P m_X5_readCondition h K k_X5_readCondition S n) s_X5_readCondition_62 ls st μ := by rw [vc_s, t_X5_readCondition_62]
end
section
variable {X : mC} {P : mP} {h : Nat} {K : MV → Mem → Prop} {J : mJ} {ls : List (Nat × MV)} {st : List MV} {μ : Mem} {S : List Nat} {n : Nat}
theorem w_X5_readFrom_0 : bb X P m_X5_readFrom h K J s_X5_readFrom_0 ls st μ = bb X P m_X5_readFrom h K J ((0, .aload_n 0, 1, 0, 0, 0, .inl 0, []) ::
  (1, .invokevirtual 34, 3, 50, 1, 0, .inl 0, [1034, 4]) ::
  (4, .aload_n 1, 1, 1, 0, 0, .inl 0, []) ::
  (5, .sipush 200, 3, 0, 0, 0, .inl (nI 200), []) ::
  (8, .invokevirtual 37, 3, 67, 2, 0, .inl 0, [1035, 5]) ::
  (11, .aload_n 0, 1, 0, 0, 0, .inl 0, []) ::
  (12, .aload_n 1, 1, 1, 0, 0, .inl 0, []) ::
  (13, .aload_n 2, 1, 2, 0, 0, .inl 0, []) ::
  (14, .iconst 1, 1, 0, 0, 0, .inl (nI 1), []) ::
  (15, .invokevirtual 43, 3, 57, 4, 1, .inl 0, [1036, 4]) ::
  (18, .ifCond .ne 5, 3, 23, 0, 0, .inl 0, []) ::
  (21, .iconst 0, 1, 0, 0, 0, .inl (nI 0), []) ::
  (22, .ireturn, 1, 1, 0, 0, .inl 0, []) :: s_X5_readFrom_23) ls st μ := by rw [s_X5_readFrom_0]
theorem v_X5_readFrom_0 : vc X P m_X5_readFrom h K k_X5_readFrom S (n + 1) 0 ls st μ = if 0 ∈ S then mAt X m_X5_readFrom h K 0 ls st μ else bb X P m_X5_readFrom h K (vc X P m_X5_readFrom h K k_X5_readFrom S n) s_X5_readFrom_0 ls st μ := by rw [vc_s, t_X5_readFrom_0]
theorem w_X5_readFrom_23 : bb X P m_X5_readFrom h K J s_X5_readFrom_23 ls st μ = bb X P m_X5_readFrom h K J ((23, .aload_n 1, 1, 1, 0, 0, .inl 0, []) ::
  (24, .getfield 47, 3, 5, 5, 0, .inl 0, [193]) ::
  (27, .ifCond .eq 11, 3, 38, 0, 0, .inl 0, []) ::
  (30, .aload_n 1, 1, 1, 0, 0, .inl 0, []) ::
  (31, .iconst 1, 1, 0, 0, 0, .inl (nI 1), []) ::
  (32, .invokevirtual 50, 3, 62, 2, 1, .inl 0, [1049, 5]) ::
  (35, .ifCond .eq 7, 3, 42, 0, 0, .inl 0, []) :: s_X5_readFrom_38) ls st μ := by rw [s_X5_readFrom_23]
theorem v_X5_readFrom_23 : vc X P m_X5_readFrom h K k_X5_readFrom S (n + 1) 23 ls st μ = if 23 ∈ S then mAt X m_X5_readFrom h K 23 ls st μ else bb X P m_X5_readFrom h K (vc X P m_X5_readFrom h K k_X5_readFrom S n) s_X5_readFrom_23 ls st μ := by rw [vc_s, t_X5_readFrom_23]
theorem w_X5_readFrom_38 : bb X P m_X5_readFrom h K J s_X5_readFrom_38 ls st μ = bb X P m_X5_readFrom h K J ((38, .iconst 1, 1, 0, 0, 0, .inl (nI 1), []) ::
  (39, .goto 4, 3, 43, 0, 0, .inl 0, []) :: s_X5_readFrom_42) ls st μ := by rw [s_X5_readFrom_38]
theorem v_X5_readFrom_38 : vc X P m_X5_readFrom h K k_X5_readFrom S (n + 1) 38 ls st μ = if 38 ∈ S then mAt X m_X5_readFrom h K 38 ls st μ else bb X P m_X5_readFrom h K (vc X P m_X5_readFrom h K k_X5_readFrom S n) s_X5_readFrom_38 ls st μ := by rw [vc_s, t_X5_readFrom_38]
theorem w_X5_readFrom_42 : bb X P m_X5_readFrom h K J s_X5_readFrom_42 ls st μ = bb X P m_X5_readFrom h K J ((42, .iconst 0, 1, 0, 0, 0, .inl (nI 0), []) :: s_X5_readFrom_43) ls st μ := by rw [s_X5_readFrom_42]
theorem v_X5_readFrom_42 : vc X P m_X5_readFrom h K k_X5_readFrom S (n + 1) 42 ls st μ = if 42 ∈ S then mAt X m_X5_readFrom h K 42 ls st μ else bb X P m_X5_readFrom h K (vc X P m_X5_readFrom h K k_X5_readFrom S n) s_X5_readFrom_42 ls st μ := by rw [vc_s, t_X5_readFrom_42]
theorem w_X5_readFrom_43 : bb X P m_X5_readFrom h K J s_X5_readFrom_43 ls st μ = bb X P m_X5_readFrom h K J ((43, .ireturn, 1, 1, 0, 0, .inl 0, []) :: []) ls st μ := by rw [s_X5_readFrom_43]
theorem v_X5_readFrom_43 : vc X P m_X5_readFrom h K k_X5_readFrom S (n + 1) 43 ls st μ = if 43 ∈ S then mAt X m_X5_readFrom h K 43 ls st μ else bb X P m_X5_readFrom h K (vc X P m_X5_readFrom h K k_X5_readFrom S n) s_X5_readFrom_43 ls st μ := by rw [vc_s, t_X5_readFrom_43]
end
section
variable {X : mC} {P : mP} {h : Nat} {K : MV → Mem → Prop} {J : mJ} {ls : List (Nat × MV)} {st : List MV} {μ : Mem} {S : List Nat} {n : Nat}
theorem w_X5_readNamed_0 : bb X P m_X5_readNamed h K J s_X5_readNamed_0 ls st μ = bb X P m_X5_readNamed h K J ((0, .iload_n 3, 1, 3, 0, 0, .inl 0, []) ::
  (1, .bipush 14, 2, 0, 0, 0, .inl (nI 14), []) ::
  (3, .if_icmp .ne 11, 3, 14, 0, 0, .inl 0, []) ::
  (6, .aload_n 2, 1, 2, 0, 0, .inl 0, []) ::
  (7, .aload_n 1, 1, 1, 0, 0, .inl 0, []) ::
  (8, .invokevirtual 86, 3, 8, 2, 1, .inl 0, [1068, 0]) ::
  (11, .goto 8, 3, 19, 0, 0, .inl 0, []) :: s_X5_readNamed_14) ls st μ := by rw [s_X5_readNamed_0]
theorem v_X5_readNamed_0 : vc X P m_X5_readNamed h K k_X5_readNamed S (n + 1) 0 ls st μ = if 0 ∈ S then mAt X m_X5_readNamed h K 0 ls st μ else bb X P m_X5_readNamed h K (vc X P m_X5_readNamed h K k_X5_readNamed S n) s_X5_readNamed_0 ls st μ := by rw [vc_s, t_X5_readNamed_0]
theorem w_X5_readNamed_14 : bb X P m_X5_readNamed h K J s_X5_readNamed_14 ls st μ = bb X P m_X5_readNamed h K J ((14, .aload_n 2, 1, 2, 0, 0, .inl 0, []) ::
  (15, .aload_n 1, 1, 1, 0, 0, .inl 0, []) ::
  (16, .invokevirtual 92, 3, 7, 2, 1, .inl 0, [1069, 0]) :: s_X5_readNamed_19) ls st μ := by rw [s_X5_readNamed_14]
theorem v_X5_readNamed_14 : vc X P m_X5_readNamed h K k_X5_readNamed S (n + 1) 14 ls st μ = if 14 ∈ S then mAt X m_X5_readNamed h K 14 ls st μ else bb X P m_X5_readNamed h K (vc X P m_X5_readNamed h K k_X5_readNamed S n) s_X5_readNamed_14 ls st μ := by rw [vc_s, t_X5_readNamed_14]
theorem w_X5_readNamed_19 : bb X P m_X5_readNamed h K J s_X5_readNamed_19 ls st μ = bb X P m_X5_readNamed h K J ((19, .istore 4, 2, 4, 0, 0, .inl 0, []) ::
  (21, .iload 4, 2, 4, 0, 0, .inl 0, []) ::
  (23, .iconst (-1), 1, 0, 0, 0, .inl (-1), []) ::
  (24, .if_icmp .ne 5, 3, 29, 0, 0, .inl 0, []) ::
  (27, .iconst 0, 1, 0, 0, 0, .inl (nI 0), []) ::
  (28, .ireturn, 1, 1, 0, 0, .inl 0, []) :: s_X5_readNamed_29) ls st μ := by rw [s_X5_readNamed_19]
theorem v_X5_readNamed_19 : vc X P m_X5_readNamed h K k_X5_readNamed S (n + 1) 19 ls st μ = if 19 ∈ S then mAt X m_X5_readNamed h K 19 ls st μ else bb X P m_X5_readNamed h K (vc X P m_X5_readNamed h K k_X5_readNamed S n) s_X5_readNamed_19 ls st μ := by rw [vc_s, t_X5_readNamed_19]
theorem w_X5_readNamed_29 : bb X P m_X5_readNamed h K J s_X5_readNamed_29 ls st μ = bb X P m_X5_readNamed h K J ((29, .aload_n 1, 1, 1, 0, 0, .inl 0, []) ::
  (30, .invokevirtual 62, 3, 61, 1, 0, .inl 0, [1050, 5]) ::
  (33, .aload_n 0, 1, 0, 0, 0, .inl 0, []) ::
  (34, .iload_n 3, 1, 3, 0, 0, .inl 0, []) ::
  (35, .iload 4, 2, 4, 0, 0, .inl 0, []) ::
  (37, .iconst 0, 1, 0, 0, 0, .inl (nI 0), []) ::
  (38, .invokevirtual 65, 3, 49, 4, 1, .inl 0, [1052, 4]) ::
  (41, .ireturn, 1, 1, 0, 0, .inl 0, []) :: []) ls st μ := by rw [s_X5_readNamed_29]
theorem v_X5_readNamed_29 : vc X P m_X5_readNamed h K k_X5_readNamed S (n + 1) 29 ls st μ = if 29 ∈ S then mAt X m_X5_readNamed h K 29 ls st μ else bb X P m_X5_readNamed h K (vc X P m_X5_readNamed h K k_X5_readNamed S n) s_X5_readNamed_29 ls st μ := by rw [vc_s, t_X5_readNamed_29]
end
section
variable {X : mC} {P : mP} {h : Nat} {K : MV → Mem → Prop} {J : mJ} {ls : List (Nat × MV)} {st : List MV} {μ : Mem} {S : List Nat} {n : Nat}
theorem w_X5_readOne_0 : bb X P m_X5_readOne h K J s_X5_readOne_0 ls st μ = bb X P m_X5_readOne h K J ((0, .aload_n 1, 1, 1, 0, 0, .inl 0, []) ::
  (1, .bipush 40, 2, 0, 0, 0, .inl (nI 40), []) ::
  (3, .invokevirtual 72, 3, 66, 2, 1, .inl 0, [1048, 5]) ::
  (6, .istore 4, 2, 4, 0, 0, .inl 0, []) ::
  (8, .aload_n 1, 1, 1, 0, 0, .inl 0, []) ::
  (9, .getfield 57, 3, 5, 8, 0, .inl 0, [201]) ::
  (12, .istore 5, 2, 5, 0, 0, .inl 0, []) ::
  (14, .iload 4, 2, 4, 0, 0, .inl 0, []) ::
  (16, .ifCond .ne 16, 3, 32, 0, 0, .inl 0, []) ::
  (19, .iload 5, 2, 5, 0, 0, .inl 0, []) ::
  (21, .bipush 11, 2, 0, 0, 0, .inl (nI 11), []) ::
  (23, .if_icmp .ge 9, 3, 32, 0, 0, .inl 0, []) ::
  (26, .aload_n 1, 1, 1, 0, 0, .inl 0, []) ::
  (27, .iconst 1, 1, 0, 0, 0, .inl (nI 1), []) ::
  (28, .invokevirtual 50, 3, 62, 2, 1, .inl 0, [1049, 5]) ::
  (31, .ireturn, 1, 1, 0, 0, .inl 0, []) :: s_X5_readOne_32) ls st μ := by rw [s_X5_readOne_0]
theorem v_X5_readOne_0 : vc X P m_X5_readOne h K k_X5_readOne S (n + 1) 0 ls st μ = if 0 ∈ S then mAt X m_X5_readOne h K 0 ls st μ else bb X P m_X5_readOne h K (vc X P m_X5_readOne h K k_X5_readOne S n) s_X5_readOne_0 ls st μ := by rw [vc_s, t_X5_readOne_0]
theorem w_X5_readOne_32 : bb X P m_X5_readOne h K J s_X5_readOne_32 ls st μ = bb X P m_X5_readOne h K J ((32, .aload_n 0, 1, 0, 0, 0, .inl 0, []) ::
  (33, .getfield 21, 3, 4, 0, 0, .inl 0, [355]) ::
  (36, .bipush 20, 2, 0, 0, 0, .inl (nI 20), []) ::
  (38, .if_icmp .ge 9, 3, 47, 0, 0, .inl 0, []) ::
  (41, .iload_n 3, 1, 3, 0, 0, .inl 0, []) ::
  (42, .bipush 8, 2, 0, 0, 0, .inl (nI 8), []) ::
  (44, .if_icmp .le 9, 3, 53, 0, 0, .inl 0, []) :: s_X5_readOne_47) ls st μ := by rw [s_X5_readOne_32]
theorem v_X5_readOne_32 : vc X P m_X5_readOne h K k_X5_readOne S (n + 1) 32 ls st μ = if 32 ∈ S then mAt X m_X5_readOne h K 32 ls st μ else bb X P m_X5_readOne h K (vc X P m_X5_readOne h K k_X5_readOne S n) s_X5_readOne_32 ls st μ := by rw [vc_s, t_X5_readOne_32]
theorem w_X5_readOne_47 : bb X P m_X5_readOne h K J s_X5_readOne_47 ls st μ = bb X P m_X5_readOne h K J ((47, .aload_n 1, 1, 1, 0, 0, .inl 0, []) ::
  (48, .iconst 4, 1, 0, 0, 0, .inl (nI 4), []) ::
  (49, .invokevirtual 50, 3, 62, 2, 1, .inl 0, [1049, 5]) ::
  (52, .ireturn, 1, 1, 0, 0, .inl 0, []) :: s_X5_readOne_53) ls st μ := by rw [s_X5_readOne_47]
theorem v_X5_readOne_47 : vc X P m_X5_readOne h K k_X5_readOne S (n + 1) 47 ls st μ = if 47 ∈ S then mAt X m_X5_readOne h K 47 ls st μ else bb X P m_X5_readOne h K (vc X P m_X5_readOne h K k_X5_readOne S n) s_X5_readOne_47 ls st μ := by rw [vc_s, t_X5_readOne_47]
theorem w_X5_readOne_53 : bb X P m_X5_readOne h K J s_X5_readOne_53 ls st μ = bb X P m_X5_readOne h K J ((53, .aload_n 0, 1, 0, 0, 0, .inl 0, []) ::
  (54, .dup, 1, 0, 0, 0, .inl 0, []) ::
  (55, .getfield 21, 3, 4, 0, 0, .inl 0, [355]) ::
  (58, .iconst 1, 1, 0, 0, 0, .inl (nI 1), []) ::
  (59, .iadd, 1, 0, 0, 0, .inl 0, []) ::
  (60, .putfield 21, 3, 4, 0, 0, .inl 0, [355]) ::
  (63, .aload_n 1, 1, 1, 0, 0, .inl 0, []) ::
  (64, .invokevirtual 62, 3, 61, 1, 0, .inl 0, [1050, 5]) ::
  (67, .iload 4, 2, 4, 0, 0, .inl 0, []) ::
  (69, .ifCond .eq 30, 3, 99, 0, 0, .inl 0, []) ::
  (72, .aload_n 0, 1, 0, 0, 0, .inl 0, []) ::
  (73, .aload_n 1, 1, 1, 0, 0, .inl 0, []) ::
  (74, .aload_n 2, 1, 2, 0, 0, .inl 0, []) ::
  (75, .iload_n 3, 1, 3, 0, 0, .inl 0, []) ::
  (76, .iconst 1, 1, 0, 0, 0, .inl (nI 1), []) ::
  (77, .iadd, 1, 0, 0, 0, .inl 0, []) ::
  (78, .invokevirtual 43, 3, 57, 4, 1, .inl 0, [1036, 4]) ::
  (81, .ifCond .eq 16, 3, 97, 0, 0, .inl 0, []) ::
  (84, .aload_n 1, 1, 1, 0, 0, .inl 0, []) ::
  (85, .bipush 41, 2, 0, 0, 0, .inl (nI 41), []) ::
  (87, .invokevirtual 76, 3, 71, 2, 1, .inl 0, [1051, 5]) ::
  (90, .ifCond .eq 7, 3, 97, 0, 0, .inl 0, []) ::
  (93, .iconst 1, 1, 0, 0, 0, .inl (nI 1), []) ::
  (94, .goto 4, 3, 98, 0, 0, .inl 0, []) :: s_X5_readOne_97) ls st μ := by rw [s_X5_readOne_53]
theorem v_X5_readOne_53 : vc X P m_X5_readOne h K k_X5_readOne S (n + 1) 53 ls st μ = if 53 ∈ S then mAt X m_X5_readOne h K 53 ls st μ else bb X P m_X5_readOne h K (vc X P m_X5_readOne h K k_X5_readOne S n) s_X5_readOne_53 ls st μ := by rw [vc_s, t_X5_readOne_53]
theorem w_X5_readOne_97 : bb X P m_X5_readOne h K J s_X5_readOne_97 ls st μ = bb X P m_X5_readOne h K J ((97, .iconst 0, 1, 0, 0, 0, .inl (nI 0), []) :: s_X5_readOne_98) ls st μ := by rw [s_X5_readOne_97]
theorem v_X5_readOne_97 : vc X P m_X5_readOne h K k_X5_readOne S (n + 1) 97 ls st μ = if 97 ∈ S then mAt X m_X5_readOne h K 97 ls st μ else bb X P m_X5_readOne h K (vc X P m_X5_readOne h K k_X5_readOne S n) s_X5_readOne_97 ls st μ := by rw [vc_s, t_X5_readOne_97]
theorem w_X5_readOne_98 : bb X P m_X5_readOne h K J s_X5_readOne_98 ls st μ = bb X P m_X5_readOne h K J ((98, .ireturn, 1, 1, 0, 0, .inl 0, []) :: s_X5_readOne_99) ls st μ := by rw [s_X5_readOne_98]
theorem v_X5_readOne_98 : vc X P m_X5_readOne h K k_X5_readOne S (n + 1) 98 ls st μ = if 98 ∈ S then mAt X m_X5_readOne h K 98 ls st μ else bb X P m_X5_readOne h K (vc X P m_X5_readOne h K k_X5_readOne S n) s_X5_readOne_98 ls st μ := by rw [vc_s, t_X5_readOne_98]
theorem w_X5_readOne_99 : bb X P m_X5_readOne h K J s_X5_readOne_99 ls st μ = bb X P m_X5_readOne h K J ((99, .iload 5, 2, 5, 0, 0, .inl 0, []) ::
  (101, .bipush 11, 2, 0, 0, 0, .inl (nI 11), []) ::
  (103, .if_icmp .ne 32, 3, 135, 0, 0, .inl 0, []) ::
  (106, .aload_n 0, 1, 0, 0, 0, .inl 0, []) ::
  (107, .aload_n 1, 1, 1, 0, 0, .inl 0, []) ::
  (108, .aload_n 2, 1, 2, 0, 0, .inl 0, []) ::
  (109, .iload_n 3, 1, 3, 0, 0, .inl 0, []) ::
  (110, .iconst 1, 1, 0, 0, 0, .inl (nI 1), []) ::
  (111, .iadd, 1, 0, 0, 0, .inl 0, []) ::
  (112, .invokevirtual 69, 3, 60, 4, 1, .inl 0, [1044, 4]) ::
  (115, .ifCond .eq 18, 3, 133, 0, 0, .inl 0, []) ::
  (118, .aload_n 0, 1, 0, 0, 0, .inl 0, []) ::
  (119, .iload 5, 2, 5, 0, 0, .inl 0, []) ::
  (121, .iconst 0, 1, 0, 0, 0, .inl (nI 0), []) ::
  (122, .iconst 0, 1, 0, 0, 0, .inl (nI 0), []) ::
  (123, .invokevirtual 65, 3, 49, 4, 1, .inl 0, [1052, 4]) ::
  (126, .ifCond .eq 7, 3, 133, 0, 0, .inl 0, []) ::
  (129, .iconst 1, 1, 0, 0, 0, .inl (nI 1), []) ::
  (130, .goto 4, 3, 134, 0, 0, .inl 0, []) :: s_X5_readOne_133) ls st μ := by rw [s_X5_readOne_99]
theorem v_X5_readOne_99 : vc X P m_X5_readOne h K k_X5_readOne S (n + 1) 99 ls st μ = if 99 ∈ S then mAt X m_X5_readOne h K 99 ls st μ else bb X P m_X5_readOne h K (vc X P m_X5_readOne h K k_X5_readOne S n) s_X5_readOne_99 ls st μ := by rw [vc_s, t_X5_readOne_99]
theorem w_X5_readOne_133 : bb X P m_X5_readOne h K J s_X5_readOne_133 ls st μ = bb X P m_X5_readOne h K J ((133, .iconst 0, 1, 0, 0, 0, .inl (nI 0), []) :: s_X5_readOne_134) ls st μ := by rw [s_X5_readOne_133]
theorem v_X5_readOne_133 : vc X P m_X5_readOne h K k_X5_readOne S (n + 1) 133 ls st μ = if 133 ∈ S then mAt X m_X5_readOne h K 133 ls st μ else bb X P m_X5_readOne h K (vc X P m_X5_readOne h K k_X5_readOne S n) s_X5_readOne_133 ls st μ := by rw [vc_s, t_X5_readOne_133]
theorem w_X5_readOne_134 : bb X P m_X5_readOne h K J s_X5_readOne_134 ls st μ = bb X P m_X5_readOne h K J ((134, .ireturn, 1, 1, 0, 0, .inl 0, []) :: s_X5_readOne_135) ls st μ := by rw [s_X5_readOne_134]
theorem v_X5_readOne_134 : vc X P m_X5_readOne h K k_X5_readOne S (n + 1) 134 ls st μ = if 134 ∈ S then mAt X m_X5_readOne h K 134 ls st μ else bb X P m_X5_readOne h K (vc X P m_X5_readOne h K k_X5_readOne S n) s_X5_readOne_134 ls st μ := by rw [vc_s, t_X5_readOne_134]
theorem w_X5_readOne_135 : bb X P m_X5_readOne h K J s_X5_readOne_135 ls st μ = bb X P m_X5_readOne h K J ((135, .iload 5, 2, 5, 0, 0, .inl 0, []) ::
  (137, .bipush 15, 2, 0, 0, 0, .inl (nI 15), []) ::
  (139, .if_icmp .lt 11, 3, 150, 0, 0, .inl 0, []) ::
  (142, .aload_n 0, 1, 0, 0, 0, .inl 0, []) ::
  (143, .aload_n 1, 1, 1, 0, 0, .inl 0, []) ::
  (144, .iload 5, 2, 5, 0, 0, .inl 0, []) ::
  (146, .invokevirtual 79, 3, 56, 3, 1, .inl 0, [1056, 4]) ::
  (149, .ireturn, 1, 1, 0, 0, .inl 0, []) :: s_X5_readOne_150) ls st μ := by rw [s_X5_readOne_135]
theorem v_X5_readOne_135 : vc X P m_X5_readOne h K k_X5_readOne S (n + 1) 135 ls st μ = if 135 ∈ S then mAt X m_X5_readOne h K 135 ls st μ else bb X P m_X5_readOne h K (vc X P m_X5_readOne h K k_X5_readOne S n) s_X5_readOne_135 ls st μ := by rw [vc_s, t_X5_readOne_135]
theorem w_X5_readOne_150 : bb X P m_X5_readOne h K J s_X5_readOne_150 ls st μ = bb X P m_X5_readOne h K J ((150, .aload_n 0, 1, 0, 0, 0, .inl 0, []) ::
  (151, .aload_n 1, 1, 1, 0, 0, .inl 0, []) ::
  (152, .aload_n 2, 1, 2, 0, 0, .inl 0, []) ::
  (153, .iload 5, 2, 5, 0, 0, .inl 0, []) ::
  (155, .invokevirtual 83, 3, 59, 4, 1, .inl 0, [1064, 4]) ::
  (158, .ireturn, 1, 1, 0, 0, .inl 0, []) :: []) ls st μ := by rw [s_X5_readOne_150]
theorem v_X5_readOne_150 : vc X P m_X5_readOne h K k_X5_readOne S (n + 1) 150 ls st μ = if 150 ∈ S then mAt X m_X5_readOne h K 150 ls st μ else bb X P m_X5_readOne h K (vc X P m_X5_readOne h K k_X5_readOne S n) s_X5_readOne_150 ls st μ := by rw [vc_s, t_X5_readOne_150]
end
section
variable {X : mC} {P : mP} {h : Nat} {K : MV → Mem → Prop} {J : mJ} {ls : List (Nat × MV)} {st : List MV} {μ : Mem} {S : List Nat} {n : Nat}
theorem w_X6_advance_0 : bb X P m_X6_advance h K J s_X6_advance_0 ls st μ = bb X P m_X6_advance h K J ((0, .aload_n 0, 1, 0, 0, 0, .inl 0, []) ::
  (1, .getfield 35, 3, 5, 4, 0, .inl 0, [191]) ::
  (4, .istore_n 1, 1, 1, 0, 0, .inl 0, []) :: s_X6_advance_5) ls st μ := by rw [s_X6_advance_0]
theorem v_X6_advance_0 : vc X P m_X6_advance h K k_X6_advance S (n + 1) 0 ls st μ = if 0 ∈ S then mAt X m_X6_advance h K 0 ls st μ else bb X P m_X6_advance h K (vc X P m_X6_advance h K k_X6_advance S n) s_X6_advance_0 ls st μ := by rw [vc_s, t_X6_advance_0]
theorem w_X6_advance_5 : bb X P m_X6_advance h K J s_X6_advance_5 ls st μ = bb X P m_X6_advance h K J ((5, .iload_n 1, 1, 1, 0, 0, .inl 0, []) ::
  (6, .aload_n 0, 1, 0, 0, 0, .inl 0, []) ::
  (7, .getfield 28, 3, 5, 2, 0, .inl 0, [188]) ::
  (10, .if_icmp .ge 31, 3, 41, 0, 0, .inl 0, []) ::
  (13, .aload_n 0, 1, 0, 0, 0, .inl 0, []) ::
  (14, .getfield 11, 3, 5, 0, 3, .inr (.inr (16, 940, 1)), [185]) ::
  (17, .iload_n 1, 1, 1, 0, 0, .inl 0, []) ::
  (18, .iaload, 1, 0, 0, 0, .inl 0, []) ::
  (19, .bipush 32, 2, 0, 0, 0, .inl (nI 32), []) ::
  (21, .if_icmp .eq 14, 3, 35, 0, 0, .inl 0, []) ::
  (24, .aload_n 0, 1, 0, 0, 0, .inl 0, []) ::
  (25, .getfield 11, 3, 5, 0, 3, .inr (.inr (16, 940, 1)), [185]) ::
  (28, .iload_n 1, 1, 1, 0, 0, .inl 0, []) ::
  (29, .iaload, 1, 0, 0, 0, .inl 0, []) ::
  (30, .bipush 10, 2, 0, 0, 0, .inl (nI 10), []) ::
  (32, .if_icmp .ne 9, 3, 41, 0, 0, .inl 0, []) :: s_X6_advance_35) ls st μ := by rw [s_X6_advance_5]
theorem v_X6_advance_5 : vc X P m_X6_advance h K k_X6_advance S (n + 1) 5 ls st μ = if 5 ∈ S then mAt X m_X6_advance h K 5 ls st μ else bb X P m_X6_advance h K (vc X P m_X6_advance h K k_X6_advance S n) s_X6_advance_5 ls st μ := by rw [vc_s, t_X6_advance_5]
theorem w_X6_advance_35 : bb X P m_X6_advance h K J s_X6_advance_35 ls st μ = bb X P m_X6_advance h K J ((35, .iinc 1 1, 3, 1, 0, 0, .inl (nI 1), []) ::
  (38, .goto (-33), 3, 5, 0, 0, .inl 0, []) :: s_X6_advance_41) ls st μ := by rw [s_X6_advance_35]
theorem v_X6_advance_35 : vc X P m_X6_advance h K k_X6_advance S (n + 1) 35 ls st μ = if 35 ∈ S then mAt X m_X6_advance h K 35 ls st μ else bb X P m_X6_advance h K (vc X P m_X6_advance h K k_X6_advance S n) s_X6_advance_35 ls st μ := by rw [vc_s, t_X6_advance_35]
theorem w_X6_advance_41 : bb X P m_X6_advance h K J s_X6_advance_41 ls st μ = bb X P m_X6_advance h K J ((41, .aload_n 0, 1, 0, 0, 0, .inl 0, []) ::
  (42, .iconst 0, 1, 0, 0, 0, .inl (nI 0), []) ::
  (43, .putfield 50, 3, 5, 7, 0, .inl 0, [197]) ::
  (46, .aload_n 0, 1, 0, 0, 0, .inl 0, []) ::
  (47, .iconst (-1), 1, 0, 0, 0, .inl (-1), []) ::
  (48, .putfield 53, 3, 5, 8, 0, .inl 0, [202]) ::
  (51, .iload_n 1, 1, 1, 0, 0, .inl 0, []) ::
  (52, .aload_n 0, 1, 0, 0, 0, .inl 0, []) ::
  (53, .getfield 32, 3, 5, 3, 0, .inl 0, [190]) ::
  (56, .if_icmp .lt 33, 3, 89, 0, 0, .inl 0, []) ::
  (59, .aload_n 0, 1, 0, 0, 0, .inl 0, []) ::
  (60, .getfield 28, 3, 5, 2, 0, .inl 0, [188]) ::
  (63, .aload_n 0, 1, 0, 0, 0, .inl 0, []) ::
  (64, .getfield 32, 3, 5, 3, 0, .inl 0, [190]) ::
  (67, .if_icmp .le 22, 3, 89, 0, 0, .inl 0, []) ::
  (70, .aload_n 0, 1, 0, 0, 0, .inl 0, []) ::
  (71, .iconst 1, 1, 0, 0, 0, .inl (nI 1), []) ::
  (72, .putfield 56, 3, 5, 5, 0, .inl 0, [194]) ::
  (75, .aload_n 0, 1, 0, 0, 0, .inl 0, []) ::
  (76, .aload_n 0, 1, 0, 0, 0, .inl 0, []) ::
  (77, .getfield 32, 3, 5, 3, 0, .inl 0, [190]) ::
  (80, .putfield 59, 3, 5, 6, 0, .inl 0, [196]) ::
  (83, .aload_n 0, 1, 0, 0, 0, .inl 0, []) ::
  (84, .iload_n 1, 1, 1, 0, 0, .inl 0, []) ::
  (85, .putfield 35, 3, 5, 4, 0, .inl 0, [191]) ::
  (88, .return_, 1, 0, 0, 0, .inl 0, []) :: s_X6_advance_89) ls st μ := by rw [s_X6_advance_41]
theorem v_X6_advance_41 : vc X P m_X6_advance h K k_X6_advance S (n + 1) 41 ls st μ = if 41 ∈ S then mAt X m_X6_advance h K 41 ls st μ else bb X P m_X6_advance h K (vc X P m_X6_advance h K k_X6_advance S n) s_X6_advance_41 ls st μ := by rw [vc_s, t_X6_advance_41]
theorem w_X6_advance_89 : bb X P m_X6_advance h K J s_X6_advance_89 ls st μ = bb X P m_X6_advance h K J ((89, .aload_n 0, 1, 0, 0, 0, .inl 0, []) ::
  (90, .iload_n 1, 1, 1, 0, 0, .inl 0, []) ::
  (91, .putfield 59, 3, 5, 6, 0, .inl 0, [196]) ::
  (94, .iload_n 1, 1, 1, 0, 0, .inl 0, []) ::
  (95, .aload_n 0, 1, 0, 0, 0, .inl 0, []) ::
  (96, .getfield 28, 3, 5, 2, 0, .inl 0, [188]) ::
  (99, .if_icmp .lt 19, 3, 118, 0, 0, .inl 0, []) ::
  (102, .aload_n 0, 1, 0, 0, 0, .inl 0, []) ::
  (103, .iconst 0, 1, 0, 0, 0, .inl (nI 0), []) ::
  (104, .putfield 56, 3, 5, 5, 0, .inl 0, [194]) ::
  (107, .aload_n 0, 1, 0, 0, 0, .inl 0, []) ::
  (108, .aload_n 0, 1, 0, 0, 0, .inl 0, []) ::
  (109, .getfield 28, 3, 5, 2, 0, .inl 0, [188]) ::
  (112, .putfield 35, 3, 5, 4, 0, .inl 0, [191]) ::
  (115, .goto 7, 3, 122, 0, 0, .inl 0, []) :: s_X6_advance_118) ls st μ := by rw [s_X6_advance_89]
theorem v_X6_advance_89 : vc X P m_X6_advance h K k_X6_advance S (n + 1) 89 ls st μ = if 89 ∈ S then mAt X m_X6_advance h K 89 ls st μ else bb X P m_X6_advance h K (vc X P m_X6_advance h K k_X6_advance S n) s_X6_advance_89 ls st μ := by rw [vc_s, t_X6_advance_89]
theorem w_X6_advance_118 : bb X P m_X6_advance h K J s_X6_advance_118 ls st μ = bb X P m_X6_advance h K J ((118, .aload_n 0, 1, 0, 0, 0, .inl 0, []) ::
  (119, .invokevirtual 62, 3, 69, 1, 0, .inl 0, [573, 5]) :: s_X6_advance_122) ls st μ := by rw [s_X6_advance_118]
theorem v_X6_advance_118 : vc X P m_X6_advance h K k_X6_advance S (n + 1) 118 ls st μ = if 118 ∈ S then mAt X m_X6_advance h K 118 ls st μ else bb X P m_X6_advance h K (vc X P m_X6_advance h K k_X6_advance S n) s_X6_advance_118 ls st μ := by rw [vc_s, t_X6_advance_118]
theorem w_X6_advance_122 : bb X P m_X6_advance h K J s_X6_advance_122 ls st μ = bb X P m_X6_advance h K J ((122, .return_, 1, 0, 0, 0, .inl 0, []) :: []) ls st μ := by rw [s_X6_advance_122]
theorem v_X6_advance_122 : vc X P m_X6_advance h K k_X6_advance S (n + 1) 122 ls st μ = if 122 ∈ S then mAt X m_X6_advance h K 122 ls st μ else bb X P m_X6_advance h K (vc X P m_X6_advance h K k_X6_advance S n) s_X6_advance_122 ls st μ := by rw [vc_s, t_X6_advance_122]
end
section
variable {X : mC} {P : mP} {h : Nat} {K : MV → Mem → Prop} {J : mJ} {ls : List (Nat × MV)} {st : List MV} {μ : Mem} {S : List Nat} {n : Nat}
theorem w_X6_fail_0 : bb X P m_X6_fail h K J s_X6_fail_0 ls st μ = bb X P m_X6_fail h K J ((0, .aload_n 0, 1, 0, 0, 0, .inl 0, []) ::
  (1, .iload_n 1, 1, 1, 0, 0, .inl 0, []) ::
  (2, .putfield 41, 3, 5, 10, 0, .inl 0, [207]) ::
  (5, .aload_n 0, 1, 0, 0, 0, .inl 0, []) ::
  (6, .aload_n 0, 1, 0, 0, 0, .inl 0, []) ::
  (7, .getfield 59, 3, 5, 6, 0, .inl 0, [196]) ::
  (10, .putfield 44, 3, 5, 11, 0, .inl 0, [209]) ::
  (13, .iconst 0, 1, 0, 0, 0, .inl (nI 0), []) ::
  (14, .ireturn, 1, 1, 0, 0, .inl 0, []) :: []) ls st μ := by rw [s_X6_fail_0]
theorem v_X6_fail_0 : vc X P m_X6_fail h K k_X6_fail S (n + 1) 0 ls st μ = if 0 ∈ S then mAt X m_X6_fail h K 0 ls st μ else bb X P m_X6_fail h K (vc X P m_X6_fail h K k_X6_fail S n) s_X6_fail_0 ls st μ := by rw [vc_s, t_X6_fail_0]
end
section
variable {X : mC} {P : mP} {h : Nat} {K : MV → Mem → Prop} {J : mJ} {ls : List (Nat × MV)} {st : List MV} {μ : Mem} {S : List Nat} {n : Nat}
theorem w_X6_hasRoomForFive_0 : bb X P m_X6_hasRoomForFive h K J s_X6_hasRoomForFive_0 ls st μ = bb X P m_X6_hasRoomForFive h K J ((0, .aload_n 0, 1, 0, 0, 0, .inl 0, []) ::
  (1, .getfield 28, 3, 5, 2, 0, .inl 0, [188]) ::
  (4, .bipush 20, 2, 0, 0, 0, .inl (nI 20), []) ::
  (6, .iadd, 1, 0, 0, 0, .inl 0, []) ::
  (7, .sipush 940, 3, 0, 0, 0, .inl (nI 940), []) ::
  (10, .if_icmp .gt 7, 3, 17, 0, 0, .inl 0, []) ::
  (13, .iconst 1, 1, 0, 0, 0, .inl (nI 1), []) ::
  (14, .goto 4, 3, 18, 0, 0, .inl 0, []) :: s_X6_hasRoomForFive_17) ls st μ := by rw [s_X6_hasRoomForFive_0]
theorem v_X6_hasRoomForFive_0 : vc X P m_X6_hasRoomForFive h K k_X6_hasRoomForFive S (n + 1) 0 ls st μ = if 0 ∈ S then mAt X m_X6_hasRoomForFive h K 0 ls st μ else bb X P m_X6_hasRoomForFive h K (vc X P m_X6_hasRoomForFive h K k_X6_hasRoomForFive S n) s_X6_hasRoomForFive_0 ls st μ := by rw [vc_s, t_X6_hasRoomForFive_0]
theorem w_X6_hasRoomForFive_17 : bb X P m_X6_hasRoomForFive h K J s_X6_hasRoomForFive_17 ls st μ = bb X P m_X6_hasRoomForFive h K J ((17, .iconst 0, 1, 0, 0, 0, .inl (nI 0), []) :: s_X6_hasRoomForFive_18) ls st μ := by rw [s_X6_hasRoomForFive_17]
theorem v_X6_hasRoomForFive_17 : vc X P m_X6_hasRoomForFive h K k_X6_hasRoomForFive S (n + 1) 17 ls st μ = if 17 ∈ S then mAt X m_X6_hasRoomForFive h K 17 ls st μ else bb X P m_X6_hasRoomForFive h K (vc X P m_X6_hasRoomForFive h K k_X6_hasRoomForFive S n) s_X6_hasRoomForFive_17 ls st μ := by rw [vc_s, t_X6_hasRoomForFive_17]
theorem w_X6_hasRoomForFive_18 : bb X P m_X6_hasRoomForFive h K J s_X6_hasRoomForFive_18 ls st μ = bb X P m_X6_hasRoomForFive h K J ((18, .ireturn, 1, 1, 0, 0, .inl 0, []) :: []) ls st μ := by rw [s_X6_hasRoomForFive_18]
theorem v_X6_hasRoomForFive_18 : vc X P m_X6_hasRoomForFive h K k_X6_hasRoomForFive S (n + 1) 18 ls st μ = if 18 ∈ S then mAt X m_X6_hasRoomForFive h K 18 ls st μ else bb X P m_X6_hasRoomForFive h K (vc X P m_X6_hasRoomForFive h K k_X6_hasRoomForFive S n) s_X6_hasRoomForFive_18 ls st μ := by rw [vc_s, t_X6_hasRoomForFive_18]
end
section
variable {X : mC} {P : mP} {h : Nat} {K : MV → Mem → Prop} {J : mJ} {ls : List (Nat × MV)} {st : List MV} {μ : Mem} {S : List Nat} {n : Nat}
theorem w_X6_isComparing_0 : bb X P m_X6_isComparing h K J s_X6_isComparing_0 ls st μ = bb X P m_X6_isComparing h K J ((0, .aload_n 0, 1, 0, 0, 0, .inl 0, []) ::
  (1, .getfield 56, 3, 5, 5, 0, .inl 0, [194]) ::
  (4, .iconst 4, 1, 0, 0, 0, .inl (nI 4), []) ::
  (5, .if_icmp .ne 34, 3, 39, 0, 0, .inl 0, []) ::
  (8, .aload_n 0, 1, 0, 0, 0, .inl 0, []) ::
  (9, .getfield 50, 3, 5, 7, 0, .inl 0, [197]) ::
  (12, .bipush 60, 2, 0, 0, 0, .inl (nI 60), []) ::
  (14, .if_icmp .eq 21, 3, 35, 0, 0, .inl 0, []) ::
  (17, .aload_n 0, 1, 0, 0, 0, .inl 0, []) ::
  (18, .getfield 50, 3, 5, 7, 0, .inl 0, [197]) ::
  (21, .bipush 61, 2, 0, 0, 0, .inl (nI 61), []) ::
  (23, .if_icmp .eq 12, 3, 35, 0, 0, .inl 0, []) ::
  (26, .aload_n 0, 1, 0, 0, 0, .inl 0, []) ::
  (27, .getfield 50, 3, 5, 7, 0, .inl 0, [197]) ::
  (30, .bipush 62, 2, 0, 0, 0, .inl (nI 62), []) ::
  (32, .if_icmp .ne 7, 3, 39, 0, 0, .inl 0, []) :: s_X6_isComparing_35) ls st μ := by rw [s_X6_isComparing_0]
theorem v_X6_isComparing_0 : vc X P m_X6_isComparing h K k_X6_isComparing S (n + 1) 0 ls st μ = if 0 ∈ S then mAt X m_X6_isComparing h K 0 ls st μ else bb X P m_X6_isComparing h K (vc X P m_X6_isComparing h K k_X6_isComparing S n) s_X6_isComparing_0 ls st μ := by rw [vc_s, t_X6_isComparing_0]
theorem w_X6_isComparing_35 : bb X P m_X6_isComparing h K J s_X6_isComparing_35 ls st μ = bb X P m_X6_isComparing h K J ((35, .iconst 1, 1, 0, 0, 0, .inl (nI 1), []) ::
  (36, .goto 4, 3, 40, 0, 0, .inl 0, []) :: s_X6_isComparing_39) ls st μ := by rw [s_X6_isComparing_35]
theorem v_X6_isComparing_35 : vc X P m_X6_isComparing h K k_X6_isComparing S (n + 1) 35 ls st μ = if 35 ∈ S then mAt X m_X6_isComparing h K 35 ls st μ else bb X P m_X6_isComparing h K (vc X P m_X6_isComparing h K k_X6_isComparing S n) s_X6_isComparing_35 ls st μ := by rw [vc_s, t_X6_isComparing_35]
theorem w_X6_isComparing_39 : bb X P m_X6_isComparing h K J s_X6_isComparing_39 ls st μ = bb X P m_X6_isComparing h K J ((39, .iconst 0, 1, 0, 0, 0, .inl (nI 0), []) :: s_X6_isComparing_40) ls st μ := by rw [s_X6_isComparing_39]
theorem v_X6_isComparing_39 : vc X P m_X6_isComparing h K k_X6_isComparing S (n + 1) 39 ls st μ = if 39 ∈ S then mAt X m_X6_isComparing h K 39 ls st μ else bb X P m_X6_isComparing h K (vc X P m_X6_isComparing h K k_X6_isComparing S n) s_X6_isComparing_39 ls st μ := by rw [vc_s, t_X6_isComparing_39]
theorem w_X6_isComparing_40 : bb X P m_X6_isComparing h K J s_X6_isComparing_40 ls st μ = bb X P m_X6_isComparing h K J ((40, .ireturn, 1, 1, 0, 0, .inl 0, []) :: []) ls st μ := by rw [s_X6_isComparing_40]
theorem v_X6_isComparing_40 : vc X P m_X6_isComparing h K k_X6_isComparing S (n + 1) 40 ls st μ = if 40 ∈ S then mAt X m_X6_isComparing h K 40 ls st μ else bb X P m_X6_isComparing h K (vc X P m_X6_isComparing h K k_X6_isComparing S n) s_X6_isComparing_40 ls st μ := by rw [vc_s, t_X6_isComparing_40]
end
section
variable {X : mC} {P : mP} {h : Nat} {K : MV → Mem → Prop} {J : mJ} {ls : List (Nat × MV)} {st : List MV} {μ : Mem} {S : List Nat} {n : Nat}
theorem w_X6_isName_0 : bb X P m_X6_isName h K J s_X6_isName_0 ls st μ = bb X P m_X6_isName h K J ((0, .aload_n 0, 1, 0, 0, 0, .inl 0, []) ::
  (1, .getfield 56, 3, 5, 5, 0, .inl 0, [194]) ::
  (4, .iconst 2, 1, 0, 0, 0, .inl (nI 2), []) ::
  (5, .if_icmp .ne 15, 3, 20, 0, 0, .inl 0, []) ::
  (8, .aload_n 0, 1, 0, 0, 0, .inl 0, []) ::
  (9, .getfield 53, 3, 5, 8, 0, .inl 0, [202]) ::
  (12, .iconst (-1), 1, 0, 0, 0, .inl (-1), []) ::
  (13, .if_icmp .ne 7, 3, 20, 0, 0, .inl 0, []) ::
  (16, .iconst 1, 1, 0, 0, 0, .inl (nI 1), []) ::
  (17, .goto 4, 3, 21, 0, 0, .inl 0, []) :: s_X6_isName_20) ls st μ := by rw [s_X6_isName_0]
theorem v_X6_isName_0 : vc X P m_X6_isName h K k_X6_isName S (n + 1) 0 ls st μ = if 0 ∈ S then mAt X m_X6_isName h K 0 ls st μ else bb X P m_X6_isName h K (vc X P m_X6_isName h K k_X6_isName S n) s_X6_isName_0 ls st μ := by rw [vc_s, t_X6_isName_0]
theorem w_X6_isName_20 : bb X P m_X6_isName h K J s_X6_isName_20 ls st μ = bb X P m_X6_isName h K J ((20, .iconst 0, 1, 0, 0, 0, .inl (nI 0), []) :: s_X6_isName_21) ls st μ := by rw [s_X6_isName_20]
theorem v_X6_isName_20 : vc X P m_X6_isName h K k_X6_isName S (n + 1) 20 ls st μ = if 20 ∈ S then mAt X m_X6_isName h K 20 ls st μ else bb X P m_X6_isName h K (vc X P m_X6_isName h K k_X6_isName S n) s_X6_isName_20 ls st μ := by rw [vc_s, t_X6_isName_20]
theorem w_X6_isName_21 : bb X P m_X6_isName h K J s_X6_isName_21 ls st μ = bb X P m_X6_isName h K J ((21, .ireturn, 1, 1, 0, 0, .inl 0, []) :: []) ls st μ := by rw [s_X6_isName_21]
theorem v_X6_isName_21 : vc X P m_X6_isName h K k_X6_isName S (n + 1) 21 ls st μ = if 21 ∈ S then mAt X m_X6_isName h K 21 ls st μ else bb X P m_X6_isName h K (vc X P m_X6_isName h K k_X6_isName S n) s_X6_isName_21 ls st μ := by rw [vc_s, t_X6_isName_21]
end
section
variable {X : mC} {P : mP} {h : Nat} {K : MV → Mem → Prop} {J : mJ} {ls : List (Nat × MV)} {st : List MV} {μ : Mem} {S : List Nat} {n : Nat}
theorem w_X6_isThisSign_0 : bb X P m_X6_isThisSign h K J s_X6_isThisSign_0 ls st μ = bb X P m_X6_isThisSign h K J ((0, .aload_n 0, 1, 0, 0, 0, .inl 0, []) ::
  (1, .getfield 56, 3, 5, 5, 0, .inl 0, [194]) ::
  (4, .iconst 4, 1, 0, 0, 0, .inl (nI 4), []) ::
  (5, .if_icmp .ne 15, 3, 20, 0, 0, .inl 0, []) ::
  (8, .aload_n 0, 1, 0, 0, 0, .inl 0, []) ::
  (9, .getfield 50, 3, 5, 7, 0, .inl 0, [197]) ::
  (12, .iload_n 1, 1, 1, 0, 0, .inl 0, []) ::
  (13, .if_icmp .ne 7, 3, 20, 0, 0, .inl 0, []) ::
  (16, .iconst 1, 1, 0, 0, 0, .inl (nI 1), []) ::
  (17, .goto 4, 3, 21, 0, 0, .inl 0, []) :: s_X6_isThisSign_20) ls st μ := by rw [s_X6_isThisSign_0]
theorem v_X6_isThisSign_0 : vc X P m_X6_isThisSign h K k_X6_isThisSign S (n + 1) 0 ls st μ = if 0 ∈ S then mAt X m_X6_isThisSign h K 0 ls st μ else bb X P m_X6_isThisSign h K (vc X P m_X6_isThisSign h K k_X6_isThisSign S n) s_X6_isThisSign_0 ls st μ := by rw [vc_s, t_X6_isThisSign_0]
theorem w_X6_isThisSign_20 : bb X P m_X6_isThisSign h K J s_X6_isThisSign_20 ls st μ = bb X P m_X6_isThisSign h K J ((20, .iconst 0, 1, 0, 0, 0, .inl (nI 0), []) :: s_X6_isThisSign_21) ls st μ := by rw [s_X6_isThisSign_20]
theorem v_X6_isThisSign_20 : vc X P m_X6_isThisSign h K k_X6_isThisSign S (n + 1) 20 ls st μ = if 20 ∈ S then mAt X m_X6_isThisSign h K 20 ls st μ else bb X P m_X6_isThisSign h K (vc X P m_X6_isThisSign h K k_X6_isThisSign S n) s_X6_isThisSign_20 ls st μ := by rw [vc_s, t_X6_isThisSign_20]
theorem w_X6_isThisSign_21 : bb X P m_X6_isThisSign h K J s_X6_isThisSign_21 ls st μ = bb X P m_X6_isThisSign h K J ((21, .ireturn, 1, 1, 0, 0, .inl 0, []) :: []) ls st μ := by rw [s_X6_isThisSign_21]
theorem v_X6_isThisSign_21 : vc X P m_X6_isThisSign h K k_X6_isThisSign S (n + 1) 21 ls st μ = if 21 ∈ S then mAt X m_X6_isThisSign h K 21 ls st μ else bb X P m_X6_isThisSign h K (vc X P m_X6_isThisSign h K k_X6_isThisSign S n) s_X6_isThisSign_21 ls st μ := by rw [vc_s, t_X6_isThisSign_21]
end
section
variable {X : mC} {P : mP} {h : Nat} {K : MV → Mem → Prop} {J : mJ} {ls : List (Nat × MV)} {st : List MV} {μ : Mem} {S : List Nat} {n : Nat}
theorem w_X6_openText_0 : bb X P m_X6_openText h K J s_X6_openText_0 ls st μ = bb X P m_X6_openText h K J ((0, .aload_n 0, 1, 0, 0, 0, .inl 0, []) ::
  (1, .iload_n 1, 1, 1, 0, 0, .inl 0, []) ::
  (2, .putfield 32, 3, 5, 3, 0, .inl 0, [190]) ::
  (5, .aload_n 0, 1, 0, 0, 0, .inl 0, []) ::
  (6, .iconst 0, 1, 0, 0, 0, .inl (nI 0), []) ::
  (7, .putfield 35, 3, 5, 4, 0, .inl 0, [191]) ::
  (10, .aload_n 0, 1, 0, 0, 0, .inl 0, []) ::
  (11, .iconst 0, 1, 0, 0, 0, .inl (nI 0), []) ::
  (12, .putfield 38, 3, 5, 9, 0, .inl 0, [204]) ::
  (15, .aload_n 0, 1, 0, 0, 0, .inl 0, []) ::
  (16, .iconst 0, 1, 0, 0, 0, .inl (nI 0), []) ::
  (17, .putfield 41, 3, 5, 10, 0, .inl 0, [207]) ::
  (20, .aload_n 0, 1, 0, 0, 0, .inl 0, []) ::
  (21, .iconst 0, 1, 0, 0, 0, .inl (nI 0), []) ::
  (22, .putfield 44, 3, 5, 11, 0, .inl 0, [209]) ::
  (25, .aload_n 0, 1, 0, 0, 0, .inl 0, []) ::
  (26, .invokevirtual 47, 3, 61, 1, 0, .inl 0, [569, 5]) ::
  (29, .return_, 1, 0, 0, 0, .inl 0, []) :: []) ls st μ := by rw [s_X6_openText_0]
theorem v_X6_openText_0 : vc X P m_X6_openText h K k_X6_openText S (n + 1) 0 ls st μ = if 0 ∈ S then mAt X m_X6_openText h K 0 ls st μ else bb X P m_X6_openText h K (vc X P m_X6_openText h K k_X6_openText S n) s_X6_openText_0 ls st μ := by rw [vc_s, t_X6_openText_0]
end
section
variable {X : mC} {P : mP} {h : Nat} {K : MV → Mem → Prop} {J : mJ} {ls : List (Nat × MV)} {st : List MV} {μ : Mem} {S : List Nat} {n : Nat}
theorem w_X6_putNumber_0 : bb X P m_X6_putNumber h K J s_X6_putNumber_0 ls st μ = bb X P m_X6_putNumber h K J ((0, .bipush 24, 2, 0, 0, 0, .inl (nI 24), []) ::
  (2, .istore_n 2, 1, 2, 0, 0, .inl 0, []) :: s_X6_putNumber_3) ls st μ := by rw [s_X6_putNumber_0]
theorem v_X6_putNumber_0 : vc X P m_X6_putNumber h K k_X6_putNumber S (n + 1) 0 ls st μ = if 0 ∈ S then mAt X m_X6_putNumber h K 0 ls st μ else bb X P m_X6_putNumber h K (vc X P m_X6_putNumber h K k_X6_putNumber S n) s_X6_putNumber_0 ls st μ := by rw [vc_s, t_X6_putNumber_0]
theorem w_X6_putNumber_3 : bb X P m_X6_putNumber h K J s_X6_putNumber_3 ls st μ = bb X P m_X6_putNumber h K J ((3, .iload_n 2, 1, 2, 0, 0, .inl 0, []) ::
  (4, .ifCond .lt 45, 3, 49, 0, 0, .inl 0, []) ::
  (7, .aload_n 0, 1, 0, 0, 0, .inl 0, []) ::
  (8, .getfield 28, 3, 5, 2, 0, .inl 0, [188]) ::
  (11, .sipush 940, 3, 0, 0, 0, .inl (nI 940), []) ::
  (14, .if_icmp .ge 35, 3, 49, 0, 0, .inl 0, []) ::
  (17, .aload_n 0, 1, 0, 0, 0, .inl 0, []) ::
  (18, .getfield 11, 3, 5, 0, 3, .inr (.inr (16, 940, 1)), [185]) ::
  (21, .aload_n 0, 1, 0, 0, 0, .inl 0, []) ::
  (22, .getfield 28, 3, 5, 2, 0, .inl 0, [188]) ::
  (25, .iload_n 1, 1, 1, 0, 0, .inl 0, []) ::
  (26, .iload_n 2, 1, 2, 0, 0, .inl 0, []) ::
  (27, .ishr, 1, 0, 0, 0, .inl 0, []) ::
  (28, .sipush 255, 3, 0, 0, 0, .inl (nI 255), []) ::
  (31, .iand, 1, 0, 0, 0, .inl 0, []) ::
  (32, .iastore, 1, 0, 0, 0, .inl 0, []) ::
  (33, .aload_n 0, 1, 0, 0, 0, .inl 0, []) ::
  (34, .dup, 1, 0, 0, 0, .inl 0, []) ::
  (35, .getfield 28, 3, 5, 2, 0, .inl 0, [188]) ::
  (38, .iconst 1, 1, 0, 0, 0, .inl (nI 1), []) ::
  (39, .iadd, 1, 0, 0, 0, .inl 0, []) ::
  (40, .putfield 28, 3, 5, 2, 0, .inl 0, [188]) ::
  (43, .iinc 2 (-8), 3, 2, 0, 0, .inl (-8), []) ::
  (46, .goto (-43), 3, 3, 0, 0, .inl 0, []) :: s_X6_putNumber_49) ls st μ := by rw [s_X6_putNumber_3]
theorem v_X6_putNumber_3 : vc X P m_X6_putNumber h K k_X6_putNumber S (n + 1) 3 ls st μ = if 3 ∈ S then mAt X m_X6_putNumber h K 3 ls st μ else bb X P m_X6_putNumber h K (vc X P m_X6_putNumber h K k_X6_putNumber S n) s_X6_putNumber_3 ls st μ := by rw [vc_s, t_X6_putNumber_3]
theorem w_X6_putNumber_49 : bb X P m_X6_putNumber h K J s_X6_putNumber_49 ls st μ = bb X P m_X6_putNumber h K J ((49, .return_, 1, 0, 0, 0, .inl 0, []) :: []) ls st μ := by rw [s_X6_putNumber_49]
theorem v_X6_putNumber_49 : vc X P m_X6_putNumber h K k_X6_putNumber S (n + 1) 49 ls st μ = if 49 ∈ S then mAt X m_X6_putNumber h K 49 ls st μ else bb X P m_X6_putNumber h K (vc X P m_X6_putNumber h K k_X6_putNumber S n) s_X6_putNumber_49 ls st μ := by rw [vc_s, t_X6_putNumber_49]
end
section
variable {X : mC} {P : mP} {h : Nat} {K : MV → Mem → Prop} {J : mJ} {ls : List (Nat × MV)} {st : List MV} {μ : Mem} {S : List Nat} {n : Nat}
theorem w_X6_readToken_0 : bb X P m_X6_readToken h K J s_X6_readToken_0 ls st μ = bb X P m_X6_readToken h K J ((0, .iconst 0, 1, 0, 0, 0, .inl (nI 0), []) ::
  (1, .istore_n 1, 1, 1, 0, 0, .inl 0, []) ::
  (2, .iconst 0, 1, 0, 0, 0, .inl (nI 0), []) ::
  (3, .istore_n 2, 1, 2, 0, 0, .inl 0, []) ::
  (4, .iconst 0, 1, 0, 0, 0, .inl (nI 0), []) ::
  (5, .istore_n 3, 1, 3, 0, 0, .inl 0, []) ::
  (6, .iconst 0, 1, 0, 0, 0, .inl (nI 0), []) ::
  (7, .istore 4, 2, 4, 0, 0, .inl 0, []) ::
  (9, .aload_n 0, 1, 0, 0, 0, .inl 0, []) ::
  (10, .getfield 59, 3, 5, 6, 0, .inl 0, [196]) ::
  (13, .istore 5, 2, 5, 0, 0, .inl 0, []) :: s_X6_readToken_15) ls st μ := by rw [s_X6_readToken_0]
theorem v_X6_readToken_0 : vc X P m_X6_readToken h K k_X6_readToken S (n + 1) 0 ls st μ = if 0 ∈ S then mAt X m_X6_readToken h K 0 ls st μ else bb X P m_X6_readToken h K (vc X P m_X6_readToken h K k_X6_readToken S n) s_X6_readToken_0 ls st μ := by rw [vc_s, t_X6_readToken_0]
theorem w_X6_readToken_15 : bb X P m_X6_readToken h K J s_X6_readToken_15 ls st μ = bb X P m_X6_readToken h K J ((15, .iload 5, 2, 5, 0, 0, .inl 0, []) ::
  (17, .aload_n 0, 1, 0, 0, 0, .inl 0, []) ::
  (18, .getfield 28, 3, 5, 2, 0, .inl 0, [188]) ::
  (21, .if_icmp .ge 111, 3, 132, 0, 0, .inl 0, []) ::
  (24, .aload_n 0, 1, 0, 0, 0, .inl 0, []) ::
  (25, .getfield 11, 3, 5, 0, 3, .inr (.inr (16, 940, 1)), [185]) ::
  (28, .iload 5, 2, 5, 0, 0, .inl 0, []) ::
  (30, .iaload, 1, 0, 0, 0, .inl 0, []) ::
  (31, .bipush 97, 2, 0, 0, 0, .inl (nI 97), []) ::
  (33, .if_icmp .lt 15, 3, 48, 0, 0, .inl 0, []) ::
  (36, .aload_n 0, 1, 0, 0, 0, .inl 0, []) ::
  (37, .getfield 11, 3, 5, 0, 3, .inr (.inr (16, 940, 1)), [185]) ::
  (40, .iload 5, 2, 5, 0, 0, .inl 0, []) ::
  (42, .iaload, 1, 0, 0, 0, .inl 0, []) ::
  (43, .bipush 122, 2, 0, 0, 0, .inl (nI 122), []) ::
  (45, .if_icmp .le 27, 3, 72, 0, 0, .inl 0, []) :: s_X6_readToken_48) ls st μ := by rw [s_X6_readToken_15]
theorem v_X6_readToken_15 : vc X P m_X6_readToken h K k_X6_readToken S (n + 1) 15 ls st μ = if 15 ∈ S then mAt X m_X6_readToken h K 15 ls st μ else bb X P m_X6_readToken h K (vc X P m_X6_readToken h K k_X6_readToken S n) s_X6_readToken_15 ls st μ := by rw [vc_s, t_X6_readToken_15]
theorem w_X6_readToken_48 : bb X P m_X6_readToken h K J s_X6_readToken_48 ls st μ = bb X P m_X6_readToken h K J ((48, .aload_n 0, 1, 0, 0, 0, .inl 0, []) ::
  (49, .getfield 11, 3, 5, 0, 3, .inr (.inr (16, 940, 1)), [185]) ::
  (52, .iload 5, 2, 5, 0, 0, .inl 0, []) ::
  (54, .iaload, 1, 0, 0, 0, .inl 0, []) ::
  (55, .bipush 48, 2, 0, 0, 0, .inl (nI 48), []) ::
  (57, .if_icmp .lt 75, 3, 132, 0, 0, .inl 0, []) ::
  (60, .aload_n 0, 1, 0, 0, 0, .inl 0, []) ::
  (61, .getfield 11, 3, 5, 0, 3, .inr (.inr (16, 940, 1)), [185]) ::
  (64, .iload 5, 2, 5, 0, 0, .inl 0, []) ::
  (66, .iaload, 1, 0, 0, 0, .inl 0, []) ::
  (67, .bipush 57, 2, 0, 0, 0, .inl (nI 57), []) ::
  (69, .if_icmp .gt 63, 3, 132, 0, 0, .inl 0, []) :: s_X6_readToken_72) ls st μ := by rw [s_X6_readToken_48]
theorem v_X6_readToken_48 : vc X P m_X6_readToken h K k_X6_readToken S (n + 1) 48 ls st μ = if 48 ∈ S then mAt X m_X6_readToken h K 48 ls st μ else bb X P m_X6_readToken h K (vc X P m_X6_readToken h K k_X6_readToken S n) s_X6_readToken_48 ls st μ := by rw [vc_s, t_X6_readToken_48]
theorem w_X6_readToken_72 : bb X P m_X6_readToken h K J s_X6_readToken_72 ls st μ = bb X P m_X6_readToken h K J ((72, .aload_n 0, 1, 0, 0, 0, .inl 0, []) ::
  (73, .getfield 11, 3, 5, 0, 3, .inr (.inr (16, 940, 1)), [185]) ::
  (76, .iload 5, 2, 5, 0, 0, .inl 0, []) ::
  (78, .iaload, 1, 0, 0, 0, .inl 0, []) ::
  (79, .bipush 97, 2, 0, 0, 0, .inl (nI 97), []) ::
  (81, .if_icmp .lt 24, 3, 105, 0, 0, .inl 0, []) ::
  (84, .iload_n 3, 1, 3, 0, 0, .inl 0, []) ::
  (85, .iconst 5, 1, 0, 0, 0, .inl (nI 5), []) ::
  (86, .ishl, 1, 0, 0, 0, .inl 0, []) ::
  (87, .aload_n 0, 1, 0, 0, 0, .inl 0, []) ::
  (88, .getfield 11, 3, 5, 0, 3, .inr (.inr (16, 940, 1)), [185]) ::
  (91, .iload 5, 2, 5, 0, 0, .inl 0, []) ::
  (93, .iaload, 1, 0, 0, 0, .inl 0, []) ::
  (94, .bipush 96, 2, 0, 0, 0, .inl (nI 96), []) ::
  (96, .isub, 1, 0, 0, 0, .inl 0, []) ::
  (97, .ior, 1, 0, 0, 0, .inl 0, []) ::
  (98, .istore_n 3, 1, 3, 0, 0, .inl 0, []) ::
  (99, .iinc 1 1, 3, 1, 0, 0, .inl (nI 1), []) ::
  (102, .goto 24, 3, 126, 0, 0, .inl 0, []) :: s_X6_readToken_105) ls st μ := by rw [s_X6_readToken_72]
theorem v_X6_readToken_72 : vc X P m_X6_readToken h K k_X6_readToken S (n + 1) 72 ls st μ = if 72 ∈ S then mAt X m_X6_readToken h K 72 ls st μ else bb X P m_X6_readToken h K (vc X P m_X6_readToken h K k_X6_readToken S n) s_X6_readToken_72 ls st μ := by rw [vc_s, t_X6_readToken_72]
theorem w_X6_readToken_105 : bb X P m_X6_readToken h K J s_X6_readToken_105 ls st μ = bb X P m_X6_readToken h K J ((105, .iload 4, 2, 4, 0, 0, .inl 0, []) ::
  (107, .bipush 10, 2, 0, 0, 0, .inl (nI 10), []) ::
  (109, .imul, 1, 0, 0, 0, .inl 0, []) ::
  (110, .aload_n 0, 1, 0, 0, 0, .inl 0, []) ::
  (111, .getfield 11, 3, 5, 0, 3, .inr (.inr (16, 940, 1)), [185]) ::
  (114, .iload 5, 2, 5, 0, 0, .inl 0, []) ::
  (116, .iaload, 1, 0, 0, 0, .inl 0, []) ::
  (117, .iadd, 1, 0, 0, 0, .inl 0, []) ::
  (118, .bipush 48, 2, 0, 0, 0, .inl (nI 48), []) ::
  (120, .isub, 1, 0, 0, 0, .inl 0, []) ::
  (121, .istore 4, 2, 4, 0, 0, .inl 0, []) ::
  (123, .iinc 2 1, 3, 2, 0, 0, .inl (nI 1), []) :: s_X6_readToken_126) ls st μ := by rw [s_X6_readToken_105]
theorem v_X6_readToken_105 : vc X P m_X6_readToken h K k_X6_readToken S (n + 1) 105 ls st μ = if 105 ∈ S then mAt X m_X6_readToken h K 105 ls st μ else bb X P m_X6_readToken h K (vc X P m_X6_readToken h K k_X6_readToken S n) s_X6_readToken_105 ls st μ := by rw [vc_s, t_X6_readToken_105]
theorem w_X6_readToken_126 : bb X P m_X6_readToken h K J s_X6_readToken_126 ls st μ = bb X P m_X6_readToken h K J ((126, .iinc 5 1, 3, 5, 0, 0, .inl (nI 1), []) ::
  (129, .goto (-114), 3, 15, 0, 0, .inl 0, []) :: s_X6_readToken_132) ls st μ := by rw [s_X6_readToken_126]
theorem v_X6_readToken_126 : vc X P m_X6_readToken h K k_X6_readToken S (n + 1) 126 ls st μ = if 126 ∈ S then mAt X m_X6_readToken h K 126 ls st μ else bb X P m_X6_readToken h K (vc X P m_X6_readToken h K k_X6_readToken S n) s_X6_readToken_126 ls st μ := by rw [vc_s, t_X6_readToken_126]
theorem w_X6_readToken_132 : bb X P m_X6_readToken h K J s_X6_readToken_132 ls st μ = bb X P m_X6_readToken h K J ((132, .aload_n 0, 1, 0, 0, 0, .inl 0, []) ::
  (133, .iconst 1, 1, 0, 0, 0, .inl (nI 1), []) ::
  (134, .putfield 56, 3, 5, 5, 0, .inl 0, [194]) ::
  (137, .aload_n 0, 1, 0, 0, 0, .inl 0, []) ::
  (138, .iload 5, 2, 5, 0, 0, .inl 0, []) ::
  (140, .putfield 35, 3, 5, 4, 0, .inl 0, [191]) ::
  (143, .iload_n 1, 1, 1, 0, 0, .inl 0, []) ::
  (144, .iload_n 2, 1, 2, 0, 0, .inl 0, []) ::
  (145, .iadd, 1, 0, 0, 0, .inl 0, []) ::
  (146, .ifCond .ne 34, 3, 180, 0, 0, .inl 0, []) ::
  (149, .aload_n 0, 1, 0, 0, 0, .inl 0, []) ::
  (150, .iconst 4, 1, 0, 0, 0, .inl (nI 4), []) ::
  (151, .putfield 56, 3, 5, 5, 0, .inl 0, [194]) ::
  (154, .aload_n 0, 1, 0, 0, 0, .inl 0, []) ::
  (155, .aload_n 0, 1, 0, 0, 0, .inl 0, []) ::
  (156, .getfield 11, 3, 5, 0, 3, .inr (.inr (16, 940, 1)), [185]) ::
  (159, .aload_n 0, 1, 0, 0, 0, .inl 0, []) ::
  (160, .getfield 59, 3, 5, 6, 0, .inl 0, [196]) ::
  (163, .iaload, 1, 0, 0, 0, .inl 0, []) ::
  (164, .putfield 50, 3, 5, 7, 0, .inl 0, [197]) ::
  (167, .aload_n 0, 1, 0, 0, 0, .inl 0, []) ::
  (168, .aload_n 0, 1, 0, 0, 0, .inl 0, []) ::
  (169, .getfield 59, 3, 5, 6, 0, .inl 0, [196]) ::
  (172, .iconst 1, 1, 0, 0, 0, .inl (nI 1), []) ::
  (173, .iadd, 1, 0, 0, 0, .inl 0, []) ::
  (174, .putfield 35, 3, 5, 4, 0, .inl 0, [191]) ::
  (177, .goto 46, 3, 223, 0, 0, .inl 0, []) :: s_X6_readToken_180) ls st μ := by rw [s_X6_readToken_132]
theorem v_X6_readToken_132 : vc X P m_X6_readToken h K k_X6_readToken S (n + 1) 132 ls st μ = if 132 ∈ S then mAt X m_X6_readToken h K 132 ls st μ else bb X P m_X6_readToken h K (vc X P m_X6_readToken h K k_X6_readToken S n) s_X6_readToken_132 ls st μ := by rw [vc_s, t_X6_readToken_132]
theorem w_X6_readToken_180 : bb X P m_X6_readToken h K J s_X6_readToken_180 ls st μ = bb X P m_X6_readToken h K J ((180, .iload_n 2, 1, 2, 0, 0, .inl 0, []) ::
  (181, .ifCond .ne 22, 3, 203, 0, 0, .inl 0, []) ::
  (184, .iload_n 1, 1, 1, 0, 0, .inl 0, []) ::
  (185, .bipush 6, 2, 0, 0, 0, .inl (nI 6), []) ::
  (187, .if_icmp .gt 16, 3, 203, 0, 0, .inl 0, []) ::
  (190, .aload_n 0, 1, 0, 0, 0, .inl 0, []) ::
  (191, .iconst 2, 1, 0, 0, 0, .inl (nI 2), []) ::
  (192, .putfield 56, 3, 5, 5, 0, .inl 0, [194]) ::
  (195, .aload_n 0, 1, 0, 0, 0, .inl 0, []) ::
  (196, .iload_n 3, 1, 3, 0, 0, .inl 0, []) ::
  (197, .putfield 50, 3, 5, 7, 0, .inl 0, [197]) ::
  (200, .goto 23, 3, 223, 0, 0, .inl 0, []) :: s_X6_readToken_203) ls st μ := by rw [s_X6_readToken_180]
theorem v_X6_readToken_180 : vc X P m_X6_readToken h K k_X6_readToken S (n + 1) 180 ls st μ = if 180 ∈ S then mAt X m_X6_readToken h K 180 ls st μ else bb X P m_X6_readToken h K (vc X P m_X6_readToken h K k_X6_readToken S n) s_X6_readToken_180 ls st μ := by rw [vc_s, t_X6_readToken_180]
theorem w_X6_readToken_203 : bb X P m_X6_readToken h K J s_X6_readToken_203 ls st μ = bb X P m_X6_readToken h K J ((203, .iload_n 1, 1, 1, 0, 0, .inl 0, []) ::
  (204, .ifCond .ne 19, 3, 223, 0, 0, .inl 0, []) ::
  (207, .iload_n 2, 1, 2, 0, 0, .inl 0, []) ::
  (208, .iconst 3, 1, 0, 0, 0, .inl (nI 3), []) ::
  (209, .if_icmp .gt 14, 3, 223, 0, 0, .inl 0, []) ::
  (212, .aload_n 0, 1, 0, 0, 0, .inl 0, []) ::
  (213, .iconst 3, 1, 0, 0, 0, .inl (nI 3), []) ::
  (214, .putfield 56, 3, 5, 5, 0, .inl 0, [194]) ::
  (217, .aload_n 0, 1, 0, 0, 0, .inl 0, []) ::
  (218, .iload 4, 2, 4, 0, 0, .inl 0, []) ::
  (220, .putfield 50, 3, 5, 7, 0, .inl 0, [197]) :: s_X6_readToken_223) ls st μ := by rw [s_X6_readToken_203]
theorem v_X6_readToken_203 : vc X P m_X6_readToken h K k_X6_readToken S (n + 1) 203 ls st μ = if 203 ∈ S then mAt X m_X6_readToken h K 203 ls st μ else bb X P m_X6_readToken h K (vc X P m_X6_readToken h K k_X6_readToken S n) s_X6_readToken_203 ls st μ := by rw [vc_s, t_X6_readToken_203]
theorem w_X6_readToken_223 : bb X P m_X6_readToken h K J s_X6_readToken_223 ls st μ = bb X P m_X6_readToken h K J ((223, .iconst 0, 1, 0, 0, 0, .inl (nI 0), []) ::
  (224, .istore 6, 2, 6, 0, 0, .inl 0, []) :: s_X6_readToken_226) ls st μ := by rw [s_X6_readToken_223]
theorem v_X6_readToken_223 : vc X P m_X6_readToken h K k_X6_readToken S (n + 1) 223 ls st μ = if 223 ∈ S then mAt X m_X6_readToken h K 223 ls st μ else bb X P m_X6_readToken h K (vc X P m_X6_readToken h K k_X6_readToken S n) s_X6_readToken_223 ls st μ := by rw [vc_s, t_X6_readToken_223]
theorem w_X6_readToken_226 : bb X P m_X6_readToken h K J s_X6_readToken_226 ls st μ = bb X P m_X6_readToken h K J ((226, .iload 6, 2, 6, 0, 0, .inl 0, []) ::
  (228, .bipush 19, 2, 0, 0, 0, .inl (nI 19), []) ::
  (230, .if_icmp .ge 34, 3, 264, 0, 0, .inl 0, []) ::
  (233, .aload_n 0, 1, 0, 0, 0, .inl 0, []) ::
  (234, .getfield 56, 3, 5, 5, 0, .inl 0, [194]) ::
  (237, .iconst 2, 1, 0, 0, 0, .inl (nI 2), []) ::
  (238, .if_icmp .ne 26, 3, 264, 0, 0, .inl 0, []) ::
  (241, .aload_n 0, 1, 0, 0, 0, .inl 0, []) ::
  (242, .getfield 17, 3, 5, 1, 3, .inr (.inr (16, 19, 2)), [187]) ::
  (245, .iload 6, 2, 6, 0, 0, .inl 0, []) ::
  (247, .iaload, 1, 0, 0, 0, .inl 0, []) ::
  (248, .iload_n 3, 1, 3, 0, 0, .inl 0, []) ::
  (249, .if_icmp .ne 9, 3, 258, 0, 0, .inl 0, []) ::
  (252, .aload_n 0, 1, 0, 0, 0, .inl 0, []) ::
  (253, .iload 6, 2, 6, 0, 0, .inl 0, []) ::
  (255, .putfield 53, 3, 5, 8, 0, .inl 0, [202]) :: s_X6_readToken_258) ls st μ := by rw [s_X6_readToken_226]
theorem v_X6_readToken_226 : vc X P m_X6_readToken h K k_X6_readToken S (n + 1) 226 ls st μ = if 226 ∈ S then mAt X m_X6_readToken h K 226 ls st μ else bb X P m_X6_readToken h K (vc X P m_X6_readToken h K k_X6_readToken S n) s_X6_readToken_226 ls st μ := by rw [vc_s, t_X6_readToken_226]
theorem w_X6_readToken_258 : bb X P m_X6_readToken h K J s_X6_readToken_258 ls st μ = bb X P m_X6_readToken h K J ((258, .iinc 6 1, 3, 6, 0, 0, .inl (nI 1), []) ::
  (261, .goto (-35), 3, 226, 0, 0, .inl 0, []) :: s_X6_readToken_264) ls st μ := by rw [s_X6_readToken_258]
theorem v_X6_readToken_258 : vc X P m_X6_readToken h K k_X6_readToken S (n + 1) 258 ls st μ = if 258 ∈ S then mAt X m_X6_readToken h K 258 ls st μ else bb X P m_X6_readToken h K (vc X P m_X6_readToken h K k_X6_readToken S n) s_X6_readToken_258 ls st μ := by rw [vc_s, t_X6_readToken_258]
theorem w_X6_readToken_264 : bb X P m_X6_readToken h K J s_X6_readToken_264 ls st μ = bb X P m_X6_readToken h K J ((264, .return_, 1, 0, 0, 0, .inl 0, []) :: []) ls st μ := by rw [s_X6_readToken_264]
theorem v_X6_readToken_264 : vc X P m_X6_readToken h K k_X6_readToken S (n + 1) 264 ls st μ = if 264 ∈ S then mAt X m_X6_readToken h K 264 ls st μ else bb X P m_X6_readToken h K (vc X P m_X6_readToken h K k_X6_readToken S n) s_X6_readToken_264 ls st μ := by rw [vc_s, t_X6_readToken_264]
end
section
variable {X : mC} {P : mP} {h : Nat} {K : MV → Mem → Prop} {J : mJ} {ls : List (Nat × MV)} {st : List MV} {μ : Mem} {S : List Nat} {n : Nat}
theorem w_X6_takeNumber_0 : bb X P m_X6_takeNumber h K J s_X6_takeNumber_0 ls st μ = bb X P m_X6_takeNumber h K J ((0, .aload_n 0, 1, 0, 0, 0, .inl 0, []) ::
  (1, .getfield 56, 3, 5, 5, 0, .inl 0, [194]) ::
  (4, .iconst 3, 1, 0, 0, 0, .inl (nI 3), []) ::
  (5, .if_icmp .eq 9, 3, 14, 0, 0, .inl 0, []) ::
  (8, .aload_n 0, 1, 0, 0, 0, .inl 0, []) ::
  (9, .iconst 1, 1, 0, 0, 0, .inl (nI 1), []) ::
  (10, .invokevirtual 69, 3, 62, 2, 1, .inl 0, [610, 5]) ::
  (13, .ireturn, 1, 1, 0, 0, .inl 0, []) :: s_X6_takeNumber_14) ls st μ := by rw [s_X6_takeNumber_0]
theorem v_X6_takeNumber_0 : vc X P m_X6_takeNumber h K k_X6_takeNumber S (n + 1) 0 ls st μ = if 0 ∈ S then mAt X m_X6_takeNumber h K 0 ls st μ else bb X P m_X6_takeNumber h K (vc X P m_X6_takeNumber h K k_X6_takeNumber S n) s_X6_takeNumber_0 ls st μ := by rw [vc_s, t_X6_takeNumber_0]
theorem w_X6_takeNumber_14 : bb X P m_X6_takeNumber h K J s_X6_takeNumber_14 ls st μ = bb X P m_X6_takeNumber h K J ((14, .aload_n 0, 1, 0, 0, 0, .inl 0, []) ::
  (15, .getfield 50, 3, 5, 7, 0, .inl 0, [197]) ::
  (18, .iload_n 1, 1, 1, 0, 0, .inl 0, []) ::
  (19, .if_icmp .lt 11, 3, 30, 0, 0, .inl 0, []) ::
  (22, .aload_n 0, 1, 0, 0, 0, .inl 0, []) ::
  (23, .getfield 50, 3, 5, 7, 0, .inl 0, [197]) ::
  (26, .iload_n 2, 1, 2, 0, 0, .inl 0, []) ::
  (27, .if_icmp .le 9, 3, 36, 0, 0, .inl 0, []) :: s_X6_takeNumber_30) ls st μ := by rw [s_X6_takeNumber_14]
theorem v_X6_takeNumber_14 : vc X P m_X6_takeNumber h K k_X6_takeNumber S (n + 1) 14 ls st μ = if 14 ∈ S then mAt X m_X6_takeNumber h K 14 ls st μ else bb X P m_X6_takeNumber h K (vc X P m_X6_takeNumber h K k_X6_takeNumber S n) s_X6_takeNumber_14 ls st μ := by rw [vc_s, t_X6_takeNumber_14]
theorem w_X6_takeNumber_30 : bb X P m_X6_takeNumber h K J s_X6_takeNumber_30 ls st μ = bb X P m_X6_takeNumber h K J ((30, .aload_n 0, 1, 0, 0, 0, .inl 0, []) ::
  (31, .iconst 2, 1, 0, 0, 0, .inl (nI 2), []) ::
  (32, .invokevirtual 69, 3, 62, 2, 1, .inl 0, [610, 5]) ::
  (35, .ireturn, 1, 1, 0, 0, .inl 0, []) :: s_X6_takeNumber_36) ls st μ := by rw [s_X6_takeNumber_30]
theorem v_X6_takeNumber_30 : vc X P m_X6_takeNumber h K k_X6_takeNumber S (n + 1) 30 ls st μ = if 30 ∈ S then mAt X m_X6_takeNumber h K 30 ls st μ else bb X P m_X6_takeNumber h K (vc X P m_X6_takeNumber h K k_X6_takeNumber S n) s_X6_takeNumber_30 ls st μ := by rw [vc_s, t_X6_takeNumber_30]
theorem w_X6_takeNumber_36 : bb X P m_X6_takeNumber h K J s_X6_takeNumber_36 ls st μ = bb X P m_X6_takeNumber h K J ((36, .aload_n 0, 1, 0, 0, 0, .inl 0, []) ::
  (37, .aload_n 0, 1, 0, 0, 0, .inl 0, []) ::
  (38, .getfield 50, 3, 5, 7, 0, .inl 0, [197]) ::
  (41, .putfield 38, 3, 5, 9, 0, .inl 0, [204]) ::
  (44, .aload_n 0, 1, 0, 0, 0, .inl 0, []) ::
  (45, .invokevirtual 47, 3, 61, 1, 0, .inl 0, [569, 5]) ::
  (48, .iconst 1, 1, 0, 0, 0, .inl (nI 1), []) ::
  (49, .ireturn, 1, 1, 0, 0, .inl 0, []) :: []) ls st μ := by rw [s_X6_takeNumber_36]
theorem v_X6_takeNumber_36 : vc X P m_X6_takeNumber h K k_X6_takeNumber S (n + 1) 36 ls st μ = if 36 ∈ S then mAt X m_X6_takeNumber h K 36 ls st μ else bb X P m_X6_takeNumber h K (vc X P m_X6_takeNumber h K k_X6_takeNumber S n) s_X6_takeNumber_36 ls st μ := by rw [vc_s, t_X6_takeNumber_36]
end
section
variable {X : mC} {P : mP} {h : Nat} {K : MV → Mem → Prop} {J : mJ} {ls : List (Nat × MV)} {st : List MV} {μ : Mem} {S : List Nat} {n : Nat}
theorem w_X6_takeSign_0 : bb X P m_X6_takeSign h K J s_X6_takeSign_0 ls st μ = bb X P m_X6_takeSign h K J ((0, .aload_n 0, 1, 0, 0, 0, .inl 0, []) ::
  (1, .iload_n 1, 1, 1, 0, 0, .inl 0, []) ::
  (2, .invokevirtual 65, 3, 66, 2, 1, .inl 0, [651, 5]) ::
  (5, .ifCond .ne 9, 3, 14, 0, 0, .inl 0, []) ::
  (8, .aload_n 0, 1, 0, 0, 0, .inl 0, []) ::
  (9, .iconst 1, 1, 0, 0, 0, .inl (nI 1), []) ::
  (10, .invokevirtual 69, 3, 62, 2, 1, .inl 0, [610, 5]) ::
  (13, .ireturn, 1, 1, 0, 0, .inl 0, []) :: s_X6_takeSign_14) ls st μ := by rw [s_X6_takeSign_0]
theorem v_X6_takeSign_0 : vc X P m_X6_takeSign h K k_X6_takeSign S (n + 1) 0 ls st μ = if 0 ∈ S then mAt X m_X6_takeSign h K 0 ls st μ else bb X P m_X6_takeSign h K (vc X P m_X6_takeSign h K k_X6_takeSign S n) s_X6_takeSign_0 ls st μ := by rw [vc_s, t_X6_takeSign_0]
theorem w_X6_takeSign_14 : bb X P m_X6_takeSign h K J s_X6_takeSign_14 ls st μ = bb X P m_X6_takeSign h K J ((14, .aload_n 0, 1, 0, 0, 0, .inl 0, []) ::
  (15, .invokevirtual 47, 3, 61, 1, 0, .inl 0, [569, 5]) ::
  (18, .iconst 1, 1, 0, 0, 0, .inl (nI 1), []) ::
  (19, .ireturn, 1, 1, 0, 0, .inl 0, []) :: []) ls st μ := by rw [s_X6_takeSign_14]
theorem v_X6_takeSign_14 : vc X P m_X6_takeSign h K k_X6_takeSign S (n + 1) 14 ls st μ = if 14 ∈ S then mAt X m_X6_takeSign h K 14 ls st μ else bb X P m_X6_takeSign h K (vc X P m_X6_takeSign h K k_X6_takeSign S n) s_X6_takeSign_14 ls st μ := by rw [vc_s, t_X6_takeSign_14]
end
section
variable {X : mC} {P : mP} {h : Nat} {K : MV → Mem → Prop} {J : mJ} {ls : List (Nat × MV)} {st : List MV} {μ : Mem} {S : List Nat} {n : Nat}
theorem w_X7_putByte_0 : bb X P m_X7_putByte h K J s_X7_putByte_0 ls st μ = bb X P m_X7_putByte h K J ((0, .aload_n 0, 1, 0, 0, 0, .inl 0, []) ::
  (1, .getfield 15, 3, 6, 1, 0, .inl 0, [471]) ::
  (4, .sipush 136, 3, 0, 0, 0, .inl (nI 136), []) ::
  (7, .if_icmp .ge 23, 3, 30, 0, 0, .inl 0, []) ::
  (10, .aload_n 0, 1, 0, 0, 0, .inl 0, []) ::
  (11, .getfield 11, 3, 6, 0, 3, .inr (.inr (16, 136, 1)), [469]) ::
  (14, .aload_n 0, 1, 0, 0, 0, .inl 0, []) ::
  (15, .getfield 15, 3, 6, 1, 0, .inl 0, [471]) ::
  (18, .iload_n 1, 1, 1, 0, 0, .inl 0, []) ::
  (19, .iastore, 1, 0, 0, 0, .inl 0, []) ::
  (20, .aload_n 0, 1, 0, 0, 0, .inl 0, []) ::
  (21, .dup, 1, 0, 0, 0, .inl 0, []) ::
  (22, .getfield 15, 3, 6, 1, 0, .inl 0, [471]) ::
  (25, .iconst 1, 1, 0, 0, 0, .inl (nI 1), []) ::
  (26, .iadd, 1, 0, 0, 0, .inl 0, []) ::
  (27, .putfield 15, 3, 6, 1, 0, .inl 0, [471]) :: s_X7_putByte_30) ls st μ := by rw [s_X7_putByte_0]
theorem v_X7_putByte_0 : vc X P m_X7_putByte h K k_X7_putByte S (n + 1) 0 ls st μ = if 0 ∈ S then mAt X m_X7_putByte h K 0 ls st μ else bb X P m_X7_putByte h K (vc X P m_X7_putByte h K k_X7_putByte S n) s_X7_putByte_0 ls st μ := by rw [vc_s, t_X7_putByte_0]
theorem w_X7_putByte_30 : bb X P m_X7_putByte h K J s_X7_putByte_30 ls st μ = bb X P m_X7_putByte h K J ((30, .return_, 1, 0, 0, 0, .inl 0, []) :: []) ls st μ := by rw [s_X7_putByte_30]
theorem v_X7_putByte_30 : vc X P m_X7_putByte h K k_X7_putByte S (n + 1) 30 ls st μ = if 30 ∈ S then mAt X m_X7_putByte h K 30 ls st μ else bb X P m_X7_putByte h K (vc X P m_X7_putByte h K k_X7_putByte S n) s_X7_putByte_30 ls st μ := by rw [vc_s, t_X7_putByte_30]
end
section
variable {X : mC} {P : mP} {h : Nat} {K : MV → Mem → Prop} {J : mJ} {ls : List (Nat × MV)} {st : List MV} {μ : Mem} {S : List Nat} {n : Nat}
theorem w_X7_putName_0 : bb X P m_X7_putName h K J s_X7_putName_0 ls st μ = bb X P m_X7_putName h K J ((0, .bipush 25, 2, 0, 0, 0, .inl (nI 25), []) ::
  (2, .istore_n 2, 1, 2, 0, 0, .inl 0, []) :: s_X7_putName_3) ls st μ := by rw [s_X7_putName_0]
theorem v_X7_putName_0 : vc X P m_X7_putName h K k_X7_putName S (n + 1) 0 ls st μ = if 0 ∈ S then mAt X m_X7_putName h K 0 ls st μ else bb X P m_X7_putName h K (vc X P m_X7_putName h K k_X7_putName S n) s_X7_putName_0 ls st μ := by rw [vc_s, t_X7_putName_0]
theorem w_X7_putName_3 : bb X P m_X7_putName h K J s_X7_putName_3 ls st μ = bb X P m_X7_putName h K J ((3, .iload_n 2, 1, 2, 0, 0, .inl 0, []) ::
  (4, .ifCond .lt 28, 3, 32, 0, 0, .inl 0, []) ::
  (7, .iload_n 1, 1, 1, 0, 0, .inl 0, []) ::
  (8, .iload_n 2, 1, 2, 0, 0, .inl 0, []) ::
  (9, .ishr, 1, 0, 0, 0, .inl 0, []) ::
  (10, .bipush 31, 2, 0, 0, 0, .inl (nI 31), []) ::
  (12, .iand, 1, 0, 0, 0, .inl 0, []) ::
  (13, .istore_n 3, 1, 3, 0, 0, .inl 0, []) ::
  (14, .iload_n 3, 1, 3, 0, 0, .inl 0, []) ::
  (15, .ifCond .le 11, 3, 26, 0, 0, .inl 0, []) ::
  (18, .aload_n 0, 1, 0, 0, 0, .inl 0, []) ::
  (19, .iload_n 3, 1, 3, 0, 0, .inl 0, []) ::
  (20, .bipush 96, 2, 0, 0, 0, .inl (nI 96), []) ::
  (22, .iadd, 1, 0, 0, 0, .inl 0, []) ::
  (23, .invokevirtual 23, 3, 72, 2, 0, .inl 0, [1013, 6]) :: s_X7_putName_26) ls st μ := by rw [s_X7_putName_3]
theorem v_X7_putName_3 : vc X P m_X7_putName h K k_X7_putName S (n + 1) 3 ls st μ = if 3 ∈ S then mAt X m_X7_putName h K 3 ls st μ else bb X P m_X7_putName h K (vc X P m_X7_putName h K k_X7_putName S n) s_X7_putName_3 ls st μ := by rw [vc_s, t_X7_putName_3]
theorem w_X7_putName_26 : bb X P m_X7_putName h K J s_X7_putName_26 ls st μ = bb X P m_X7_putName h K J ((26, .iinc 2 (-5), 3, 2, 0, 0, .inl (-5), []) ::
  (29, .goto (-26), 3, 3, 0, 0, .inl 0, []) :: s_X7_putName_32) ls st μ := by rw [s_X7_putName_26]
theorem v_X7_putName_26 : vc X P m_X7_putName h K k_X7_putName S (n + 1) 26 ls st μ = if 26 ∈ S then mAt X m_X7_putName h K 26 ls st μ else bb X P m_X7_putName h K (vc X P m_X7_putName h K k_X7_putName S n) s_X7_putName_26 ls st μ := by rw [vc_s, t_X7_putName_26]
theorem w_X7_putName_32 : bb X P m_X7_putName h K J s_X7_putName_32 ls st μ = bb X P m_X7_putName h K J ((32, .return_, 1, 0, 0, 0, .inl 0, []) :: []) ls st μ := by rw [s_X7_putName_32]
theorem v_X7_putName_32 : vc X P m_X7_putName h K k_X7_putName S (n + 1) 32 ls st μ = if 32 ∈ S then mAt X m_X7_putName h K 32 ls st μ else bb X P m_X7_putName h K (vc X P m_X7_putName h K k_X7_putName S n) s_X7_putName_32 ls st μ := by rw [vc_s, t_X7_putName_32]
end
section
variable {X : mC} {P : mP} {h : Nat} {K : MV → Mem → Prop} {J : mJ} {ls : List (Nat × MV)} {st : List MV} {μ : Mem} {S : List Nat} {n : Nat}
theorem w_X7_putNumber_0 : bb X P m_X7_putNumber h K J s_X7_putNumber_0 ls st μ = bb X P m_X7_putNumber h K J ((0, .sipush 10000, 3, 0, 0, 0, .inl (nI 10000), []) ::
  (3, .istore_n 2, 1, 2, 0, 0, .inl 0, []) :: s_X7_putNumber_4) ls st μ := by rw [s_X7_putNumber_0]
theorem v_X7_putNumber_0 : vc X P m_X7_putNumber h K k_X7_putNumber S (n + 1) 0 ls st μ = if 0 ∈ S then mAt X m_X7_putNumber h K 0 ls st μ else bb X P m_X7_putNumber h K (vc X P m_X7_putNumber h K k_X7_putNumber S n) s_X7_putNumber_0 ls st μ := by rw [vc_s, t_X7_putNumber_0]
theorem w_X7_putNumber_4 : bb X P m_X7_putNumber h K J s_X7_putNumber_4 ls st μ = bb X P m_X7_putNumber h K J ((4, .iload_n 2, 1, 2, 0, 0, .inl 0, []) ::
  (5, .iconst 1, 1, 0, 0, 0, .inl (nI 1), []) ::
  (6, .if_icmp .lt 34, 3, 40, 0, 0, .inl 0, []) ::
  (9, .iload_n 1, 1, 1, 0, 0, .inl 0, []) ::
  (10, .iload_n 2, 1, 2, 0, 0, .inl 0, []) ::
  (11, .if_icmp .ge 8, 3, 19, 0, 0, .inl 0, []) ::
  (14, .iload_n 2, 1, 2, 0, 0, .inl 0, []) ::
  (15, .iconst 1, 1, 0, 0, 0, .inl (nI 1), []) ::
  (16, .if_icmp .ne 16, 3, 32, 0, 0, .inl 0, []) :: s_X7_putNumber_19) ls st μ := by rw [s_X7_putNumber_4]
theorem v_X7_putNumber_4 : vc X P m_X7_putNumber h K k_X7_putNumber S (n + 1) 4 ls st μ = if 4 ∈ S then mAt X m_X7_putNumber h K 4 ls st μ else bb X P m_X7_putNumber h K (vc X P m_X7_putNumber h K k_X7_putNumber S n) s_X7_putNumber_4 ls st μ := by rw [vc_s, t_X7_putNumber_4]
theorem w_X7_putNumber_19 : bb X P m_X7_putNumber h K J s_X7_putNumber_19 ls st μ = bb X P m_X7_putNumber h K J ((19, .aload_n 0, 1, 0, 0, 0, .inl 0, []) ::
  (20, .bipush 48, 2, 0, 0, 0, .inl (nI 48), []) ::
  (22, .iload_n 1, 1, 1, 0, 0, .inl 0, []) ::
  (23, .iload_n 2, 1, 2, 0, 0, .inl 0, []) ::
  (24, .idiv, 1, 0, 0, 0, .inl 0, []) ::
  (25, .bipush 10, 2, 0, 0, 0, .inl (nI 10), []) ::
  (27, .irem, 1, 0, 0, 0, .inl 0, []) ::
  (28, .iadd, 1, 0, 0, 0, .inl 0, []) ::
  (29, .invokevirtual 23, 3, 72, 2, 0, .inl 0, [1013, 6]) :: s_X7_putNumber_32) ls st μ := by rw [s_X7_putNumber_19]
theorem v_X7_putNumber_19 : vc X P m_X7_putNumber h K k_X7_putNumber S (n + 1) 19 ls st μ = if 19 ∈ S then mAt X m_X7_putNumber h K 19 ls st μ else bb X P m_X7_putNumber h K (vc X P m_X7_putNumber h K k_X7_putNumber S n) s_X7_putNumber_19 ls st μ := by rw [vc_s, t_X7_putNumber_19]
theorem w_X7_putNumber_32 : bb X P m_X7_putNumber h K J s_X7_putNumber_32 ls st μ = bb X P m_X7_putNumber h K J ((32, .iload_n 2, 1, 2, 0, 0, .inl 0, []) ::
  (33, .bipush 10, 2, 0, 0, 0, .inl (nI 10), []) ::
  (35, .idiv, 1, 0, 0, 0, .inl 0, []) ::
  (36, .istore_n 2, 1, 2, 0, 0, .inl 0, []) ::
  (37, .goto (-33), 3, 4, 0, 0, .inl 0, []) :: s_X7_putNumber_40) ls st μ := by rw [s_X7_putNumber_32]
theorem v_X7_putNumber_32 : vc X P m_X7_putNumber h K k_X7_putNumber S (n + 1) 32 ls st μ = if 32 ∈ S then mAt X m_X7_putNumber h K 32 ls st μ else bb X P m_X7_putNumber h K (vc X P m_X7_putNumber h K k_X7_putNumber S n) s_X7_putNumber_32 ls st μ := by rw [vc_s, t_X7_putNumber_32]
theorem w_X7_putNumber_40 : bb X P m_X7_putNumber h K J s_X7_putNumber_40 ls st μ = bb X P m_X7_putNumber h K J ((40, .return_, 1, 0, 0, 0, .inl 0, []) :: []) ls st μ := by rw [s_X7_putNumber_40]
theorem v_X7_putNumber_40 : vc X P m_X7_putNumber h K k_X7_putNumber S (n + 1) 40 ls st μ = if 40 ∈ S then mAt X m_X7_putNumber h K 40 ls st μ else bb X P m_X7_putNumber h K (vc X P m_X7_putNumber h K k_X7_putNumber S n) s_X7_putNumber_40 ls st μ := by rw [vc_s, t_X7_putNumber_40]
end
section
variable {X : mC} {P : mP} {h : Nat} {K : MV → Mem → Prop} {J : mJ} {ls : List (Nat × MV)} {st : List MV} {μ : Mem} {S : List Nat} {n : Nat}
theorem w_X8_again_0 : bb X P m_X8_again h K J s_X8_again_0 ls st μ = bb X P m_X8_again h K J ((0, .iload_n 1, 1, 1, 0, 0, .inl 0, []) ::
  (1, .ifCond .eq 10, 3, 11, 0, 0, .inl 0, []) ::
  (4, .iload_n 1, 1, 1, 0, 0, .inl 0, []) ::
  (5, .iconst 1, 1, 0, 0, 0, .inl (nI 1), []) ::
  (6, .if_icmp .eq 5, 3, 11, 0, 0, .inl 0, []) ::
  (9, .iconst (-1), 1, 0, 0, 0, .inl (-1), []) ::
  (10, .ireturn, 1, 0, 0, 0, .inl 0, []) :: s_X8_again_11) ls st μ := by rw [s_X8_again_0]
theorem v_X8_again_0 : vc X P m_X8_again h K k_X8_again S (n + 1) 0 ls st μ = if 0 ∈ S then mAt X m_X8_again h K 0 ls st μ else bb X P m_X8_again h K (vc X P m_X8_again h K k_X8_again S n) s_X8_again_0 ls st μ := by rw [vc_s, t_X8_again_0]
theorem w_X8_again_11 : bb X P m_X8_again h K J s_X8_again_11 ls st μ = bb X P m_X8_again h K J ((11, .aload_n 0, 1, 0, 0, 0, .inl 0, []) ::
  (12, .invokevirtual 258, 3, 119, 1, 1, .inl 0, [858, 7]) ::
  (15, .istore_n 2, 1, 2, 0, 0, .inl 0, []) ::
  (16, .iload_n 2, 1, 2, 0, 0, .inl 0, []) ::
  (17, .ifCond .eq 8, 3, 25, 0, 0, .inl 0, []) ::
  (20, .iload_n 1, 1, 1, 0, 0, .inl 0, []) ::
  (21, .iconst 1, 1, 0, 0, 0, .inl (nI 1), []) ::
  (22, .if_icmp .ne 13, 3, 35, 0, 0, .inl 0, []) :: s_X8_again_25) ls st μ := by rw [s_X8_again_11]
theorem v_X8_again_11 : vc X P m_X8_again h K k_X8_again S (n + 1) 11 ls st μ = if 11 ∈ S then mAt X m_X8_again h K 11 ls st μ else bb X P m_X8_again h K (vc X P m_X8_again h K k_X8_again S n) s_X8_again_11 ls st μ := by rw [vc_s, t_X8_again_11]
theorem w_X8_again_25 : bb X P m_X8_again h K J s_X8_again_25 ls st μ = bb X P m_X8_again h K J ((25, .iload_n 2, 1, 2, 0, 0, .inl 0, []) ::
  (26, .ifCond .ne 7, 3, 33, 0, 0, .inl 0, []) ::
  (29, .iconst (-1), 1, 0, 0, 0, .inl (-1), []) ::
  (30, .goto 4, 3, 34, 0, 0, .inl 0, []) :: s_X8_again_33) ls st μ := by rw [s_X8_again_25]
theorem v_X8_again_25 : vc X P m_X8_again h K k_X8_again S (n + 1) 25 ls st μ = if 25 ∈ S then mAt X m_X8_again h K 25 ls st μ else bb X P m_X8_again h K (vc X P m_X8_again h K k_X8_again S n) s_X8_again_25 ls st μ := by rw [vc_s, t_X8_again_25]
theorem w_X8_again_33 : bb X P m_X8_again h K J s_X8_again_33 ls st μ = bb X P m_X8_again h K J ((33, .iload_n 2, 1, 2, 0, 0, .inl 0, []) :: s_X8_again_34) ls st μ := by rw [s_X8_again_33]
theorem v_X8_again_33 : vc X P m_X8_again h K k_X8_again S (n + 1) 33 ls st μ = if 33 ∈ S then mAt X m_X8_again h K 33 ls st μ else bb X P m_X8_again h K (vc X P m_X8_again h K k_X8_again S n) s_X8_again_33 ls st μ := by rw [vc_s, t_X8_again_33]
theorem w_X8_again_34 : bb X P m_X8_again h K J s_X8_again_34 ls st μ = bb X P m_X8_again h K J ((34, .ireturn, 1, 0, 0, 0, .inl 0, []) :: s_X8_again_35) ls st μ := by rw [s_X8_again_34]
theorem v_X8_again_34 : vc X P m_X8_again h K k_X8_again S (n + 1) 34 ls st μ = if 34 ∈ S then mAt X m_X8_again h K 34 ls st μ else bb X P m_X8_again h K (vc X P m_X8_again h K k_X8_again S n) s_X8_again_34 ls st μ := by rw [vc_s, t_X8_again_34]
theorem w_X8_again_35 : bb X P m_X8_again h K J s_X8_again_35 ls st μ = bb X P m_X8_again h K J ((35, .aload_n 0, 1, 0, 0, 0, .inl 0, []) ::
  (36, .iload_n 2, 1, 2, 0, 0, .inl 0, []) ::
  (37, .invokevirtual 261, 3, 94, 2, 1, .inl 0, [866, 7]) ::
  (40, .ireturn, 1, 0, 0, 0, .inl 0, []) :: []) ls st μ := by rw [s_X8_again_35]
theorem v_X8_again_35 : vc X P m_X8_again h K k_X8_again S (n + 1) 35 ls st μ = if 35 ∈ S then mAt X m_X8_again h K 35 ls st μ else bb X P m_X8_again h K (vc X P m_X8_again h K k_X8_again S n) s_X8_again_35 ls st μ := by rw [vc_s, t_X8_again_35]
end
section
variable {X : mC} {P : mP} {h : Nat} {K : MV → Mem → Prop} {J : mJ} {ls : List (Nat × MV)} {st : List MV} {μ : Mem} {S : List Nat} {n : Nat}
theorem w_X8_areHours_0 : bb X P m_X8_areHours h K J s_X8_areHours_0 ls st μ = bb X P m_X8_areHours h K J ((0, .iload_n 0, 1, 0, 0, 0, .inl 0, []) ::
  (1, .iconst 1, 1, 0, 0, 0, .inl (nI 1), []) ::
  (2, .if_icmp .lt 14, 3, 16, 0, 0, .inl 0, []) ::
  (5, .iload_n 0, 1, 0, 0, 0, .inl 0, []) ::
  (6, .sipush 200, 3, 0, 0, 0, .inl (nI 200), []) ::
  (9, .if_icmp .gt 7, 3, 16, 0, 0, .inl 0, []) ::
  (12, .iconst 1, 1, 0, 0, 0, .inl (nI 1), []) ::
  (13, .goto 4, 3, 17, 0, 0, .inl 0, []) :: s_X8_areHours_16) ls st μ := by rw [s_X8_areHours_0]
theorem v_X8_areHours_0 : vc X P m_X8_areHours h K k_X8_areHours S (n + 1) 0 ls st μ = if 0 ∈ S then mAt X m_X8_areHours h K 0 ls st μ else bb X P m_X8_areHours h K (vc X P m_X8_areHours h K k_X8_areHours S n) s_X8_areHours_0 ls st μ := by rw [vc_s, t_X8_areHours_0]
theorem w_X8_areHours_16 : bb X P m_X8_areHours h K J s_X8_areHours_16 ls st μ = bb X P m_X8_areHours h K J ((16, .iconst 0, 1, 0, 0, 0, .inl (nI 0), []) :: s_X8_areHours_17) ls st μ := by rw [s_X8_areHours_16]
theorem v_X8_areHours_16 : vc X P m_X8_areHours h K k_X8_areHours S (n + 1) 16 ls st μ = if 16 ∈ S then mAt X m_X8_areHours h K 16 ls st μ else bb X P m_X8_areHours h K (vc X P m_X8_areHours h K k_X8_areHours S n) s_X8_areHours_16 ls st μ := by rw [vc_s, t_X8_areHours_16]
theorem w_X8_areHours_17 : bb X P m_X8_areHours h K J s_X8_areHours_17 ls st μ = bb X P m_X8_areHours h K J ((17, .ireturn, 1, 1, 0, 0, .inl 0, []) :: []) ls st μ := by rw [s_X8_areHours_17]
theorem v_X8_areHours_17 : vc X P m_X8_areHours h K k_X8_areHours S (n + 1) 17 ls st μ = if 17 ∈ S then mAt X m_X8_areHours h K 17 ls st μ else bb X P m_X8_areHours h K (vc X P m_X8_areHours h K k_X8_areHours S n) s_X8_areHours_17 ls st μ := by rw [vc_s, t_X8_areHours_17]
end
section
variable {X : mC} {P : mP} {h : Nat} {K : MV → Mem → Prop} {J : mJ} {ls : List (Nat × MV)} {st : List MV} {μ : Mem} {S : List Nat} {n : Nat}
theorem w_X8_at_0 : bb X P m_X8_at h K J s_X8_at_0 ls st μ = bb X P m_X8_at h K J ((0, .aload_n 0, 1, 0, 0, 0, .inl 0, []) ::
  (1, .iload_n 1, 1, 1, 0, 0, .inl 0, []) ::
  (2, .invokevirtual 130, 3, 106, 2, 1, .inl 0, [682, 7]) ::
  (5, .ifCond .eq 11, 3, 16, 0, 0, .inl 0, []) ::
  (8, .aload_n 0, 1, 0, 0, 0, .inl 0, []) ::
  (9, .iload_n 2, 1, 2, 0, 0, .inl 0, []) ::
  (10, .invokevirtual 163, 3, 102, 2, 1, .inl 0, [686, 7]) ::
  (13, .ifCond .ne 5, 3, 18, 0, 0, .inl 0, []) :: s_X8_at_16) ls st μ := by rw [s_X8_at_0]
theorem v_X8_at_0 : vc X P m_X8_at h K k_X8_at S (n + 1) 0 ls st μ = if 0 ∈ S then mAt X m_X8_at h K 0 ls st μ else bb X P m_X8_at h K (vc X P m_X8_at h K k_X8_at S n) s_X8_at_0 ls st μ := by rw [vc_s, t_X8_at_0]
theorem w_X8_at_16 : bb X P m_X8_at h K J s_X8_at_16 ls st μ = bb X P m_X8_at h K J ((16, .iconst (-1), 1, 0, 0, 0, .inl (-1), []) ::
  (17, .ireturn, 1, 0, 0, 0, .inl 0, []) :: s_X8_at_18) ls st μ := by rw [s_X8_at_16]
theorem v_X8_at_16 : vc X P m_X8_at h K k_X8_at S (n + 1) 16 ls st μ = if 16 ∈ S then mAt X m_X8_at h K 16 ls st μ else bb X P m_X8_at h K (vc X P m_X8_at h K k_X8_at S n) s_X8_at_16 ls st μ := by rw [vc_s, t_X8_at_16]
theorem w_X8_at_18 : bb X P m_X8_at h K J s_X8_at_18 ls st μ = bb X P m_X8_at h K J ((18, .iload_n 1, 1, 1, 0, 0, .inl 0, []) ::
  (19, .bipush 6, 2, 0, 0, 0, .inl (nI 6), []) ::
  (21, .imul, 1, 0, 0, 0, .inl 0, []) ::
  (22, .iload_n 2, 1, 2, 0, 0, .inl 0, []) ::
  (23, .iadd, 1, 0, 0, 0, .inl 0, []) ::
  (24, .istore 4, 2, 4, 0, 0, .inl 0, []) ::
  (26, .iload_n 3, 1, 3, 0, 0, .inl 0, []) ::
  (27, .tableswitch 88 0 4 #[33, 44, 55, 66, 77], 33, 115, 0, 0, .inl 0, [60, 71, 82, 93, 104]) :: s_X8_at_60) ls st μ := by rw [s_X8_at_18]
theorem v_X8_at_18 : vc X P m_X8_at h K k_X8_at S (n + 1) 18 ls st μ = if 18 ∈ S then mAt X m_X8_at h K 18 ls st μ else bb X P m_X8_at h K (vc X P m_X8_at h K k_X8_at S n) s_X8_at_18 ls st μ := by rw [vc_s, t_X8_at_18]
theorem w_X8_at_60 : bb X P m_X8_at h K J s_X8_at_60 ls st μ = bb X P m_X8_at h K J ((60, .aload_n 0, 1, 0, 0, 0, .inl 0, []) ::
  (61, .getfield 19, 3, 7, 1, 3, .inr (.inr (0, 0, 4)), [479]) ::
  (64, .getfield 150, 3, 0, 10, 3, .inr (.inr (16, 48, 7)), [274]) ::
  (67, .iload 4, 2, 4, 0, 0, .inl 0, []) ::
  (69, .iaload, 1, 0, 0, 0, .inl 0, []) ::
  (70, .ireturn, 1, 0, 0, 0, .inl 0, []) :: s_X8_at_71) ls st μ := by rw [s_X8_at_60]
theorem v_X8_at_60 : vc X P m_X8_at h K k_X8_at S (n + 1) 60 ls st μ = if 60 ∈ S then mAt X m_X8_at h K 60 ls st μ else bb X P m_X8_at h K (vc X P m_X8_at h K k_X8_at S n) s_X8_at_60 ls st μ := by rw [vc_s, t_X8_at_60]
theorem w_X8_at_71 : bb X P m_X8_at h K J s_X8_at_71 ls st μ = bb X P m_X8_at h K J ((71, .aload_n 0, 1, 0, 0, 0, .inl 0, []) ::
  (72, .getfield 19, 3, 7, 1, 3, .inr (.inr (0, 0, 4)), [479]) ::
  (75, .getfield 166, 3, 0, 11, 3, .inr (.inr (16, 48, 8)), [278]) ::
  (78, .iload 4, 2, 4, 0, 0, .inl 0, []) ::
  (80, .iaload, 1, 0, 0, 0, .inl 0, []) ::
  (81, .ireturn, 1, 0, 0, 0, .inl 0, []) :: s_X8_at_82) ls st μ := by rw [s_X8_at_71]
theorem v_X8_at_71 : vc X P m_X8_at h K k_X8_at S (n + 1) 71 ls st μ = if 71 ∈ S then mAt X m_X8_at h K 71 ls st μ else bb X P m_X8_at h K (vc X P m_X8_at h K k_X8_at S n) s_X8_at_71 ls st μ := by rw [vc_s, t_X8_at_71]
theorem w_X8_at_82 : bb X P m_X8_at h K J s_X8_at_82 ls st μ = bb X P m_X8_at h K J ((82, .aload_n 0, 1, 0, 0, 0, .inl 0, []) ::
  (83, .getfield 19, 3, 7, 1, 3, .inr (.inr (0, 0, 4)), [479]) ::
  (86, .getfield 169, 3, 0, 12, 3, .inr (.inr (16, 48, 9)), [281]) ::
  (89, .iload 4, 2, 4, 0, 0, .inl 0, []) ::
  (91, .iaload, 1, 0, 0, 0, .inl 0, []) ::
  (92, .ireturn, 1, 0, 0, 0, .inl 0, []) :: s_X8_at_93) ls st μ := by rw [s_X8_at_82]
theorem v_X8_at_82 : vc X P m_X8_at h K k_X8_at S (n + 1) 82 ls st μ = if 82 ∈ S then mAt X m_X8_at h K 82 ls st μ else bb X P m_X8_at h K (vc X P m_X8_at h K k_X8_at S n) s_X8_at_82 ls st μ := by rw [vc_s, t_X8_at_82]
theorem w_X8_at_93 : bb X P m_X8_at h K J s_X8_at_93 ls st μ = bb X P m_X8_at h K J ((93, .aload_n 0, 1, 0, 0, 0, .inl 0, []) ::
  (94, .getfield 19, 3, 7, 1, 3, .inr (.inr (0, 0, 4)), [479]) ::
  (97, .getfield 157, 3, 0, 13, 3, .inr (.inr (16, 48, 10)), [283]) ::
  (100, .iload 4, 2, 4, 0, 0, .inl 0, []) ::
  (102, .iaload, 1, 0, 0, 0, .inl 0, []) ::
  (103, .ireturn, 1, 0, 0, 0, .inl 0, []) :: s_X8_at_104) ls st μ := by rw [s_X8_at_93]
theorem v_X8_at_93 : vc X P m_X8_at h K k_X8_at S (n + 1) 93 ls st μ = if 93 ∈ S then mAt X m_X8_at h K 93 ls st μ else bb X P m_X8_at h K (vc X P m_X8_at h K k_X8_at S n) s_X8_at_93 ls st μ := by rw [vc_s, t_X8_at_93]
theorem w_X8_at_104 : bb X P m_X8_at h K J s_X8_at_104 ls st μ = bb X P m_X8_at h K J ((104, .aload_n 0, 1, 0, 0, 0, .inl 0, []) ::
  (105, .getfield 19, 3, 7, 1, 3, .inr (.inr (0, 0, 4)), [479]) ::
  (108, .getfield 160, 3, 0, 14, 3, .inr (.inr (16, 48, 11)), [287]) ::
  (111, .iload 4, 2, 4, 0, 0, .inl 0, []) ::
  (113, .iaload, 1, 0, 0, 0, .inl 0, []) ::
  (114, .ireturn, 1, 0, 0, 0, .inl 0, []) :: s_X8_at_115) ls st μ := by rw [s_X8_at_104]
theorem v_X8_at_104 : vc X P m_X8_at h K k_X8_at S (n + 1) 104 ls st μ = if 104 ∈ S then mAt X m_X8_at h K 104 ls st μ else bb X P m_X8_at h K (vc X P m_X8_at h K k_X8_at S n) s_X8_at_104 ls st μ := by rw [vc_s, t_X8_at_104]
theorem w_X8_at_115 : bb X P m_X8_at h K J s_X8_at_115 ls st μ = bb X P m_X8_at h K J ((115, .iconst (-1), 1, 0, 0, 0, .inl (-1), []) ::
  (116, .ireturn, 1, 0, 0, 0, .inl 0, []) :: []) ls st μ := by rw [s_X8_at_115]
theorem v_X8_at_115 : vc X P m_X8_at h K k_X8_at S (n + 1) 115 ls st μ = if 115 ∈ S then mAt X m_X8_at h K 115 ls st μ else bb X P m_X8_at h K (vc X P m_X8_at h K k_X8_at S n) s_X8_at_115 ls st μ := by rw [vc_s, t_X8_at_115]
end
