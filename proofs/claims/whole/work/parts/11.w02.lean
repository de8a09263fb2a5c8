section
variable {X : mC} {P : mP} {h : Nat} {K : MV → Mem → Prop} {J : mJ} {ls : List (Nat × MV)} {st : List MV} {μ : Mem} {S : List Nat} {n : Nat}
theorem w_X8_begin_0 : bb X P m_X8_begin h K J s_X8_begin_0 ls st μ = bb X P m_X8_begin h K J ((0, .aload_n 0, 1, 0, 0, 0, .inl 0, []) ::
  (1, .getfield 19, 3, 7, 1, 3, .inr (.inr (0, 0, 4)), [479]) ::
  (4, .getfield 175, 3, 0, 1, 0, .inl 0, [249]) ::
  (7, .ifCond .ne 5, 3, 12, 0, 0, .inl 0, []) ::
  (10, .iconst 0, 1, 0, 0, 0, .inl (nI 0), []) ::
  (11, .ireturn, 1, 1, 0, 0, .inl 0, []) :: s_X8_begin_12) ls st μ := by rw [s_X8_begin_0]
theorem v_X8_begin_0 : vc X P m_X8_begin h K k_X8_begin S (n + 1) 0 ls st μ = if 0 ∈ S then mAt X m_X8_begin h K 0 ls st μ else bb X P m_X8_begin h K (vc X P m_X8_begin h K k_X8_begin S n) s_X8_begin_0 ls st μ := by rw [vc_s, t_X8_begin_0]
theorem w_X8_begin_12 : bb X P m_X8_begin h K J s_X8_begin_12 ls st μ = bb X P m_X8_begin h K J ((12, .aload_n 0, 1, 0, 0, 0, .inl 0, []) ::
  (13, .getfield 49, 3, 7, 7, 3, .inr (.inr (3, 0, 50)), [485]) ::
  (16, .aload_n 0, 1, 0, 0, 0, .inl 0, []) ::
  (17, .getfield 19, 3, 7, 1, 3, .inr (.inr (0, 0, 4)), [479]) ::
  (20, .invokevirtual 185, 3, 44, 2, 0, .inl 0, [698, 3]) ::
  (23, .iconst 1, 1, 0, 0, 0, .inl (nI 1), []) ::
  (24, .ireturn, 1, 1, 0, 0, .inl 0, []) :: []) ls st μ := by rw [s_X8_begin_12]
theorem v_X8_begin_12 : vc X P m_X8_begin h K k_X8_begin S (n + 1) 12 ls st μ = if 12 ∈ S then mAt X m_X8_begin h K 12 ls st μ else bb X P m_X8_begin h K (vc X P m_X8_begin h K k_X8_begin S n) s_X8_begin_12 ls st μ := by rw [vc_s, t_X8_begin_12]
end
section
variable {X : mC} {P : mP} {h : Nat} {K : MV → Mem → Prop} {J : mJ} {ls : List (Nat × MV)} {st : List MV} {μ : Mem} {S : List Nat} {n : Nat}
theorem w_X8_brook_0 : bb X P m_X8_brook h K J s_X8_brook_0 ls st μ = bb X P m_X8_brook h K J ((0, .aload_n 0, 1, 0, 0, 0, .inl 0, []) ::
  (1, .getfield 23, 3, 7, 2, 3, .inr (.inr (0, 0, 16)), [480]) ::
  (4, .aload_n 0, 1, 0, 0, 0, .inl 0, []) ::
  (5, .getfield 12, 3, 7, 0, 3, .inr (.inr (5, 0, 1)), [478]) ::
  (8, .invokevirtual 105, 3, 12, 2, 1, .inl 0, [554, 0]) ::
  (11, .istore_n 1, 1, 1, 0, 0, .inl 0, []) ::
  (12, .aload_n 0, 1, 0, 0, 0, .inl 0, []) ::
  (13, .invokevirtual 109, 3, 82, 1, 0, .inl 0, [655, 7]) ::
  (16, .iload_n 1, 1, 1, 0, 0, .inl 0, []) ::
  (17, .ifCond .ne 13, 3, 30, 0, 0, .inl 0, []) ::
  (20, .iconst (-1), 1, 0, 0, 0, .inl (-1), []) ::
  (21, .aload_n 0, 1, 0, 0, 0, .inl 0, []) ::
  (22, .getfield 12, 3, 7, 0, 3, .inr (.inr (5, 0, 1)), [478]) ::
  (25, .getfield 112, 3, 5, 11, 0, .inl 0, [210]) ::
  (28, .isub, 1, 0, 0, 0, .inl 0, []) ::
  (29, .ireturn, 1, 0, 0, 0, .inl 0, []) :: s_X8_brook_30) ls st μ := by rw [s_X8_brook_0]
theorem v_X8_brook_0 : vc X P m_X8_brook h K k_X8_brook S (n + 1) 0 ls st μ = if 0 ∈ S then mAt X m_X8_brook h K 0 ls st μ else bb X P m_X8_brook h K (vc X P m_X8_brook h K k_X8_brook S n) s_X8_brook_0 ls st μ := by rw [vc_s, t_X8_brook_0]
theorem w_X8_brook_30 : bb X P m_X8_brook h K J s_X8_brook_30 ls st μ = bb X P m_X8_brook h K J ((30, .aload_n 0, 1, 0, 0, 0, .inl 0, []) ::
  (31, .getfield 19, 3, 7, 1, 3, .inr (.inr (0, 0, 4)), [479]) ::
  (34, .aload_n 0, 1, 0, 0, 0, .inl 0, []) ::
  (35, .getfield 23, 3, 7, 2, 3, .inr (.inr (0, 0, 16)), [480]) ::
  (38, .invokevirtual 115, 3, 4, 2, 0, .inl 0, [659, 0]) ::
  (41, .aload_n 0, 1, 0, 0, 0, .inl 0, []) ::
  (42, .getfield 29, 3, 7, 3, 3, .inr (.inr (2, 0, 28)), [481]) ::
  (45, .invokevirtual 119, 3, 23, 1, 0, .inl 0, [666, 2]) ::
  (48, .aload_n 0, 1, 0, 0, 0, .inl 0, []) ::
  (49, .getfield 39, 3, 7, 5, 3, .inr (.inr (4, 0, 42)), [483]) ::
  (52, .invokevirtual 122, 3, 50, 1, 0, .inl 0, [670, 4]) ::
  (55, .aload_n 0, 1, 0, 0, 0, .inl 0, []) ::
  (56, .getfield 49, 3, 7, 7, 3, .inr (.inr (3, 0, 50)), [485]) ::
  (59, .iconst (-1), 1, 0, 0, 0, .inl (-1), []) ::
  (60, .putfield 123, 3, 3, 0, 0, .inl 0, [379]) ::
  (63, .aload_n 0, 1, 0, 0, 0, .inl 0, []) ::
  (64, .getfield 19, 3, 7, 1, 3, .inr (.inr (0, 0, 4)), [479]) ::
  (67, .getfield 126, 3, 0, 2, 0, .inl 0, [251]) ::
  (70, .ireturn, 1, 0, 0, 0, .inl 0, []) :: []) ls st μ := by rw [s_X8_brook_30]
theorem v_X8_brook_30 : vc X P m_X8_brook h K k_X8_brook S (n + 1) 30 ls st μ = if 30 ∈ S then mAt X m_X8_brook h K 30 ls st μ else bb X P m_X8_brook h K (vc X P m_X8_brook h K k_X8_brook S n) s_X8_brook_30 ls st μ := by rw [vc_s, t_X8_brook_30]
end
section
variable {X : mC} {P : mP} {h : Nat} {K : MV → Mem → Prop} {J : mJ} {ls : List (Nat × MV)} {st : List MV} {μ : Mem} {S : List Nat} {n : Nat}
theorem w_X8_by_0 : bb X P m_X8_by h K J s_X8_by_0 ls st μ = bb X P m_X8_by h K J ((0, .aload_n 0, 1, 0, 0, 0, .inl 0, []) ::
  (1, .iload_n 1, 1, 1, 0, 0, .inl 0, []) ::
  (2, .invokevirtual 268, 3, 104, 2, 1, .inl 0, [874, 7]) ::
  (5, .ifCond .eq 10, 3, 15, 0, 0, .inl 0, []) ::
  (8, .iload_n 2, 1, 2, 0, 0, .inl 0, []) ::
  (9, .invokestatic 271, 3, 76, 1, 1, .inl 0, [878]) ::
  (12, .ifCond .ne 5, 3, 17, 0, 0, .inl 0, []) :: s_X8_by_15) ls st μ := by rw [s_X8_by_0]
theorem v_X8_by_0 : vc X P m_X8_by h K k_X8_by S (n + 1) 0 ls st μ = if 0 ∈ S then mAt X m_X8_by h K 0 ls st μ else bb X P m_X8_by h K (vc X P m_X8_by h K k_X8_by S n) s_X8_by_0 ls st μ := by rw [vc_s, t_X8_by_0]
theorem w_X8_by_15 : bb X P m_X8_by h K J s_X8_by_15 ls st μ = bb X P m_X8_by h K J ((15, .iconst (-1), 1, 0, 0, 0, .inl (-1), []) ::
  (16, .ireturn, 1, 0, 0, 0, .inl 0, []) :: s_X8_by_17) ls st μ := by rw [s_X8_by_15]
theorem v_X8_by_15 : vc X P m_X8_by h K k_X8_by S (n + 1) 15 ls st μ = if 15 ∈ S then mAt X m_X8_by h K 15 ls st μ else bb X P m_X8_by h K (vc X P m_X8_by h K k_X8_by S n) s_X8_by_15 ls st μ := by rw [vc_s, t_X8_by_15]
theorem w_X8_by_17 : bb X P m_X8_by h K J s_X8_by_17 ls st μ = bb X P m_X8_by h K J ((17, .aload_n 0, 1, 0, 0, 0, .inl 0, []) ::
  (18, .aload_n 0, 1, 0, 0, 0, .inl 0, []) ::
  (19, .getfield 19, 3, 7, 1, 3, .inr (.inr (0, 0, 4)), [479]) ::
  (22, .iload_n 1, 1, 1, 0, 0, .inl 0, []) ::
  (23, .iload_n 2, 1, 2, 0, 0, .inl 0, []) ::
  (24, .invokevirtual 274, 3, 114, 4, 1, .inl 0, [881, 7]) ::
  (27, .ireturn, 1, 0, 0, 0, .inl 0, []) :: []) ls st μ := by rw [s_X8_by_17]
theorem v_X8_by_17 : vc X P m_X8_by h K k_X8_by S (n + 1) 17 ls st μ = if 17 ∈ S then mAt X m_X8_by h K 17 ls st μ else bb X P m_X8_by h K (vc X P m_X8_by h K k_X8_by S n) s_X8_by_17 ls st μ := by rw [vc_s, t_X8_by_17]
end
section
variable {X : mC} {P : mP} {h : Nat} {K : MV → Mem → Prop} {J : mJ} {ls : List (Nat × MV)} {st : List MV} {μ : Mem} {S : List Nat} {n : Nat}
theorem w_X8_byteAt_0 : bb X P m_X8_byteAt h K J s_X8_byteAt_0 ls st μ = bb X P m_X8_byteAt h K J ((0, .iload_n 1, 1, 1, 0, 0, .inl 0, []) ::
  (1, .ifCond .lt 26, 3, 27, 0, 0, .inl 0, []) ::
  (4, .iload_n 1, 1, 1, 0, 0, .inl 0, []) ::
  (5, .aload_n 0, 1, 0, 0, 0, .inl 0, []) ::
  (6, .getfield 69, 3, 7, 11, 3, .inr (.inr (6, 0, 159)), [489]) ::
  (9, .getfield 332, 3, 6, 1, 0, .inl 0, [472]) ::
  (12, .if_icmp .ge 15, 3, 27, 0, 0, .inl 0, []) ::
  (15, .aload_n 0, 1, 0, 0, 0, .inl 0, []) ::
  (16, .getfield 69, 3, 7, 11, 3, .inr (.inr (6, 0, 159)), [489]) ::
  (19, .getfield 343, 3, 6, 0, 3, .inr (.inr (16, 136, 1)), [470]) ::
  (22, .iload_n 1, 1, 1, 0, 0, .inl 0, []) ::
  (23, .iaload, 1, 0, 0, 0, .inl 0, []) ::
  (24, .goto 4, 3, 28, 0, 0, .inl 0, []) :: s_X8_byteAt_27) ls st μ := by rw [s_X8_byteAt_0]
theorem v_X8_byteAt_0 : vc X P m_X8_byteAt h K k_X8_byteAt S (n + 1) 0 ls st μ = if 0 ∈ S then mAt X m_X8_byteAt h K 0 ls st μ else bb X P m_X8_byteAt h K (vc X P m_X8_byteAt h K k_X8_byteAt S n) s_X8_byteAt_0 ls st μ := by rw [vc_s, t_X8_byteAt_0]
theorem w_X8_byteAt_27 : bb X P m_X8_byteAt h K J s_X8_byteAt_27 ls st μ = bb X P m_X8_byteAt h K J ((27, .iconst (-1), 1, 0, 0, 0, .inl (-1), []) :: s_X8_byteAt_28) ls st μ := by rw [s_X8_byteAt_27]
theorem v_X8_byteAt_27 : vc X P m_X8_byteAt h K k_X8_byteAt S (n + 1) 27 ls st μ = if 27 ∈ S then mAt X m_X8_byteAt h K 27 ls st μ else bb X P m_X8_byteAt h K (vc X P m_X8_byteAt h K k_X8_byteAt S n) s_X8_byteAt_27 ls st μ := by rw [vc_s, t_X8_byteAt_27]
theorem w_X8_byteAt_28 : bb X P m_X8_byteAt h K J s_X8_byteAt_28 ls st μ = bb X P m_X8_byteAt h K J ((28, .ireturn, 1, 0, 0, 0, .inl 0, []) :: []) ls st μ := by rw [s_X8_byteAt_28]
theorem v_X8_byteAt_28 : vc X P m_X8_byteAt h K k_X8_byteAt S (n + 1) 28 ls st μ = if 28 ∈ S then mAt X m_X8_byteAt h K 28 ls st μ else bb X P m_X8_byteAt h K (vc X P m_X8_byteAt h K k_X8_byteAt S n) s_X8_byteAt_28 ls st μ := by rw [vc_s, t_X8_byteAt_28]
end
section
variable {X : mC} {P : mP} {h : Nat} {K : MV → Mem → Prop} {J : mJ} {ls : List (Nat × MV)} {st : List MV} {μ : Mem} {S : List Nat} {n : Nat}
theorem w_X8_closeTape_0 : bb X P m_X8_closeTape h K J s_X8_closeTape_0 ls st μ = bb X P m_X8_closeTape h K J ((0, .aload_n 0, 1, 0, 0, 0, .inl 0, []) ::
  (1, .aload_n 0, 1, 0, 0, 0, .inl 0, []) ::
  (2, .getfield 12, 3, 7, 0, 3, .inr (.inr (5, 0, 1)), [478]) ::
  (5, .getfield 129, 3, 5, 10, 0, .inl 0, [208]) ::
  (8, .putfield 91, 3, 7, 17, 0, .inl 0, [495]) ::
  (11, .aload_n 0, 1, 0, 0, 0, .inl 0, []) ::
  (12, .getfield 12, 3, 7, 0, 3, .inr (.inr (5, 0, 1)), [478]) ::
  (15, .iconst 0, 1, 0, 0, 0, .inl (nI 0), []) ::
  (16, .putfield 102, 3, 5, 2, 0, .inl 0, [189]) ::
  (19, .return_, 1, 0, 0, 0, .inl 0, []) :: []) ls st μ := by rw [s_X8_closeTape_0]
theorem v_X8_closeTape_0 : vc X P m_X8_closeTape h K k_X8_closeTape S (n + 1) 0 ls st μ = if 0 ∈ S then mAt X m_X8_closeTape h K 0 ls st μ else bb X P m_X8_closeTape h K (vc X P m_X8_closeTape h K k_X8_closeTape S n) s_X8_closeTape_0 ls st μ := by rw [vc_s, t_X8_closeTape_0]
end
section
variable {X : mC} {P : mP} {h : Nat} {K : MV → Mem → Prop} {J : mJ} {ls : List (Nat × MV)} {st : List MV} {μ : Mem} {S : List Nat} {n : Nat}
theorem w_X8_comes_0 : bb X P m_X8_comes h K J s_X8_comes_0 ls st μ = bb X P m_X8_comes h K J ((0, .aload_n 0, 1, 0, 0, 0, .inl 0, []) ::
  (1, .iload_n 1, 1, 1, 0, 0, .inl 0, []) ::
  (2, .iload_n 2, 1, 2, 0, 0, .inl 0, []) ::
  (3, .invokevirtual 209, 3, 105, 3, 1, .inl 0, [772, 7]) ::
  (6, .ifCond .eq 20, 3, 26, 0, 0, .inl 0, []) ::
  (9, .aload_n 0, 1, 0, 0, 0, .inl 0, []) ::
  (10, .getfield 49, 3, 7, 7, 3, .inr (.inr (3, 0, 50)), [485]) ::
  (13, .getfield 237, 3, 3, 3, 3, .inr (.inr (16, 48, 3)), [386]) ::
  (16, .iload_n 1, 1, 1, 0, 0, .inl 0, []) ::
  (17, .bipush 6, 2, 0, 0, 0, .inl (nI 6), []) ::
  (19, .imul, 1, 0, 0, 0, .inl 0, []) ::
  (20, .iload_n 2, 1, 2, 0, 0, .inl 0, []) ::
  (21, .iadd, 1, 0, 0, 0, .inl 0, []) ::
  (22, .iaload, 1, 0, 0, 0, .inl 0, []) ::
  (23, .goto 4, 3, 27, 0, 0, .inl 0, []) :: s_X8_comes_26) ls st μ := by rw [s_X8_comes_0]
theorem v_X8_comes_0 : vc X P m_X8_comes h K k_X8_comes S (n + 1) 0 ls st μ = if 0 ∈ S then mAt X m_X8_comes h K 0 ls st μ else bb X P m_X8_comes h K (vc X P m_X8_comes h K k_X8_comes S n) s_X8_comes_0 ls st μ := by rw [vc_s, t_X8_comes_0]
theorem w_X8_comes_26 : bb X P m_X8_comes h K J s_X8_comes_26 ls st μ = bb X P m_X8_comes h K J ((26, .iconst (-1), 1, 0, 0, 0, .inl (-1), []) :: s_X8_comes_27) ls st μ := by rw [s_X8_comes_26]
theorem v_X8_comes_26 : vc X P m_X8_comes h K k_X8_comes S (n + 1) 26 ls st μ = if 26 ∈ S then mAt X m_X8_comes h K 26 ls st μ else bb X P m_X8_comes h K (vc X P m_X8_comes h K k_X8_comes S n) s_X8_comes_26 ls st μ := by rw [vc_s, t_X8_comes_26]
theorem w_X8_comes_27 : bb X P m_X8_comes h K J s_X8_comes_27 ls st μ = bb X P m_X8_comes h K J ((27, .ireturn, 1, 0, 0, 0, .inl 0, []) :: []) ls st μ := by rw [s_X8_comes_27]
theorem v_X8_comes_27 : vc X P m_X8_comes h K k_X8_comes S (n + 1) 27 ls st μ = if 27 ∈ S then mAt X m_X8_comes h K 27 ls st μ else bb X P m_X8_comes h K (vc X P m_X8_comes h K k_X8_comes S n) s_X8_comes_27 ls st μ := by rw [vc_s, t_X8_comes_27]
end
section
variable {X : mC} {P : mP} {h : Nat} {K : MV → Mem → Prop} {J : mJ} {ls : List (Nat × MV)} {st : List MV} {μ : Mem} {S : List Nat} {n : Nat}
theorem w_X8_commonDivisor_0 : bb X P m_X8_commonDivisor h K J s_X8_commonDivisor_0 ls st μ = bb X P m_X8_commonDivisor h K J ((0, .lload_n 0, 1, 0, 0, 0, .inl 0, []) ::
  (1, .lstore 4, 2, 4, 0, 0, .inl 0, []) ::
  (3, .lload_n 2, 1, 2, 0, 0, .inl 0, []) ::
  (4, .lstore 6, 2, 6, 0, 0, .inl 0, []) ::
  (6, .iconst 0, 1, 0, 0, 0, .inl (nI 0), []) ::
  (7, .istore 8, 2, 8, 0, 0, .inl 0, []) :: s_X8_commonDivisor_9) ls st μ := by rw [s_X8_commonDivisor_0]
theorem v_X8_commonDivisor_0 : vc X P m_X8_commonDivisor h K k_X8_commonDivisor S (n + 1) 0 ls st μ = if 0 ∈ S then mAt X m_X8_commonDivisor h K 0 ls st μ else bb X P m_X8_commonDivisor h K (vc X P m_X8_commonDivisor h K k_X8_commonDivisor S n) s_X8_commonDivisor_0 ls st μ := by rw [vc_s, t_X8_commonDivisor_0]
theorem w_X8_commonDivisor_9 : bb X P m_X8_commonDivisor h K J s_X8_commonDivisor_9 ls st μ = bb X P m_X8_commonDivisor h K J ((9, .iload 8, 2, 8, 0, 0, .inl 0, []) ::
  (11, .sipush 200, 3, 0, 0, 0, .inl (nI 200), []) ::
  (14, .if_icmp .ge 41, 3, 55, 0, 0, .inl 0, []) ::
  (17, .lload 6, 2, 6, 0, 0, .inl 0, []) ::
  (19, .lconst 0, 1, 0, 0, 0, .inr (.inl 0), []) ::
  (20, .lcmp, 1, 0, 0, 0, .inl 0, []) ::
  (21, .ifCond .le 34, 3, 55, 0, 0, .inl 0, []) ::
  (24, .lload 4, 2, 4, 0, 0, .inl 0, []) ::
  (26, .lload 6, 2, 6, 0, 0, .inl 0, []) ::
  (28, .lrem, 1, 0, 0, 0, .inl 0, []) ::
  (29, .lconst 0, 1, 0, 0, 0, .inr (.inl 0), []) ::
  (30, .lcmp, 1, 0, 0, 0, .inl 0, []) ::
  (31, .ifCond .eq 24, 3, 55, 0, 0, .inl 0, []) ::
  (34, .lload 4, 2, 4, 0, 0, .inl 0, []) ::
  (36, .lload 6, 2, 6, 0, 0, .inl 0, []) ::
  (38, .lrem, 1, 0, 0, 0, .inl 0, []) ::
  (39, .lstore 9, 2, 9, 0, 0, .inl 0, []) ::
  (41, .lload 6, 2, 6, 0, 0, .inl 0, []) ::
  (43, .lstore 4, 2, 4, 0, 0, .inl 0, []) ::
  (45, .lload 9, 2, 9, 0, 0, .inl 0, []) ::
  (47, .lstore 6, 2, 6, 0, 0, .inl 0, []) ::
  (49, .iinc 8 1, 3, 8, 0, 0, .inl (nI 1), []) ::
  (52, .goto (-43), 3, 9, 0, 0, .inl 0, []) :: s_X8_commonDivisor_55) ls st μ := by rw [s_X8_commonDivisor_9]
theorem v_X8_commonDivisor_9 : vc X P m_X8_commonDivisor h K k_X8_commonDivisor S (n + 1) 9 ls st μ = if 9 ∈ S then mAt X m_X8_commonDivisor h K 9 ls st μ else bb X P m_X8_commonDivisor h K (vc X P m_X8_commonDivisor h K k_X8_commonDivisor S n) s_X8_commonDivisor_9 ls st μ := by rw [vc_s, t_X8_commonDivisor_9]
theorem w_X8_commonDivisor_55 : bb X P m_X8_commonDivisor h K J s_X8_commonDivisor_55 ls st μ = bb X P m_X8_commonDivisor h K J ((55, .lload 6, 2, 6, 0, 0, .inl 0, []) ::
  (57, .lconst 1, 1, 0, 0, 0, .inr (.inl 1), []) ::
  (58, .invokestatic 300, 3, 0, 2, 12, .inl 0, [915]) ::
  (61, .lreturn, 1, 0, 0, 0, .inl 0, []) :: []) ls st μ := by rw [s_X8_commonDivisor_55]
theorem v_X8_commonDivisor_55 : vc X P m_X8_commonDivisor h K k_X8_commonDivisor S (n + 1) 55 ls st μ = if 55 ∈ S then mAt X m_X8_commonDivisor h K 55 ls st μ else bb X P m_X8_commonDivisor h K (vc X P m_X8_commonDivisor h K k_X8_commonDivisor S n) s_X8_commonDivisor_55 ls st μ := by rw [vc_s, t_X8_commonDivisor_55]
end
section
variable {X : mC} {P : mP} {h : Nat} {K : MV → Mem → Prop} {J : mJ} {ls : List (Nat × MV)} {st : List MV} {μ : Mem} {S : List Nat} {n : Nat}
theorem w_X8_count_0 : bb X P m_X8_count h K J s_X8_count_0 ls st μ = bb X P m_X8_count h K J ((0, .iload_n 1, 1, 1, 0, 0, .inl 0, []) ::
  (1, .tableswitch 128 0 7 #[47, 55, 63, 74, 85, 96, 112, 120], 47, 129, 0, 0, .inl 0, [48, 56, 64, 75, 86, 97, 113, 121]) :: s_X8_count_48) ls st μ := by rw [s_X8_count_0]
theorem v_X8_count_0 : vc X P m_X8_count h K k_X8_count S (n + 1) 0 ls st μ = if 0 ∈ S then mAt X m_X8_count h K 0 ls st μ else bb X P m_X8_count h K (vc X P m_X8_count h K k_X8_count S n) s_X8_count_0 ls st μ := by rw [vc_s, t_X8_count_0]
theorem w_X8_count_48 : bb X P m_X8_count h K J s_X8_count_48 ls st μ = bb X P m_X8_count h K J ((48, .aload_n 0, 1, 0, 0, 0, .inl 0, []) ::
  (49, .getfield 19, 3, 7, 1, 3, .inr (.inr (0, 0, 4)), [479]) ::
  (52, .getfield 178, 3, 0, 0, 0, .inl 0, [246]) ::
  (55, .ireturn, 1, 0, 0, 0, .inl 0, []) :: s_X8_count_56) ls st μ := by rw [s_X8_count_48]
theorem v_X8_count_48 : vc X P m_X8_count h K k_X8_count S (n + 1) 48 ls st μ = if 48 ∈ S then mAt X m_X8_count h K 48 ls st μ else bb X P m_X8_count h K (vc X P m_X8_count h K k_X8_count S n) s_X8_count_48 ls st μ := by rw [vc_s, t_X8_count_48]
theorem w_X8_count_56 : bb X P m_X8_count h K J s_X8_count_56 ls st μ = bb X P m_X8_count h K J ((56, .aload_n 0, 1, 0, 0, 0, .inl 0, []) ::
  (57, .getfield 19, 3, 7, 1, 3, .inr (.inr (0, 0, 4)), [479]) ::
  (60, .getfield 175, 3, 0, 1, 0, .inl 0, [249]) ::
  (63, .ireturn, 1, 0, 0, 0, .inl 0, []) :: s_X8_count_64) ls st μ := by rw [s_X8_count_56]
theorem v_X8_count_56 : vc X P m_X8_count h K k_X8_count S (n + 1) 56 ls st μ = if 56 ∈ S then mAt X m_X8_count h K 56 ls st μ else bb X P m_X8_count h K (vc X P m_X8_count h K k_X8_count S n) s_X8_count_56 ls st μ := by rw [vc_s, t_X8_count_56]
theorem w_X8_count_64 : bb X P m_X8_count h K J s_X8_count_64 ls st μ = bb X P m_X8_count h K J ((64, .aload_n 0, 1, 0, 0, 0, .inl 0, []) ::
  (65, .getfield 19, 3, 7, 1, 3, .inr (.inr (0, 0, 4)), [479]) ::
  (68, .getfield 150, 3, 0, 10, 3, .inr (.inr (16, 48, 7)), [274]) ::
  (71, .invokestatic 363, 3, 86, 1, 1, .inl 0, [1103]) ::
  (74, .ireturn, 1, 0, 0, 0, .inl 0, []) :: s_X8_count_75) ls st μ := by rw [s_X8_count_64]
theorem v_X8_count_64 : vc X P m_X8_count h K k_X8_count S (n + 1) 64 ls st μ = if 64 ∈ S then mAt X m_X8_count h K 64 ls st μ else bb X P m_X8_count h K (vc X P m_X8_count h K k_X8_count S n) s_X8_count_64 ls st μ := by rw [vc_s, t_X8_count_64]
theorem w_X8_count_75 : bb X P m_X8_count h K J s_X8_count_75 ls st μ = bb X P m_X8_count h K J ((75, .aload_n 0, 1, 0, 0, 0, .inl 0, []) ::
  (76, .getfield 19, 3, 7, 1, 3, .inr (.inr (0, 0, 4)), [479]) ::
  (79, .getfield 157, 3, 0, 13, 3, .inr (.inr (16, 48, 10)), [283]) ::
  (82, .invokestatic 363, 3, 86, 1, 1, .inl 0, [1103]) ::
  (85, .ireturn, 1, 0, 0, 0, .inl 0, []) :: s_X8_count_86) ls st μ := by rw [s_X8_count_75]
theorem v_X8_count_75 : vc X P m_X8_count h K k_X8_count S (n + 1) 75 ls st μ = if 75 ∈ S then mAt X m_X8_count h K 75 ls st μ else bb X P m_X8_count h K (vc X P m_X8_count h K k_X8_count S n) s_X8_count_75 ls st μ := by rw [vc_s, t_X8_count_75]
theorem w_X8_count_86 : bb X P m_X8_count h K J s_X8_count_86 ls st μ = bb X P m_X8_count h K J ((86, .aload_n 0, 1, 0, 0, 0, .inl 0, []) ::
  (87, .getfield 19, 3, 7, 1, 3, .inr (.inr (0, 0, 4)), [479]) ::
  (90, .getfield 160, 3, 0, 14, 3, .inr (.inr (16, 48, 11)), [287]) ::
  (93, .invokestatic 363, 3, 86, 1, 1, .inl 0, [1103]) ::
  (96, .ireturn, 1, 0, 0, 0, .inl 0, []) :: s_X8_count_97) ls st μ := by rw [s_X8_count_86]
theorem v_X8_count_86 : vc X P m_X8_count h K k_X8_count S (n + 1) 86 ls st μ = if 86 ∈ S then mAt X m_X8_count h K 86 ls st μ else bb X P m_X8_count h K (vc X P m_X8_count h K k_X8_count S n) s_X8_count_86 ls st μ := by rw [vc_s, t_X8_count_86]
theorem w_X8_count_97 : bb X P m_X8_count h K J s_X8_count_97 ls st μ = bb X P m_X8_count h K J ((97, .aload_n 0, 1, 0, 0, 0, .inl 0, []) ::
  (98, .getfield 19, 3, 7, 1, 3, .inr (.inr (0, 0, 4)), [479]) ::
  (101, .getfield 367, 3, 0, 3, 2, .inl 0, [254]) ::
  (104, .ifCond .eq 7, 3, 111, 0, 0, .inl 0, []) ::
  (107, .iconst 1, 1, 0, 0, 0, .inl (nI 1), []) ::
  (108, .goto 4, 3, 112, 0, 0, .inl 0, []) :: s_X8_count_111) ls st μ := by rw [s_X8_count_97]
theorem v_X8_count_97 : vc X P m_X8_count h K k_X8_count S (n + 1) 97 ls st μ = if 97 ∈ S then mAt X m_X8_count h K 97 ls st μ else bb X P m_X8_count h K (vc X P m_X8_count h K k_X8_count S n) s_X8_count_97 ls st μ := by rw [vc_s, t_X8_count_97]
theorem w_X8_count_111 : bb X P m_X8_count h K J s_X8_count_111 ls st μ = bb X P m_X8_count h K J ((111, .iconst 0, 1, 0, 0, 0, .inl (nI 0), []) :: s_X8_count_112) ls st μ := by rw [s_X8_count_111]
theorem v_X8_count_111 : vc X P m_X8_count h K k_X8_count S (n + 1) 111 ls st μ = if 111 ∈ S then mAt X m_X8_count h K 111 ls st μ else bb X P m_X8_count h K (vc X P m_X8_count h K k_X8_count S n) s_X8_count_111 ls st μ := by rw [vc_s, t_X8_count_111]
theorem w_X8_count_112 : bb X P m_X8_count h K J s_X8_count_112 ls st μ = bb X P m_X8_count h K J ((112, .ireturn, 1, 0, 0, 0, .inl 0, []) :: s_X8_count_113) ls st μ := by rw [s_X8_count_112]
theorem v_X8_count_112 : vc X P m_X8_count h K k_X8_count S (n + 1) 112 ls st μ = if 112 ∈ S then mAt X m_X8_count h K 112 ls st μ else bb X P m_X8_count h K (vc X P m_X8_count h K k_X8_count S n) s_X8_count_112 ls st μ := by rw [vc_s, t_X8_count_112]
theorem w_X8_count_113 : bb X P m_X8_count h K J s_X8_count_113 ls st μ = bb X P m_X8_count h K J ((113, .aload_n 0, 1, 0, 0, 0, .inl 0, []) ::
  (114, .getfield 29, 3, 7, 3, 3, .inr (.inr (2, 0, 28)), [481]) ::
  (117, .getfield 253, 3, 2, 0, 0, .inl 0, [327]) ::
  (120, .ireturn, 1, 0, 0, 0, .inl 0, []) :: s_X8_count_121) ls st μ := by rw [s_X8_count_113]
theorem v_X8_count_113 : vc X P m_X8_count h K k_X8_count S (n + 1) 113 ls st μ = if 113 ∈ S then mAt X m_X8_count h K 113 ls st μ else bb X P m_X8_count h K (vc X P m_X8_count h K k_X8_count S n) s_X8_count_113 ls st μ := by rw [vc_s, t_X8_count_113]
theorem w_X8_count_121 : bb X P m_X8_count h K J s_X8_count_121 ls st μ = bb X P m_X8_count h K J ((121, .aload_n 0, 1, 0, 0, 0, .inl 0, []) ::
  (122, .getfield 12, 3, 7, 0, 3, .inr (.inr (5, 0, 1)), [478]) ::
  (125, .getfield 102, 3, 5, 2, 0, .inl 0, [189]) ::
  (128, .ireturn, 1, 0, 0, 0, .inl 0, []) :: s_X8_count_129) ls st μ := by rw [s_X8_count_121]
theorem v_X8_count_121 : vc X P m_X8_count h K k_X8_count S (n + 1) 121 ls st μ = if 121 ∈ S then mAt X m_X8_count h K 121 ls st μ else bb X P m_X8_count h K (vc X P m_X8_count h K k_X8_count S n) s_X8_count_121 ls st μ := by rw [vc_s, t_X8_count_121]
theorem w_X8_count_129 : bb X P m_X8_count h K J s_X8_count_129 ls st μ = bb X P m_X8_count h K J ((129, .iconst (-1), 1, 0, 0, 0, .inl (-1), []) ::
  (130, .ireturn, 1, 0, 0, 0, .inl 0, []) :: []) ls st μ := by rw [s_X8_count_129]
theorem v_X8_count_129 : vc X P m_X8_count h K k_X8_count S (n + 1) 129 ls st μ = if 129 ∈ S then mAt X m_X8_count h K 129 ls st μ else bb X P m_X8_count h K (vc X P m_X8_count h K k_X8_count S n) s_X8_count_129 ls st μ := by rw [vc_s, t_X8_count_129]
end
section
variable {X : mC} {P : mP} {h : Nat} {K : MV → Mem → Prop} {J : mJ} {ls : List (Nat × MV)} {st : List MV} {μ : Mem} {S : List Nat} {n : Nat}
theorem w_X8_countTold_0 : bb X P m_X8_countTold h K J s_X8_countTold_0 ls st μ = bb X P m_X8_countTold h K J ((0, .iconst 0, 1, 0, 0, 0, .inl (nI 0), []) ::
  (1, .istore_n 1, 1, 1, 0, 0, .inl 0, []) ::
  (2, .iconst 0, 1, 0, 0, 0, .inl (nI 0), []) ::
  (3, .istore_n 2, 1, 2, 0, 0, .inl 0, []) :: s_X8_countTold_4) ls st μ := by rw [s_X8_countTold_0]
theorem v_X8_countTold_0 : vc X P m_X8_countTold h K k_X8_countTold S (n + 1) 0 ls st μ = if 0 ∈ S then mAt X m_X8_countTold h K 0 ls st μ else bb X P m_X8_countTold h K (vc X P m_X8_countTold h K k_X8_countTold S n) s_X8_countTold_0 ls st μ := by rw [vc_s, t_X8_countTold_0]
theorem w_X8_countTold_4 : bb X P m_X8_countTold h K J s_X8_countTold_4 ls st μ = bb X P m_X8_countTold h K J ((4, .iload_n 2, 1, 2, 0, 0, .inl 0, []) ::
  (5, .bipush 48, 2, 0, 0, 0, .inl (nI 48), []) ::
  (7, .if_icmp .ge 18, 3, 25, 0, 0, .inl 0, []) ::
  (10, .aload_n 0, 1, 0, 0, 0, .inl 0, []) ::
  (11, .iload_n 2, 1, 2, 0, 0, .inl 0, []) ::
  (12, .iaload, 1, 0, 0, 0, .inl 0, []) ::
  (13, .ifCond .le 6, 3, 19, 0, 0, .inl 0, []) ::
  (16, .iinc 1 1, 3, 1, 0, 0, .inl (nI 1), []) :: s_X8_countTold_19) ls st μ := by rw [s_X8_countTold_4]
theorem v_X8_countTold_4 : vc X P m_X8_countTold h K k_X8_countTold S (n + 1) 4 ls st μ = if 4 ∈ S then mAt X m_X8_countTold h K 4 ls st μ else bb X P m_X8_countTold h K (vc X P m_X8_countTold h K k_X8_countTold S n) s_X8_countTold_4 ls st μ := by rw [vc_s, t_X8_countTold_4]
theorem w_X8_countTold_19 : bb X P m_X8_countTold h K J s_X8_countTold_19 ls st μ = bb X P m_X8_countTold h K J ((19, .iinc 2 1, 3, 2, 0, 0, .inl (nI 1), []) ::
  (22, .goto (-18), 3, 4, 0, 0, .inl 0, []) :: s_X8_countTold_25) ls st μ := by rw [s_X8_countTold_19]
theorem v_X8_countTold_19 : vc X P m_X8_countTold h K k_X8_countTold S (n + 1) 19 ls st μ = if 19 ∈ S then mAt X m_X8_countTold h K 19 ls st μ else bb X P m_X8_countTold h K (vc X P m_X8_countTold h K k_X8_countTold S n) s_X8_countTold_19 ls st μ := by rw [vc_s, t_X8_countTold_19]
theorem w_X8_countTold_25 : bb X P m_X8_countTold h K J s_X8_countTold_25 ls st μ = bb X P m_X8_countTold h K J ((25, .iload_n 1, 1, 1, 0, 0, .inl 0, []) ::
  (26, .ireturn, 1, 0, 0, 0, .inl 0, []) :: []) ls st μ := by rw [s_X8_countTold_25]
theorem v_X8_countTold_25 : vc X P m_X8_countTold h K k_X8_countTold S (n + 1) 25 ls st μ = if 25 ∈ S then mAt X m_X8_countTold h K 25 ls st μ else bb X P m_X8_countTold h K (vc X P m_X8_countTold h K k_X8_countTold S n) s_X8_countTold_25 ls st μ := by rw [vc_s, t_X8_countTold_25]
end
section
variable {X : mC} {P : mP} {h : Nat} {K : MV → Mem → Prop} {J : mJ} {ls : List (Nat × MV)} {st : List MV} {μ : Mem} {S : List Nat} {n : Nat}
theorem w_X8_dry_0 : bb X P m_X8_dry h K J s_X8_dry_0 ls st μ = bb X P m_X8_dry h K J ((0, .aload_n 0, 1, 0, 0, 0, .inl 0, []) ::
  (1, .iload_n 1, 1, 1, 0, 0, .inl 0, []) ::
  (2, .invokevirtual 130, 3, 106, 2, 1, .inl 0, [682, 7]) ::
  (5, .ifCond .eq 35, 3, 40, 0, 0, .inl 0, []) ::
  (8, .aload_n 0, 1, 0, 0, 0, .inl 0, []) ::
  (9, .iload_n 2, 1, 2, 0, 0, .inl 0, []) ::
  (10, .invokevirtual 163, 3, 102, 2, 1, .inl 0, [686, 7]) ::
  (13, .ifCond .eq 27, 3, 40, 0, 0, .inl 0, []) ::
  (16, .iload_n 3, 1, 3, 0, 0, .inl 0, []) ::
  (17, .invokestatic 271, 3, 76, 1, 1, .inl 0, [878]) ::
  (20, .ifCond .eq 20, 3, 40, 0, 0, .inl 0, []) ::
  (23, .aload_n 0, 1, 0, 0, 0, .inl 0, []) ::
  (24, .getfield 19, 3, 7, 1, 3, .inr (.inr (0, 0, 4)), [479]) ::
  (27, .getfield 160, 3, 0, 14, 3, .inr (.inr (16, 48, 11)), [287]) ::
  (30, .iload_n 1, 1, 1, 0, 0, .inl 0, []) ::
  (31, .bipush 6, 2, 0, 0, 0, .inl (nI 6), []) ::
  (33, .imul, 1, 0, 0, 0, .inl 0, []) ::
  (34, .iload_n 2, 1, 2, 0, 0, .inl 0, []) ::
  (35, .iadd, 1, 0, 0, 0, .inl 0, []) ::
  (36, .iaload, 1, 0, 0, 0, .inl 0, []) ::
  (37, .ifCond .ne 5, 3, 42, 0, 0, .inl 0, []) :: s_X8_dry_40) ls st μ := by rw [s_X8_dry_0]
theorem v_X8_dry_0 : vc X P m_X8_dry h K k_X8_dry S (n + 1) 0 ls st μ = if 0 ∈ S then mAt X m_X8_dry h K 0 ls st μ else bb X P m_X8_dry h K (vc X P m_X8_dry h K k_X8_dry S n) s_X8_dry_0 ls st μ := by rw [vc_s, t_X8_dry_0]
theorem w_X8_dry_40 : bb X P m_X8_dry h K J s_X8_dry_40 ls st μ = bb X P m_X8_dry h K J ((40, .iconst (-1), 1, 0, 0, 0, .inl (-1), []) ::
  (41, .ireturn, 1, 0, 0, 0, .inl 0, []) :: s_X8_dry_42) ls st μ := by rw [s_X8_dry_40]
theorem v_X8_dry_40 : vc X P m_X8_dry h K k_X8_dry S (n + 1) 40 ls st μ = if 40 ∈ S then mAt X m_X8_dry h K 40 ls st μ else bb X P m_X8_dry h K (vc X P m_X8_dry h K k_X8_dry S n) s_X8_dry_40 ls st μ := by rw [vc_s, t_X8_dry_40]
theorem w_X8_dry_42 : bb X P m_X8_dry h K J s_X8_dry_42 ls st μ = bb X P m_X8_dry h K J ((42, .aload_n 0, 1, 0, 0, 0, .inl 0, []) ::
  (43, .getfield 23, 3, 7, 2, 3, .inr (.inr (0, 0, 16)), [480]) ::
  (46, .aload_n 0, 1, 0, 0, 0, .inl 0, []) ::
  (47, .getfield 19, 3, 7, 1, 3, .inr (.inr (0, 0, 4)), [479]) ::
  (50, .invokevirtual 115, 3, 4, 2, 0, .inl 0, [659, 0]) ::
  (53, .aload_n 0, 1, 0, 0, 0, .inl 0, []) ::
  (54, .getfield 23, 3, 7, 2, 3, .inr (.inr (0, 0, 16)), [480]) ::
  (57, .getfield 160, 3, 0, 14, 3, .inr (.inr (16, 48, 11)), [287]) ::
  (60, .iload_n 1, 1, 1, 0, 0, .inl 0, []) ::
  (61, .bipush 6, 2, 0, 0, 0, .inl (nI 6), []) ::
  (63, .imul, 1, 0, 0, 0, .inl 0, []) ::
  (64, .iload_n 2, 1, 2, 0, 0, .inl 0, []) ::
  (65, .iadd, 1, 0, 0, 0, .inl 0, []) ::
  (66, .iconst 0, 1, 0, 0, 0, .inl (nI 0), []) ::
  (67, .iastore, 1, 0, 0, 0, .inl 0, []) ::
  (68, .aload_n 0, 1, 0, 0, 0, .inl 0, []) ::
  (69, .getfield 19, 3, 7, 1, 3, .inr (.inr (0, 0, 4)), [479]) ::
  (72, .invokevirtual 181, 3, 2, 1, 1, .inl 0, [728, 0]) ::
  (75, .istore 4, 2, 4, 0, 0, .inl 0, []) ::
  (77, .aload_n 0, 1, 0, 0, 0, .inl 0, []) ::
  (78, .aload_n 0, 1, 0, 0, 0, .inl 0, []) ::
  (79, .getfield 19, 3, 7, 1, 3, .inr (.inr (0, 0, 4)), [479]) ::
  (82, .iload 4, 2, 4, 0, 0, .inl 0, []) ::
  (84, .iload_n 3, 1, 3, 0, 0, .inl 0, []) ::
  (85, .invokevirtual 274, 3, 114, 4, 1, .inl 0, [881, 7]) ::
  (88, .aload_n 0, 1, 0, 0, 0, .inl 0, []) ::
  (89, .aload_n 0, 1, 0, 0, 0, .inl 0, []) ::
  (90, .getfield 23, 3, 7, 2, 3, .inr (.inr (0, 0, 16)), [480]) ::
  (93, .iload 4, 2, 4, 0, 0, .inl 0, []) ::
  (95, .iload_n 3, 1, 3, 0, 0, .inl 0, []) ::
  (96, .invokevirtual 274, 3, 114, 4, 1, .inl 0, [881, 7]) ::
  (99, .isub, 1, 0, 0, 0, .inl 0, []) ::
  (100, .ireturn, 1, 0, 0, 0, .inl 0, []) :: []) ls st μ := by rw [s_X8_dry_42]
theorem v_X8_dry_42 : vc X P m_X8_dry h K k_X8_dry S (n + 1) 42 ls st μ = if 42 ∈ S then mAt X m_X8_dry h K 42 ls st μ else bb X P m_X8_dry h K (vc X P m_X8_dry h K k_X8_dry S n) s_X8_dry_42 ls st μ := by rw [vc_s, t_X8_dry_42]
end
section
variable {X : mC} {P : mP} {h : Nat} {K : MV → Mem → Prop} {J : mJ} {ls : List (Nat × MV)} {st : List MV} {μ : Mem} {S : List Nat} {n : Nat}
theorem w_X8_end_0 : bb X P m_X8_end h K J s_X8_end_0 ls st μ = bb X P m_X8_end h K J ((0, .iload_n 1, 1, 1, 0, 0, .inl 0, []) ::
  (1, .ifCond .lt 14, 3, 15, 0, 0, .inl 0, []) ::
  (4, .iload_n 1, 1, 1, 0, 0, .inl 0, []) ::
  (5, .aload_n 0, 1, 0, 0, 0, .inl 0, []) ::
  (6, .getfield 12, 3, 7, 0, 3, .inr (.inr (5, 0, 1)), [478]) ::
  (9, .getfield 102, 3, 5, 2, 0, .inl 0, [189]) ::
  (12, .if_icmp .le 5, 3, 17, 0, 0, .inl 0, []) :: s_X8_end_15) ls st μ := by rw [s_X8_end_0]
theorem v_X8_end_0 : vc X P m_X8_end h K k_X8_end S (n + 1) 0 ls st μ = if 0 ∈ S then mAt X m_X8_end h K 0 ls st μ else bb X P m_X8_end h K (vc X P m_X8_end h K k_X8_end S n) s_X8_end_0 ls st μ := by rw [vc_s, t_X8_end_0]
theorem w_X8_end_15 : bb X P m_X8_end h K J s_X8_end_15 ls st μ = bb X P m_X8_end h K J ((15, .iconst 0, 1, 0, 0, 0, .inl (nI 0), []) ::
  (16, .ireturn, 1, 1, 0, 0, .inl 0, []) :: s_X8_end_17) ls st μ := by rw [s_X8_end_15]
theorem v_X8_end_15 : vc X P m_X8_end h K k_X8_end S (n + 1) 15 ls st μ = if 15 ∈ S then mAt X m_X8_end h K 15 ls st μ else bb X P m_X8_end h K (vc X P m_X8_end h K k_X8_end S n) s_X8_end_15 ls st μ := by rw [vc_s, t_X8_end_15]
theorem w_X8_end_17 : bb X P m_X8_end h K J s_X8_end_17 ls st μ = bb X P m_X8_end h K J ((17, .aload_n 0, 1, 0, 0, 0, .inl 0, []) ::
  (18, .getfield 12, 3, 7, 0, 3, .inr (.inr (5, 0, 1)), [478]) ::
  (21, .iload_n 1, 1, 1, 0, 0, .inl 0, []) ::
  (22, .putfield 102, 3, 5, 2, 0, .inl 0, [189]) ::
  (25, .iconst 1, 1, 0, 0, 0, .inl (nI 1), []) ::
  (26, .ireturn, 1, 1, 0, 0, .inl 0, []) :: []) ls st μ := by rw [s_X8_end_17]
theorem v_X8_end_17 : vc X P m_X8_end h K k_X8_end S (n + 1) 17 ls st μ = if 17 ∈ S then mAt X m_X8_end h K 17 ls st μ else bb X P m_X8_end h K (vc X P m_X8_end h K k_X8_end S n) s_X8_end_17 ls st μ := by rw [vc_s, t_X8_end_17]
end
section
variable {X : mC} {P : mP} {h : Nat} {K : MV → Mem → Prop} {J : mJ} {ls : List (Nat × MV)} {st : List MV} {μ : Mem} {S : List Nat} {n : Nat}
theorem w_X8_exchanged_0 : bb X P m_X8_exchanged h K J s_X8_exchanged_0 ls st μ = bb X P m_X8_exchanged h K J ((0, .iload_n 1, 1, 1, 0, 0, .inl 0, []) ::
  (1, .invokestatic 271, 3, 76, 1, 1, .inl 0, [878]) ::
  (4, .ifCond .ne 5, 3, 9, 0, 0, .inl 0, []) ::
  (7, .iconst (-1), 1, 0, 0, 0, .inl (-1), []) ::
  (8, .ireturn, 1, 0, 0, 0, .inl 0, []) :: s_X8_exchanged_9) ls st μ := by rw [s_X8_exchanged_0]
theorem v_X8_exchanged_0 : vc X P m_X8_exchanged h K k_X8_exchanged S (n + 1) 0 ls st μ = if 0 ∈ S then mAt X m_X8_exchanged h K 0 ls st μ else bb X P m_X8_exchanged h K (vc X P m_X8_exchanged h K k_X8_exchanged S n) s_X8_exchanged_0 ls st μ := by rw [vc_s, t_X8_exchanged_0]
theorem w_X8_exchanged_9 : bb X P m_X8_exchanged h K J s_X8_exchanged_9 ls st μ = bb X P m_X8_exchanged h K J ((9, .aload_n 0, 1, 0, 0, 0, .inl 0, []) ::
  (10, .getfield 23, 3, 7, 2, 3, .inr (.inr (0, 0, 16)), [480]) ::
  (13, .aload_n 0, 1, 0, 0, 0, .inl 0, []) ::
  (14, .getfield 19, 3, 7, 1, 3, .inr (.inr (0, 0, 4)), [479]) ::
  (17, .invokevirtual 115, 3, 4, 2, 0, .inl 0, [659, 0]) ::
  (20, .iconst (-1), 1, 0, 0, 0, .inl (-1), []) ::
  (21, .istore_n 2, 1, 2, 0, 0, .inl 0, []) ::
  (22, .iconst (-1), 1, 0, 0, 0, .inl (-1), []) ::
  (23, .istore_n 3, 1, 3, 0, 0, .inl 0, []) ::
  (24, .iconst 0, 1, 0, 0, 0, .inl (nI 0), []) ::
  (25, .istore 4, 2, 4, 0, 0, .inl 0, []) :: s_X8_exchanged_27) ls st μ := by rw [s_X8_exchanged_9]
theorem v_X8_exchanged_9 : vc X P m_X8_exchanged h K k_X8_exchanged S (n + 1) 9 ls st μ = if 9 ∈ S then mAt X m_X8_exchanged h K 9 ls st μ else bb X P m_X8_exchanged h K (vc X P m_X8_exchanged h K k_X8_exchanged S n) s_X8_exchanged_9 ls st μ := by rw [vc_s, t_X8_exchanged_9]
theorem w_X8_exchanged_27 : bb X P m_X8_exchanged h K J s_X8_exchanged_27 ls st μ = bb X P m_X8_exchanged h K J ((27, .iload 4, 2, 4, 0, 0, .inl 0, []) ::
  (29, .iconst 1, 1, 0, 0, 0, .inl (nI 1), []) ::
  (30, .iadd, 1, 0, 0, 0, .inl 0, []) ::
  (31, .aload_n 0, 1, 0, 0, 0, .inl 0, []) ::
  (32, .getfield 19, 3, 7, 1, 3, .inr (.inr (0, 0, 4)), [479]) ::
  (35, .getfield 175, 3, 0, 1, 0, .inl 0, [249]) ::
  (38, .if_icmp .ge 57, 3, 95, 0, 0, .inl 0, []) ::
  (41, .aload_n 0, 1, 0, 0, 0, .inl 0, []) ::
  (42, .getfield 23, 3, 7, 2, 3, .inr (.inr (0, 0, 16)), [480]) ::
  (45, .iload 4, 2, 4, 0, 0, .inl 0, []) ::
  (47, .invokevirtual 329, 3, 6, 2, 0, .inl 0, [990, 0]) ::
  (50, .aload_n 0, 1, 0, 0, 0, .inl 0, []) ::
  (51, .aload_n 0, 1, 0, 0, 0, .inl 0, []) ::
  (52, .getfield 23, 3, 7, 2, 3, .inr (.inr (0, 0, 16)), [480]) ::
  (55, .aload_n 0, 1, 0, 0, 0, .inl 0, []) ::
  (56, .getfield 19, 3, 7, 1, 3, .inr (.inr (0, 0, 4)), [479]) ::
  (59, .invokevirtual 181, 3, 2, 1, 1, .inl 0, [728, 0]) ::
  (62, .iload_n 1, 1, 1, 0, 0, .inl 0, []) ::
  (63, .invokevirtual 274, 3, 114, 4, 1, .inl 0, [881, 7]) ::
  (66, .istore 5, 2, 5, 0, 0, .inl 0, []) ::
  (68, .aload_n 0, 1, 0, 0, 0, .inl 0, []) ::
  (69, .getfield 23, 3, 7, 2, 3, .inr (.inr (0, 0, 16)), [480]) ::
  (72, .iload 4, 2, 4, 0, 0, .inl 0, []) ::
  (74, .invokevirtual 329, 3, 6, 2, 0, .inl 0, [990, 0]) ::
  (77, .iload 5, 2, 5, 0, 0, .inl 0, []) ::
  (79, .iload_n 3, 1, 3, 0, 0, .inl 0, []) ::
  (80, .if_icmp .le 9, 3, 89, 0, 0, .inl 0, []) ::
  (83, .iload 5, 2, 5, 0, 0, .inl 0, []) ::
  (85, .istore_n 3, 1, 3, 0, 0, .inl 0, []) ::
  (86, .iload 4, 2, 4, 0, 0, .inl 0, []) ::
  (88, .istore_n 2, 1, 2, 0, 0, .inl 0, []) :: s_X8_exchanged_89) ls st μ := by rw [s_X8_exchanged_27]
theorem v_X8_exchanged_27 : vc X P m_X8_exchanged h K k_X8_exchanged S (n + 1) 27 ls st μ = if 27 ∈ S then mAt X m_X8_exchanged h K 27 ls st μ else bb X P m_X8_exchanged h K (vc X P m_X8_exchanged h K k_X8_exchanged S n) s_X8_exchanged_27 ls st μ := by rw [vc_s, t_X8_exchanged_27]
theorem w_X8_exchanged_89 : bb X P m_X8_exchanged h K J s_X8_exchanged_89 ls st μ = bb X P m_X8_exchanged h K J ((89, .iinc 4 1, 3, 4, 0, 0, .inl (nI 1), []) ::
  (92, .goto (-65), 3, 27, 0, 0, .inl 0, []) :: s_X8_exchanged_95) ls st μ := by rw [s_X8_exchanged_89]
theorem v_X8_exchanged_89 : vc X P m_X8_exchanged h K k_X8_exchanged S (n + 1) 89 ls st μ = if 89 ∈ S then mAt X m_X8_exchanged h K 89 ls st μ else bb X P m_X8_exchanged h K (vc X P m_X8_exchanged h K k_X8_exchanged S n) s_X8_exchanged_89 ls st μ := by rw [vc_s, t_X8_exchanged_89]
theorem w_X8_exchanged_95 : bb X P m_X8_exchanged h K J s_X8_exchanged_95 ls st μ = bb X P m_X8_exchanged h K J ((95, .iload_n 2, 1, 2, 0, 0, .inl 0, []) ::
  (96, .ireturn, 1, 0, 0, 0, .inl 0, []) :: []) ls st μ := by rw [s_X8_exchanged_95]
theorem v_X8_exchanged_95 : vc X P m_X8_exchanged h K k_X8_exchanged S (n + 1) 95 ls st μ = if 95 ∈ S then mAt X m_X8_exchanged h K 95 ls st μ else bb X P m_X8_exchanged h K (vc X P m_X8_exchanged h K k_X8_exchanged S n) s_X8_exchanged_95 ls st μ := by rw [vc_s, t_X8_exchanged_95]
end
section
variable {X : mC} {P : mP} {h : Nat} {K : MV → Mem → Prop} {J : mJ} {ls : List (Nat × MV)} {st : List MV} {μ : Mem} {S : List Nat} {n : Nat}
theorem w_X8_falls_0 : bb X P m_X8_falls h K J s_X8_falls_0 ls st μ = bb X P m_X8_falls h K J ((0, .aload_n 0, 1, 0, 0, 0, .inl 0, []) ::
  (1, .iload_n 1, 1, 1, 0, 0, .inl 0, []) ::
  (2, .invokevirtual 130, 3, 106, 2, 1, .inl 0, [682, 7]) ::
  (5, .ifCond .ne 5, 3, 10, 0, 0, .inl 0, []) ::
  (8, .iconst (-1), 1, 0, 0, 0, .inl (-1), []) ::
  (9, .ireturn, 1, 0, 0, 0, .inl 0, []) :: s_X8_falls_10) ls st μ := by rw [s_X8_falls_0]
theorem v_X8_falls_0 : vc X P m_X8_falls h K k_X8_falls S (n + 1) 0 ls st μ = if 0 ∈ S then mAt X m_X8_falls h K 0 ls st μ else bb X P m_X8_falls h K (vc X P m_X8_falls h K k_X8_falls S n) s_X8_falls_0 ls st μ := by rw [vc_s, t_X8_falls_0]
theorem w_X8_falls_10 : bb X P m_X8_falls h K J s_X8_falls_10 ls st μ = bb X P m_X8_falls h K J ((10, .aload_n 0, 1, 0, 0, 0, .inl 0, []) ::
  (11, .getfield 19, 3, 7, 1, 3, .inr (.inr (0, 0, 4)), [479]) ::
  (14, .invokevirtual 181, 3, 2, 1, 1, .inl 0, [728, 0]) ::
  (17, .istore_n 2, 1, 2, 0, 0, .inl 0, []) ::
  (18, .aload_n 0, 1, 0, 0, 0, .inl 0, []) ::
  (19, .iload_n 2, 1, 2, 0, 0, .inl 0, []) ::
  (20, .invokevirtual 315, 3, 99, 2, 1, .inl 0, [945, 7]) ::
  (23, .istore_n 3, 1, 3, 0, 0, .inl 0, []) ::
  (24, .iload_n 3, 1, 3, 0, 0, .inl 0, []) ::
  (25, .iload_n 1, 1, 1, 0, 0, .inl 0, []) ::
  (26, .ishr, 1, 0, 0, 0, .inl 0, []) ::
  (27, .iconst 1, 1, 0, 0, 0, .inl (nI 1), []) ::
  (28, .iand, 1, 0, 0, 0, .inl 0, []) ::
  (29, .ifCond .ne 5, 3, 34, 0, 0, .inl 0, []) ::
  (32, .iconst (-1), 1, 0, 0, 0, .inl (-1), []) ::
  (33, .ireturn, 1, 0, 0, 0, .inl 0, []) :: s_X8_falls_34) ls st μ := by rw [s_X8_falls_10]
theorem v_X8_falls_10 : vc X P m_X8_falls h K k_X8_falls S (n + 1) 10 ls st μ = if 10 ∈ S then mAt X m_X8_falls h K 10 ls st μ else bb X P m_X8_falls h K (vc X P m_X8_falls h K k_X8_falls S n) s_X8_falls_10 ls st μ := by rw [vc_s, t_X8_falls_10]
theorem w_X8_falls_34 : bb X P m_X8_falls h K J s_X8_falls_34 ls st μ = bb X P m_X8_falls h K J ((34, .aload_n 0, 1, 0, 0, 0, .inl 0, []) ::
  (35, .iload_n 2, 1, 2, 0, 0, .inl 0, []) ::
  (36, .iconst 1, 1, 0, 0, 0, .inl (nI 1), []) ::
  (37, .iload_n 1, 1, 1, 0, 0, .inl 0, []) ::
  (38, .ishl, 1, 0, 0, 0, .inl 0, []) ::
  (39, .iconst (-1), 1, 0, 0, 0, .inl (-1), []) ::
  (40, .ixor, 1, 0, 0, 0, .inl 0, []) ::
  (41, .iand, 1, 0, 0, 0, .inl 0, []) ::
  (42, .invokevirtual 315, 3, 99, 2, 1, .inl 0, [945, 7]) ::
  (45, .istore 4, 2, 4, 0, 0, .inl 0, []) ::
  (47, .iload_n 3, 1, 3, 0, 0, .inl 0, []) ::
  (48, .iconst 1, 1, 0, 0, 0, .inl (nI 1), []) ::
  (49, .iload_n 1, 1, 1, 0, 0, .inl 0, []) ::
  (50, .ishl, 1, 0, 0, 0, .inl 0, []) ::
  (51, .iconst (-1), 1, 0, 0, 0, .inl (-1), []) ::
  (52, .ixor, 1, 0, 0, 0, .inl 0, []) ::
  (53, .iand, 1, 0, 0, 0, .inl 0, []) ::
  (54, .iload 4, 2, 4, 0, 0, .inl 0, []) ::
  (56, .iconst (-1), 1, 0, 0, 0, .inl (-1), []) ::
  (57, .ixor, 1, 0, 0, 0, .inl 0, []) ::
  (58, .iand, 1, 0, 0, 0, .inl 0, []) ::
  (59, .ireturn, 1, 0, 0, 0, .inl 0, []) :: []) ls st μ := by rw [s_X8_falls_34]
theorem v_X8_falls_34 : vc X P m_X8_falls h K k_X8_falls S (n + 1) 34 ls st μ = if 34 ∈ S then mAt X m_X8_falls h K 34 ls st μ else bb X P m_X8_falls h K (vc X P m_X8_falls h K k_X8_falls S n) s_X8_falls_34 ls st μ := by rw [vc_s, t_X8_falls_34]
end
section
variable {X : mC} {P : mP} {h : Nat} {K : MV → Mem → Prop} {J : mJ} {ls : List (Nat × MV)} {st : List MV} {μ : Mem} {S : List Nat} {n : Nat}
theorem w_X8_fault_0 : bb X P m_X8_fault h K J s_X8_fault_0 ls st μ = bb X P m_X8_fault h K J ((0, .aload_n 0, 1, 0, 0, 0, .inl 0, []) ::
  (1, .getfield 91, 3, 7, 17, 0, .inl 0, [495]) ::
  (4, .ireturn, 1, 0, 0, 0, .inl 0, []) :: []) ls st μ := by rw [s_X8_fault_0]
theorem v_X8_fault_0 : vc X P m_X8_fault h K k_X8_fault S (n + 1) 0 ls st μ = if 0 ∈ S then mAt X m_X8_fault h K 0 ls st μ else bb X P m_X8_fault h K (vc X P m_X8_fault h K k_X8_fault S n) s_X8_fault_0 ls st μ := by rw [vc_s, t_X8_fault_0]
end
section
variable {X : mC} {P : mP} {h : Nat} {K : MV → Mem → Prop} {J : mJ} {ls : List (Nat × MV)} {st : List MV} {μ : Mem} {S : List Nat} {n : Nat}
theorem w_X8_fed_0 : bb X P m_X8_fed h K J s_X8_fed_0 ls st μ = bb X P m_X8_fed h K J ((0, .iload_n 1, 1, 1, 0, 0, .inl 0, []) ::
  (1, .ifCond .eq 11, 3, 12, 0, 0, .inl 0, []) ::
  (4, .aload_n 0, 1, 0, 0, 0, .inl 0, []) ::
  (5, .iload_n 1, 1, 1, 0, 0, .inl 0, []) ::
  (6, .invokevirtual 268, 3, 104, 2, 1, .inl 0, [874, 7]) ::
  (9, .ifCond .ne 5, 3, 14, 0, 0, .inl 0, []) :: s_X8_fed_12) ls st μ := by rw [s_X8_fed_0]
theorem v_X8_fed_0 : vc X P m_X8_fed h K k_X8_fed S (n + 1) 0 ls st μ = if 0 ∈ S then mAt X m_X8_fed h K 0 ls st μ else bb X P m_X8_fed h K (vc X P m_X8_fed h K k_X8_fed S n) s_X8_fed_0 ls st μ := by rw [vc_s, t_X8_fed_0]
theorem w_X8_fed_12 : bb X P m_X8_fed h K J s_X8_fed_12 ls st μ = bb X P m_X8_fed h K J ((12, .iconst (-1), 1, 0, 0, 0, .inl (-1), []) ::
  (13, .ireturn, 1, 0, 0, 0, .inl 0, []) :: s_X8_fed_14) ls st μ := by rw [s_X8_fed_12]
theorem v_X8_fed_12 : vc X P m_X8_fed h K k_X8_fed S (n + 1) 12 ls st μ = if 12 ∈ S then mAt X m_X8_fed h K 12 ls st μ else bb X P m_X8_fed h K (vc X P m_X8_fed h K k_X8_fed S n) s_X8_fed_12 ls st μ := by rw [vc_s, t_X8_fed_12]
theorem w_X8_fed_14 : bb X P m_X8_fed h K J s_X8_fed_14 ls st μ = bb X P m_X8_fed h K J ((14, .aload_n 0, 1, 0, 0, 0, .inl 0, []) ::
  (15, .getfield 53, 3, 7, 8, 3, .inr (.inr (3, 0, 62)), [486]) ::
  (18, .aload_n 0, 1, 0, 0, 0, .inl 0, []) ::
  (19, .getfield 19, 3, 7, 1, 3, .inr (.inr (0, 0, 4)), [479]) ::
  (22, .iload_n 1, 1, 1, 0, 0, .inl 0, []) ::
  (23, .invokevirtual 311, 3, 38, 3, 1, .inl 0, [930, 3]) ::
  (26, .ifCond .eq 5, 3, 31, 0, 0, .inl 0, []) ::
  (29, .iconst 0, 1, 0, 0, 0, .inl (nI 0), []) ::
  (30, .ireturn, 1, 0, 0, 0, .inl 0, []) :: s_X8_fed_31) ls st μ := by rw [s_X8_fed_14]
theorem v_X8_fed_14 : vc X P m_X8_fed h K k_X8_fed S (n + 1) 14 ls st μ = if 14 ∈ S then mAt X m_X8_fed h K 14 ls st μ else bb X P m_X8_fed h K (vc X P m_X8_fed h K k_X8_fed S n) s_X8_fed_14 ls st μ := by rw [vc_s, t_X8_fed_14]
theorem w_X8_fed_31 : bb X P m_X8_fed h K J s_X8_fed_31 ls st μ = bb X P m_X8_fed h K J ((31, .aload_n 0, 1, 0, 0, 0, .inl 0, []) ::
  (32, .getfield 23, 3, 7, 2, 3, .inr (.inr (0, 0, 16)), [480]) ::
  (35, .aload_n 0, 1, 0, 0, 0, .inl 0, []) ::
  (36, .getfield 19, 3, 7, 1, 3, .inr (.inr (0, 0, 4)), [479]) ::
  (39, .invokevirtual 115, 3, 4, 2, 0, .inl 0, [659, 0]) ::
  (42, .iload_n 1, 1, 1, 0, 0, .inl 0, []) ::
  (43, .invokestatic 318, 3, 95, 1, 1, .inl 0, [957]) ::
  (46, .bipush 6, 2, 0, 0, 0, .inl (nI 6), []) ::
  (48, .imul, 1, 0, 0, 0, .inl 0, []) ::
  (49, .istore_n 2, 1, 2, 0, 0, .inl 0, []) ::
  (50, .iconst 1, 1, 0, 0, 0, .inl (nI 1), []) ::
  (51, .istore_n 3, 1, 3, 0, 0, .inl 0, []) :: s_X8_fed_52) ls st μ := by rw [s_X8_fed_31]
theorem v_X8_fed_31 : vc X P m_X8_fed h K k_X8_fed S (n + 1) 31 ls st μ = if 31 ∈ S then mAt X m_X8_fed h K 31 ls st μ else bb X P m_X8_fed h K (vc X P m_X8_fed h K k_X8_fed S n) s_X8_fed_31 ls st μ := by rw [vc_s, t_X8_fed_31]
theorem w_X8_fed_52 : bb X P m_X8_fed h K J s_X8_fed_52 ls st μ = bb X P m_X8_fed h K J ((52, .iload_n 3, 1, 3, 0, 0, .inl 0, []) ::
  (53, .bipush 99, 2, 0, 0, 0, .inl (nI 99), []) ::
  (55, .if_icmp .gt 107, 3, 162, 0, 0, .inl 0, []) ::
  (58, .iconst 0, 1, 0, 0, 0, .inl (nI 0), []) ::
  (59, .istore 4, 2, 4, 0, 0, .inl 0, []) :: s_X8_fed_61) ls st μ := by rw [s_X8_fed_52]
theorem v_X8_fed_52 : vc X P m_X8_fed h K k_X8_fed S (n + 1) 52 ls st μ = if 52 ∈ S then mAt X m_X8_fed h K 52 ls st μ else bb X P m_X8_fed h K (vc X P m_X8_fed h K k_X8_fed S n) s_X8_fed_52 ls st μ := by rw [vc_s, t_X8_fed_52]
theorem w_X8_fed_61 : bb X P m_X8_fed h K J s_X8_fed_61 ls st μ = bb X P m_X8_fed h K J ((61, .iload 4, 2, 4, 0, 0, .inl 0, []) ::
  (63, .aload_n 0, 1, 0, 0, 0, .inl 0, []) ::
  (64, .getfield 19, 3, 7, 1, 3, .inr (.inr (0, 0, 4)), [479]) ::
  (67, .getfield 178, 3, 0, 0, 0, .inl 0, [246]) ::
  (70, .if_icmp .ge 86, 3, 156, 0, 0, .inl 0, []) ::
  (73, .aload_n 0, 1, 0, 0, 0, .inl 0, []) ::
  (74, .getfield 23, 3, 7, 2, 3, .inr (.inr (0, 0, 16)), [480]) ::
  (77, .getfield 160, 3, 0, 14, 3, .inr (.inr (16, 48, 11)), [287]) ::
  (80, .iload_n 2, 1, 2, 0, 0, .inl 0, []) ::
  (81, .iload 4, 2, 4, 0, 0, .inl 0, []) ::
  (83, .iadd, 1, 0, 0, 0, .inl 0, []) ::
  (84, .aload_n 0, 1, 0, 0, 0, .inl 0, []) ::
  (85, .getfield 19, 3, 7, 1, 3, .inr (.inr (0, 0, 4)), [479]) ::
  (88, .getfield 160, 3, 0, 14, 3, .inr (.inr (16, 48, 11)), [287]) ::
  (91, .iload_n 2, 1, 2, 0, 0, .inl 0, []) ::
  (92, .iload 4, 2, 4, 0, 0, .inl 0, []) ::
  (94, .iadd, 1, 0, 0, 0, .inl 0, []) ::
  (95, .iaload, 1, 0, 0, 0, .inl 0, []) ::
  (96, .iload_n 3, 1, 3, 0, 0, .inl 0, []) ::
  (97, .iadd, 1, 0, 0, 0, .inl 0, []) ::
  (98, .iastore, 1, 0, 0, 0, .inl 0, []) ::
  (99, .aload_n 0, 1, 0, 0, 0, .inl 0, []) ::
  (100, .getfield 53, 3, 7, 8, 3, .inr (.inr (3, 0, 62)), [486]) ::
  (103, .aload_n 0, 1, 0, 0, 0, .inl 0, []) ::
  (104, .getfield 23, 3, 7, 2, 3, .inr (.inr (0, 0, 16)), [480]) ::
  (107, .iload_n 1, 1, 1, 0, 0, .inl 0, []) ::
  (108, .invokevirtual 311, 3, 38, 3, 1, .inl 0, [930, 3]) ::
  (111, .istore 5, 2, 5, 0, 0, .inl 0, []) ::
  (113, .aload_n 0, 1, 0, 0, 0, .inl 0, []) ::
  (114, .getfield 23, 3, 7, 2, 3, .inr (.inr (0, 0, 16)), [480]) ::
  (117, .getfield 160, 3, 0, 14, 3, .inr (.inr (16, 48, 11)), [287]) ::
  (120, .iload_n 2, 1, 2, 0, 0, .inl 0, []) ::
  (121, .iload 4, 2, 4, 0, 0, .inl 0, []) ::
  (123, .iadd, 1, 0, 0, 0, .inl 0, []) ::
  (124, .aload_n 0, 1, 0, 0, 0, .inl 0, []) ::
  (125, .getfield 19, 3, 7, 1, 3, .inr (.inr (0, 0, 4)), [479]) ::
  (128, .getfield 160, 3, 0, 14, 3, .inr (.inr (16, 48, 11)), [287]) ::
  (131, .iload_n 2, 1, 2, 0, 0, .inl 0, []) ::
  (132, .iload 4, 2, 4, 0, 0, .inl 0, []) ::
  (134, .iadd, 1, 0, 0, 0, .inl 0, []) ::
  (135, .iaload, 1, 0, 0, 0, .inl 0, []) ::
  (136, .iastore, 1, 0, 0, 0, .inl 0, []) ::
  (137, .iload 5, 2, 5, 0, 0, .inl 0, []) ::
  (139, .ifCond .eq 11, 3, 150, 0, 0, .inl 0, []) ::
  (142, .bipush 10, 2, 0, 0, 0, .inl (nI 10), []) ::
  (144, .iload_n 3, 1, 3, 0, 0, .inl 0, []) ::
  (145, .imul, 1, 0, 0, 0, .inl 0, []) ::
  (146, .iload 4, 2, 4, 0, 0, .inl 0, []) ::
  (148, .iadd, 1, 0, 0, 0, .inl 0, []) ::
  (149, .ireturn, 1, 0, 0, 0, .inl 0, []) :: s_X8_fed_150) ls st μ := by rw [s_X8_fed_61]
theorem v_X8_fed_61 : vc X P m_X8_fed h K k_X8_fed S (n + 1) 61 ls st μ = if 61 ∈ S then mAt X m_X8_fed h K 61 ls st μ else bb X P m_X8_fed h K (vc X P m_X8_fed h K k_X8_fed S n) s_X8_fed_61 ls st μ := by rw [vc_s, t_X8_fed_61]
theorem w_X8_fed_150 : bb X P m_X8_fed h K J s_X8_fed_150 ls st μ = bb X P m_X8_fed h K J ((150, .iinc 4 1, 3, 4, 0, 0, .inl (nI 1), []) ::
  (153, .goto (-92), 3, 61, 0, 0, .inl 0, []) :: s_X8_fed_156) ls st μ := by rw [s_X8_fed_150]
theorem v_X8_fed_150 : vc X P m_X8_fed h K k_X8_fed S (n + 1) 150 ls st μ = if 150 ∈ S then mAt X m_X8_fed h K 150 ls st μ else bb X P m_X8_fed h K (vc X P m_X8_fed h K k_X8_fed S n) s_X8_fed_150 ls st μ := by rw [vc_s, t_X8_fed_150]
theorem w_X8_fed_156 : bb X P m_X8_fed h K J s_X8_fed_156 ls st μ = bb X P m_X8_fed h K J ((156, .iinc 3 1, 3, 3, 0, 0, .inl (nI 1), []) ::
  (159, .goto (-107), 3, 52, 0, 0, .inl 0, []) :: s_X8_fed_162) ls st μ := by rw [s_X8_fed_156]
theorem v_X8_fed_156 : vc X P m_X8_fed h K k_X8_fed S (n + 1) 156 ls st μ = if 156 ∈ S then mAt X m_X8_fed h K 156 ls st μ else bb X P m_X8_fed h K (vc X P m_X8_fed h K k_X8_fed S n) s_X8_fed_156 ls st μ := by rw [vc_s, t_X8_fed_156]
theorem w_X8_fed_162 : bb X P m_X8_fed h K J s_X8_fed_162 ls st μ = bb X P m_X8_fed h K J ((162, .iconst (-1), 1, 0, 0, 0, .inl (-1), []) ::
  (163, .ireturn, 1, 0, 0, 0, .inl 0, []) :: []) ls st μ := by rw [s_X8_fed_162]
theorem v_X8_fed_162 : vc X P m_X8_fed h K k_X8_fed S (n + 1) 162 ls st μ = if 162 ∈ S then mAt X m_X8_fed h K 162 ls st μ else bb X P m_X8_fed h K (vc X P m_X8_fed h K k_X8_fed S n) s_X8_fed_162 ls st μ := by rw [vc_s, t_X8_fed_162]
end
section
variable {X : mC} {P : mP} {h : Nat} {K : MV → Mem → Prop} {J : mJ} {ls : List (Nat × MV)} {st : List MV} {μ : Mem} {S : List Nat} {n : Nat}
theorem w_X8_feed_0 : bb X P m_X8_feed h K J s_X8_feed_0 ls st μ = bb X P m_X8_feed h K J ((0, .aload_n 0, 1, 0, 0, 0, .inl 0, []) ::
  (1, .getfield 12, 3, 7, 0, 3, .inr (.inr (5, 0, 1)), [478]) ::
  (4, .invokevirtual 94, 3, 63, 1, 1, .inl 0, [538, 5]) ::
  (7, .ifCond .ne 5, 3, 12, 0, 0, .inl 0, []) ::
  (10, .iconst (-1), 1, 0, 0, 0, .inl (-1), []) ::
  (11, .ireturn, 1, 0, 0, 0, .inl 0, []) :: s_X8_feed_12) ls st μ := by rw [s_X8_feed_0]
theorem v_X8_feed_0 : vc X P m_X8_feed h K k_X8_feed S (n + 1) 0 ls st μ = if 0 ∈ S then mAt X m_X8_feed h K 0 ls st μ else bb X P m_X8_feed h K (vc X P m_X8_feed h K k_X8_feed S n) s_X8_feed_0 ls st μ := by rw [vc_s, t_X8_feed_0]
theorem w_X8_feed_12 : bb X P m_X8_feed h K J s_X8_feed_12 ls st μ = bb X P m_X8_feed h K J ((12, .aload_n 0, 1, 0, 0, 0, .inl 0, []) ::
  (13, .getfield 12, 3, 7, 0, 3, .inr (.inr (5, 0, 1)), [478]) ::
  (16, .iload_n 1, 1, 1, 0, 0, .inl 0, []) ::
  (17, .invokevirtual 98, 3, 68, 2, 0, .inl 0, [542, 5]) ::
  (20, .aload_n 0, 1, 0, 0, 0, .inl 0, []) ::
  (21, .getfield 12, 3, 7, 0, 3, .inr (.inr (5, 0, 1)), [478]) ::
  (24, .iload_n 2, 1, 2, 0, 0, .inl 0, []) ::
  (25, .invokevirtual 98, 3, 68, 2, 0, .inl 0, [542, 5]) ::
  (28, .aload_n 0, 1, 0, 0, 0, .inl 0, []) ::
  (29, .getfield 12, 3, 7, 0, 3, .inr (.inr (5, 0, 1)), [478]) ::
  (32, .iload_n 3, 1, 3, 0, 0, .inl 0, []) ::
  (33, .invokevirtual 98, 3, 68, 2, 0, .inl 0, [542, 5]) ::
  (36, .aload_n 0, 1, 0, 0, 0, .inl 0, []) ::
  (37, .getfield 12, 3, 7, 0, 3, .inr (.inr (5, 0, 1)), [478]) ::
  (40, .iload 4, 2, 4, 0, 0, .inl 0, []) ::
  (42, .invokevirtual 98, 3, 68, 2, 0, .inl 0, [542, 5]) ::
  (45, .aload_n 0, 1, 0, 0, 0, .inl 0, []) ::
  (46, .getfield 12, 3, 7, 0, 3, .inr (.inr (5, 0, 1)), [478]) ::
  (49, .iload 5, 2, 5, 0, 0, .inl 0, []) ::
  (51, .invokevirtual 98, 3, 68, 2, 0, .inl 0, [542, 5]) ::
  (54, .aload_n 0, 1, 0, 0, 0, .inl 0, []) ::
  (55, .getfield 12, 3, 7, 0, 3, .inr (.inr (5, 0, 1)), [478]) ::
  (58, .getfield 102, 3, 5, 2, 0, .inl 0, [189]) ::
  (61, .ireturn, 1, 0, 0, 0, .inl 0, []) :: []) ls st μ := by rw [s_X8_feed_12]
theorem v_X8_feed_12 : vc X P m_X8_feed h K k_X8_feed S (n + 1) 12 ls st μ = if 12 ∈ S then mAt X m_X8_feed h K 12 ls st μ else bb X P m_X8_feed h K (vc X P m_X8_feed h K k_X8_feed S n) s_X8_feed_12 ls st μ := by rw [vc_s, t_X8_feed_12]
end
section
variable {X : mC} {P : mP} {h : Nat} {K : MV → Mem → Prop} {J : mJ} {ls : List (Nat × MV)} {st : List MV} {μ : Mem} {S : List Nat} {n : Nat}
theorem w_X8_firstHourOfPeriod_0 : bb X P m_X8_firstHourOfPeriod h K J s_X8_firstHourOfPeriod_0 ls st μ = bb X P m_X8_firstHourOfPeriod h K J ((0, .aload_n 0, 1, 0, 0, 0, .inl 0, []) ::
  (1, .getfield 53, 3, 7, 8, 3, .inr (.inr (3, 0, 62)), [486]) ::
  (4, .aload_n 0, 1, 0, 0, 0, .inl 0, []) ::
  (5, .getfield 19, 3, 7, 1, 3, .inr (.inr (0, 0, 4)), [479]) ::
  (8, .invokevirtual 185, 3, 44, 2, 0, .inl 0, [698, 3]) ::
  (11, .aload_n 0, 1, 0, 0, 0, .inl 0, []) ::
  (12, .getfield 53, 3, 7, 8, 3, .inr (.inr (3, 0, 62)), [486]) ::
  (15, .aload_n 0, 1, 0, 0, 0, .inl 0, []) ::
  (16, .getfield 19, 3, 7, 1, 3, .inr (.inr (0, 0, 4)), [479]) ::
  (19, .aload_n 0, 1, 0, 0, 0, .inl 0, []) ::
  (20, .getfield 19, 3, 7, 1, 3, .inr (.inr (0, 0, 4)), [479]) ::
  (23, .invokevirtual 181, 3, 2, 1, 1, .inl 0, [728, 0]) ::
  (26, .iload_n 1, 1, 1, 0, 0, .inl 0, []) ::
  (27, .invokevirtual 254, 3, 43, 4, 0, .inl 0, [845, 3]) ::
  (30, .aload_n 0, 1, 0, 0, 0, .inl 0, []) ::
  (31, .getfield 56, 3, 7, 9, 3, .inr (.inr (3, 0, 74)), [487]) ::
  (34, .aload_n 0, 1, 0, 0, 0, .inl 0, []) ::
  (35, .getfield 19, 3, 7, 1, 3, .inr (.inr (0, 0, 4)), [479]) ::
  (38, .invokevirtual 185, 3, 44, 2, 0, .inl 0, [698, 3]) ::
  (41, .iconst 0, 1, 0, 0, 0, .inl (nI 0), []) ::
  (42, .istore_n 2, 1, 2, 0, 0, .inl 0, []) :: s_X8_firstHourOfPeriod_43) ls st μ := by rw [s_X8_firstHourOfPeriod_0]
theorem v_X8_firstHourOfPeriod_0 : vc X P m_X8_firstHourOfPeriod h K k_X8_firstHourOfPeriod S (n + 1) 0 ls st μ = if 0 ∈ S then mAt X m_X8_firstHourOfPeriod h K 0 ls st μ else bb X P m_X8_firstHourOfPeriod h K (vc X P m_X8_firstHourOfPeriod h K k_X8_firstHourOfPeriod S n) s_X8_firstHourOfPeriod_0 ls st μ := by rw [vc_s, t_X8_firstHourOfPeriod_0]
theorem w_X8_firstHourOfPeriod_43 : bb X P m_X8_firstHourOfPeriod h K J s_X8_firstHourOfPeriod_43 ls st μ = bb X P m_X8_firstHourOfPeriod h K J ((43, .iload_n 2, 1, 2, 0, 0, .inl 0, []) ::
  (44, .iload_n 1, 1, 1, 0, 0, .inl 0, []) ::
  (45, .iadd, 1, 0, 0, 0, .inl 0, []) ::
  (46, .sipush 200, 3, 0, 0, 0, .inl (nI 200), []) ::
  (49, .if_icmp .ge 61, 3, 110, 0, 0, .inl 0, []) ::
  (52, .aload_n 0, 1, 0, 0, 0, .inl 0, []) ::
  (53, .getfield 53, 3, 7, 8, 3, .inr (.inr (3, 0, 62)), [486]) ::
  (56, .aload_n 0, 1, 0, 0, 0, .inl 0, []) ::
  (57, .getfield 19, 3, 7, 1, 3, .inr (.inr (0, 0, 4)), [479]) ::
  (60, .aload_n 0, 1, 0, 0, 0, .inl 0, []) ::
  (61, .getfield 19, 3, 7, 1, 3, .inr (.inr (0, 0, 4)), [479]) ::
  (64, .invokevirtual 181, 3, 2, 1, 1, .inl 0, [728, 0]) ::
  (67, .invokevirtual 205, 3, 42, 3, 0, .inl 0, [736, 3]) ::
  (70, .aload_n 0, 1, 0, 0, 0, .inl 0, []) ::
  (71, .getfield 56, 3, 7, 9, 3, .inr (.inr (3, 0, 74)), [487]) ::
  (74, .aload_n 0, 1, 0, 0, 0, .inl 0, []) ::
  (75, .getfield 19, 3, 7, 1, 3, .inr (.inr (0, 0, 4)), [479]) ::
  (78, .aload_n 0, 1, 0, 0, 0, .inl 0, []) ::
  (79, .getfield 19, 3, 7, 1, 3, .inr (.inr (0, 0, 4)), [479]) ::
  (82, .invokevirtual 181, 3, 2, 1, 1, .inl 0, [728, 0]) ::
  (85, .invokevirtual 205, 3, 42, 3, 0, .inl 0, [736, 3]) ::
  (88, .aload_n 0, 1, 0, 0, 0, .inl 0, []) ::
  (89, .getfield 53, 3, 7, 8, 3, .inr (.inr (3, 0, 62)), [486]) ::
  (92, .aload_n 0, 1, 0, 0, 0, .inl 0, []) ::
  (93, .getfield 56, 3, 7, 9, 3, .inr (.inr (3, 0, 74)), [487]) ::
  (96, .invokevirtual 264, 3, 37, 2, 1, .inl 0, [862, 3]) ::
  (99, .ifCond .eq 5, 3, 104, 0, 0, .inl 0, []) ::
  (102, .iload_n 2, 1, 2, 0, 0, .inl 0, []) ::
  (103, .ireturn, 1, 0, 0, 0, .inl 0, []) :: s_X8_firstHourOfPeriod_104) ls st μ := by rw [s_X8_firstHourOfPeriod_43]
theorem v_X8_firstHourOfPeriod_43 : vc X P m_X8_firstHourOfPeriod h K k_X8_firstHourOfPeriod S (n + 1) 43 ls st μ = if 43 ∈ S then mAt X m_X8_firstHourOfPeriod h K 43 ls st μ else bb X P m_X8_firstHourOfPeriod h K (vc X P m_X8_firstHourOfPeriod h K k_X8_firstHourOfPeriod S n) s_X8_firstHourOfPeriod_43 ls st μ := by rw [vc_s, t_X8_firstHourOfPeriod_43]
theorem w_X8_firstHourOfPeriod_104 : bb X P m_X8_firstHourOfPeriod h K J s_X8_firstHourOfPeriod_104 ls st μ = bb X P m_X8_firstHourOfPeriod h K J ((104, .iinc 2 1, 3, 2, 0, 0, .inl (nI 1), []) ::
  (107, .goto (-64), 3, 43, 0, 0, .inl 0, []) :: s_X8_firstHourOfPeriod_110) ls st μ := by rw [s_X8_firstHourOfPeriod_104]
theorem v_X8_firstHourOfPeriod_104 : vc X P m_X8_firstHourOfPeriod h K k_X8_firstHourOfPeriod S (n + 1) 104 ls st μ = if 104 ∈ S then mAt X m_X8_firstHourOfPeriod h K 104 ls st μ else bb X P m_X8_firstHourOfPeriod h K (vc X P m_X8_firstHourOfPeriod h K k_X8_firstHourOfPeriod S n) s_X8_firstHourOfPeriod_104 ls st μ := by rw [vc_s, t_X8_firstHourOfPeriod_104]
theorem w_X8_firstHourOfPeriod_110 : bb X P m_X8_firstHourOfPeriod h K J s_X8_firstHourOfPeriod_110 ls st μ = bb X P m_X8_firstHourOfPeriod h K J ((110, .iconst (-1), 1, 0, 0, 0, .inl (-1), []) ::
  (111, .ireturn, 1, 0, 0, 0, .inl 0, []) :: []) ls st μ := by rw [s_X8_firstHourOfPeriod_110]
theorem v_X8_firstHourOfPeriod_110 : vc X P m_X8_firstHourOfPeriod h K k_X8_firstHourOfPeriod S (n + 1) 110 ls st μ = if 110 ∈ S then mAt X m_X8_firstHourOfPeriod h K 110 ls st μ else bb X P m_X8_firstHourOfPeriod h K (vc X P m_X8_firstHourOfPeriod h K k_X8_firstHourOfPeriod S n) s_X8_firstHourOfPeriod_110 ls st μ := by rw [vc_s, t_X8_firstHourOfPeriod_110]
end
section
variable {X : mC} {P : mP} {h : Nat} {K : MV → Mem → Prop} {J : mJ} {ls : List (Nat × MV)} {st : List MV} {μ : Mem} {S : List Nat} {n : Nat}
theorem w_X8_firstOf_0 : bb X P m_X8_firstOf h K J s_X8_firstOf_0 ls st μ = bb X P m_X8_firstOf h K J ((0, .iconst 0, 1, 0, 0, 0, .inl (nI 0), []) ::
  (1, .istore_n 1, 1, 1, 0, 0, .inl 0, []) :: s_X8_firstOf_2) ls st μ := by rw [s_X8_firstOf_0]
theorem v_X8_firstOf_0 : vc X P m_X8_firstOf h K k_X8_firstOf S (n + 1) 0 ls st μ = if 0 ∈ S then mAt X m_X8_firstOf h K 0 ls st μ else bb X P m_X8_firstOf h K (vc X P m_X8_firstOf h K k_X8_firstOf S n) s_X8_firstOf_0 ls st μ := by rw [vc_s, t_X8_firstOf_0]
theorem w_X8_firstOf_2 : bb X P m_X8_firstOf h K J s_X8_firstOf_2 ls st μ = bb X P m_X8_firstOf h K J ((2, .iload_n 1, 1, 1, 0, 0, .inl 0, []) ::
  (3, .bipush 8, 2, 0, 0, 0, .inl (nI 8), []) ::
  (5, .if_icmp .ge 20, 3, 25, 0, 0, .inl 0, []) ::
  (8, .iload_n 0, 1, 0, 0, 0, .inl 0, []) ::
  (9, .iload_n 1, 1, 1, 0, 0, .inl 0, []) ::
  (10, .ishr, 1, 0, 0, 0, .inl 0, []) ::
  (11, .iconst 1, 1, 0, 0, 0, .inl (nI 1), []) ::
  (12, .iand, 1, 0, 0, 0, .inl 0, []) ::
  (13, .iconst 1, 1, 0, 0, 0, .inl (nI 1), []) ::
  (14, .if_icmp .ne 5, 3, 19, 0, 0, .inl 0, []) ::
  (17, .iload_n 1, 1, 1, 0, 0, .inl 0, []) ::
  (18, .ireturn, 1, 0, 0, 0, .inl 0, []) :: s_X8_firstOf_19) ls st μ := by rw [s_X8_firstOf_2]
theorem v_X8_firstOf_2 : vc X P m_X8_firstOf h K k_X8_firstOf S (n + 1) 2 ls st μ = if 2 ∈ S then mAt X m_X8_firstOf h K 2 ls st μ else bb X P m_X8_firstOf h K (vc X P m_X8_firstOf h K k_X8_firstOf S n) s_X8_firstOf_2 ls st μ := by rw [vc_s, t_X8_firstOf_2]
theorem w_X8_firstOf_19 : bb X P m_X8_firstOf h K J s_X8_firstOf_19 ls st μ = bb X P m_X8_firstOf h K J ((19, .iinc 1 1, 3, 1, 0, 0, .inl (nI 1), []) ::
  (22, .goto (-20), 3, 2, 0, 0, .inl 0, []) :: s_X8_firstOf_25) ls st μ := by rw [s_X8_firstOf_19]
theorem v_X8_firstOf_19 : vc X P m_X8_firstOf h K k_X8_firstOf S (n + 1) 19 ls st μ = if 19 ∈ S then mAt X m_X8_firstOf h K 19 ls st μ else bb X P m_X8_firstOf h K (vc X P m_X8_firstOf h K k_X8_firstOf S n) s_X8_firstOf_19 ls st μ := by rw [vc_s, t_X8_firstOf_19]
theorem w_X8_firstOf_25 : bb X P m_X8_firstOf h K J s_X8_firstOf_25 ls st μ = bb X P m_X8_firstOf h K J ((25, .iconst 0, 1, 0, 0, 0, .inl (nI 0), []) ::
  (26, .ireturn, 1, 0, 0, 0, .inl 0, []) :: []) ls st μ := by rw [s_X8_firstOf_25]
theorem v_X8_firstOf_25 : vc X P m_X8_firstOf h K k_X8_firstOf S (n + 1) 25 ls st μ = if 25 ∈ S then mAt X m_X8_firstOf h K 25 ls st μ else bb X P m_X8_firstOf h K (vc X P m_X8_firstOf h K k_X8_firstOf S n) s_X8_firstOf_25 ls st μ := by rw [vc_s, t_X8_firstOf_25]
end
section
variable {X : mC} {P : mP} {h : Nat} {K : MV → Mem → Prop} {J : mJ} {ls : List (Nat × MV)} {st : List MV} {μ : Mem} {S : List Nat} {n : Nat}
theorem w_X8_goes_0 : bb X P m_X8_goes h K J s_X8_goes_0 ls st μ = bb X P m_X8_goes h K J ((0, .aload_n 0, 1, 0, 0, 0, .inl 0, []) ::
  (1, .iload_n 1, 1, 1, 0, 0, .inl 0, []) ::
  (2, .invokevirtual 130, 3, 106, 2, 1, .inl 0, [682, 7]) ::
  (5, .ifCond .eq 13, 3, 18, 0, 0, .inl 0, []) ::
  (8, .iload_n 2, 1, 2, 0, 0, .inl 0, []) ::
  (9, .ifCond .lt 9, 3, 18, 0, 0, .inl 0, []) ::
  (12, .iload_n 2, 1, 2, 0, 0, .inl 0, []) ::
  (13, .bipush 16, 2, 0, 0, 0, .inl (nI 16), []) ::
  (15, .if_icmp .lt 5, 3, 20, 0, 0, .inl 0, []) :: s_X8_goes_18) ls st μ := by rw [s_X8_goes_0]
theorem v_X8_goes_0 : vc X P m_X8_goes h K k_X8_goes S (n + 1) 0 ls st μ = if 0 ∈ S then mAt X m_X8_goes h K 0 ls st μ else bb X P m_X8_goes h K (vc X P m_X8_goes h K k_X8_goes S n) s_X8_goes_0 ls st μ := by rw [vc_s, t_X8_goes_0]
theorem w_X8_goes_18 : bb X P m_X8_goes h K J s_X8_goes_18 ls st μ = bb X P m_X8_goes h K J ((18, .iconst (-1), 1, 0, 0, 0, .inl (-1), []) ::
  (19, .ireturn, 1, 0, 0, 0, .inl 0, []) :: s_X8_goes_20) ls st μ := by rw [s_X8_goes_18]
theorem v_X8_goes_18 : vc X P m_X8_goes h K k_X8_goes S (n + 1) 18 ls st μ = if 18 ∈ S then mAt X m_X8_goes h K 18 ls st μ else bb X P m_X8_goes h K (vc X P m_X8_goes h K k_X8_goes S n) s_X8_goes_18 ls st μ := by rw [vc_s, t_X8_goes_18]
theorem w_X8_goes_20 : bb X P m_X8_goes h K J s_X8_goes_20 ls st μ = bb X P m_X8_goes h K J ((20, .aload_n 0, 1, 0, 0, 0, .inl 0, []) ::
  (21, .getfield 53, 3, 7, 8, 3, .inr (.inr (3, 0, 62)), [486]) ::
  (24, .aload_n 0, 1, 0, 0, 0, .inl 0, []) ::
  (25, .getfield 19, 3, 7, 1, 3, .inr (.inr (0, 0, 4)), [479]) ::
  (28, .invokevirtual 185, 3, 44, 2, 0, .inl 0, [698, 3]) ::
  (31, .aload_n 0, 1, 0, 0, 0, .inl 0, []) ::
  (32, .getfield 53, 3, 7, 8, 3, .inr (.inr (3, 0, 62)), [486]) ::
  (35, .aload_n 0, 1, 0, 0, 0, .inl 0, []) ::
  (36, .getfield 19, 3, 7, 1, 3, .inr (.inr (0, 0, 4)), [479]) ::
  (39, .aload_n 0, 1, 0, 0, 0, .inl 0, []) ::
  (40, .getfield 19, 3, 7, 1, 3, .inr (.inr (0, 0, 4)), [479]) ::
  (43, .invokevirtual 181, 3, 2, 1, 1, .inl 0, [728, 0]) ::
  (46, .iload_n 2, 1, 2, 0, 0, .inl 0, []) ::
  (47, .bipush 12, 2, 0, 0, 0, .inl (nI 12), []) ::
  (49, .imul, 1, 0, 0, 0, .inl 0, []) ::
  (50, .invokevirtual 254, 3, 43, 4, 0, .inl 0, [845, 3]) ::
  (53, .iconst 0, 1, 0, 0, 0, .inl (nI 0), []) ::
  (54, .istore_n 3, 1, 3, 0, 0, .inl 0, []) ::
  (55, .iconst 0, 1, 0, 0, 0, .inl (nI 0), []) ::
  (56, .istore 4, 2, 4, 0, 0, .inl 0, []) :: s_X8_goes_58) ls st μ := by rw [s_X8_goes_20]
theorem v_X8_goes_20 : vc X P m_X8_goes h K k_X8_goes S (n + 1) 20 ls st μ = if 20 ∈ S then mAt X m_X8_goes h K 20 ls st μ else bb X P m_X8_goes h K (vc X P m_X8_goes h K k_X8_goes S n) s_X8_goes_20 ls st μ := by rw [vc_s, t_X8_goes_20]
theorem w_X8_goes_58 : bb X P m_X8_goes h K J s_X8_goes_58 ls st μ = bb X P m_X8_goes h K J ((58, .iload 4, 2, 4, 0, 0, .inl 0, []) ::
  (60, .bipush 12, 2, 0, 0, 0, .inl (nI 12), []) ::
  (62, .if_icmp .ge 45, 3, 107, 0, 0, .inl 0, []) ::
  (65, .aload_n 0, 1, 0, 0, 0, .inl 0, []) ::
  (66, .getfield 53, 3, 7, 8, 3, .inr (.inr (3, 0, 62)), [486]) ::
  (69, .aload_n 0, 1, 0, 0, 0, .inl 0, []) ::
  (70, .getfield 19, 3, 7, 1, 3, .inr (.inr (0, 0, 4)), [479]) ::
  (73, .aload_n 0, 1, 0, 0, 0, .inl 0, []) ::
  (74, .getfield 19, 3, 7, 1, 3, .inr (.inr (0, 0, 4)), [479]) ::
  (77, .invokevirtual 181, 3, 2, 1, 1, .inl 0, [728, 0]) ::
  (80, .invokevirtual 205, 3, 42, 3, 0, .inl 0, [736, 3]) ::
  (83, .aload_n 0, 1, 0, 0, 0, .inl 0, []) ::
  (84, .getfield 53, 3, 7, 8, 3, .inr (.inr (3, 0, 62)), [486]) ::
  (87, .iload_n 1, 1, 1, 0, 0, .inl 0, []) ::
  (88, .invokevirtual 225, 3, 48, 2, 1, .inl 0, [780, 3]) ::
  (91, .ifCond .eq 10, 3, 101, 0, 0, .inl 0, []) ::
  (94, .iload_n 3, 1, 3, 0, 0, .inl 0, []) ::
  (95, .iconst 1, 1, 0, 0, 0, .inl (nI 1), []) ::
  (96, .iload 4, 2, 4, 0, 0, .inl 0, []) ::
  (98, .ishl, 1, 0, 0, 0, .inl 0, []) ::
  (99, .ior, 1, 0, 0, 0, .inl 0, []) ::
  (100, .istore_n 3, 1, 3, 0, 0, .inl 0, []) :: s_X8_goes_101) ls st μ := by rw [s_X8_goes_58]
theorem v_X8_goes_58 : vc X P m_X8_goes h K k_X8_goes S (n + 1) 58 ls st μ = if 58 ∈ S then mAt X m_X8_goes h K 58 ls st μ else bb X P m_X8_goes h K (vc X P m_X8_goes h K k_X8_goes S n) s_X8_goes_58 ls st μ := by rw [vc_s, t_X8_goes_58]
theorem w_X8_goes_101 : bb X P m_X8_goes h K J s_X8_goes_101 ls st μ = bb X P m_X8_goes h K J ((101, .iinc 4 1, 3, 4, 0, 0, .inl (nI 1), []) ::
  (104, .goto (-46), 3, 58, 0, 0, .inl 0, []) :: s_X8_goes_107) ls st μ := by rw [s_X8_goes_101]
theorem v_X8_goes_101 : vc X P m_X8_goes h K k_X8_goes S (n + 1) 101 ls st μ = if 101 ∈ S then mAt X m_X8_goes h K 101 ls st μ else bb X P m_X8_goes h K (vc X P m_X8_goes h K k_X8_goes S n) s_X8_goes_101 ls st μ := by rw [vc_s, t_X8_goes_101]
theorem w_X8_goes_107 : bb X P m_X8_goes h K J s_X8_goes_107 ls st μ = bb X P m_X8_goes h K J ((107, .iload_n 3, 1, 3, 0, 0, .inl 0, []) ::
  (108, .ireturn, 1, 0, 0, 0, .inl 0, []) :: []) ls st μ := by rw [s_X8_goes_107]
theorem v_X8_goes_107 : vc X P m_X8_goes h K k_X8_goes S (n + 1) 107 ls st μ = if 107 ∈ S then mAt X m_X8_goes h K 107 ls st μ else bb X P m_X8_goes h K (vc X P m_X8_goes h K k_X8_goes S n) s_X8_goes_107 ls st μ := by rw [vc_s, t_X8_goes_107]
end
section
variable {X : mC} {P : mP} {h : Nat} {K : MV → Mem → Prop} {J : mJ} {ls : List (Nat × MV)} {st : List MV} {μ : Mem} {S : List Nat} {n : Nat}
theorem w_X8_goodsOf_0 : bb X P m_X8_goodsOf h K J s_X8_goodsOf_0 ls st μ = bb X P m_X8_goodsOf h K J ((0, .iconst 0, 1, 0, 0, 0, .inl (nI 0), []) ::
  (1, .istore_n 2, 1, 2, 0, 0, .inl 0, []) ::
  (2, .iconst 0, 1, 0, 0, 0, .inl (nI 0), []) ::
  (3, .istore_n 3, 1, 3, 0, 0, .inl 0, []) :: s_X8_goodsOf_4) ls st μ := by rw [s_X8_goodsOf_0]
theorem v_X8_goodsOf_0 : vc X P m_X8_goodsOf h K k_X8_goodsOf S (n + 1) 0 ls st μ = if 0 ∈ S then mAt X m_X8_goodsOf h K 0 ls st μ else bb X P m_X8_goodsOf h K (vc X P m_X8_goodsOf h K k_X8_goodsOf S n) s_X8_goodsOf_0 ls st μ := by rw [vc_s, t_X8_goodsOf_0]
theorem w_X8_goodsOf_4 : bb X P m_X8_goodsOf h K J s_X8_goodsOf_4 ls st μ = bb X P m_X8_goodsOf h K J ((4, .iload_n 3, 1, 3, 0, 0, .inl 0, []) ::
  (5, .bipush 6, 2, 0, 0, 0, .inl (nI 6), []) ::
  (7, .if_icmp .ge 26, 3, 33, 0, 0, .inl 0, []) ::
  (10, .aload_n 0, 1, 0, 0, 0, .inl 0, []) ::
  (11, .iload_n 1, 1, 1, 0, 0, .inl 0, []) ::
  (12, .bipush 6, 2, 0, 0, 0, .inl (nI 6), []) ::
  (14, .imul, 1, 0, 0, 0, .inl 0, []) ::
  (15, .iload_n 3, 1, 3, 0, 0, .inl 0, []) ::
  (16, .iadd, 1, 0, 0, 0, .inl 0, []) ::
  (17, .iaload, 1, 0, 0, 0, .inl 0, []) ::
  (18, .ifCond .le 9, 3, 27, 0, 0, .inl 0, []) ::
  (21, .iload_n 2, 1, 2, 0, 0, .inl 0, []) ::
  (22, .iconst 1, 1, 0, 0, 0, .inl (nI 1), []) ::
  (23, .iload_n 3, 1, 3, 0, 0, .inl 0, []) ::
  (24, .ishl, 1, 0, 0, 0, .inl 0, []) ::
  (25, .ior, 1, 0, 0, 0, .inl 0, []) ::
  (26, .istore_n 2, 1, 2, 0, 0, .inl 0, []) :: s_X8_goodsOf_27) ls st μ := by rw [s_X8_goodsOf_4]
theorem v_X8_goodsOf_4 : vc X P m_X8_goodsOf h K k_X8_goodsOf S (n + 1) 4 ls st μ = if 4 ∈ S then mAt X m_X8_goodsOf h K 4 ls st μ else bb X P m_X8_goodsOf h K (vc X P m_X8_goodsOf h K k_X8_goodsOf S n) s_X8_goodsOf_4 ls st μ := by rw [vc_s, t_X8_goodsOf_4]
theorem w_X8_goodsOf_27 : bb X P m_X8_goodsOf h K J s_X8_goodsOf_27 ls st μ = bb X P m_X8_goodsOf h K J ((27, .iinc 3 1, 3, 3, 0, 0, .inl (nI 1), []) ::
  (30, .goto (-26), 3, 4, 0, 0, .inl 0, []) :: s_X8_goodsOf_33) ls st μ := by rw [s_X8_goodsOf_27]
theorem v_X8_goodsOf_27 : vc X P m_X8_goodsOf h K k_X8_goodsOf S (n + 1) 27 ls st μ = if 27 ∈ S then mAt X m_X8_goodsOf h K 27 ls st μ else bb X P m_X8_goodsOf h K (vc X P m_X8_goodsOf h K k_X8_goodsOf S n) s_X8_goodsOf_27 ls st μ := by rw [vc_s, t_X8_goodsOf_27]
theorem w_X8_goodsOf_33 : bb X P m_X8_goodsOf h K J s_X8_goodsOf_33 ls st μ = bb X P m_X8_goodsOf h K J ((33, .iload_n 2, 1, 2, 0, 0, .inl 0, []) ::
  (34, .ireturn, 1, 0, 0, 0, .inl 0, []) :: []) ls st μ := by rw [s_X8_goodsOf_33]
theorem v_X8_goodsOf_33 : vc X P m_X8_goodsOf h K k_X8_goodsOf S (n + 1) 33 ls st μ = if 33 ∈ S then mAt X m_X8_goodsOf h K 33 ls st μ else bb X P m_X8_goodsOf h K (vc X P m_X8_goodsOf h K k_X8_goodsOf S n) s_X8_goodsOf_33 ls st μ := by rw [vc_s, t_X8_goodsOf_33]
end
section
variable {X : mC} {P : mP} {h : Nat} {K : MV → Mem → Prop} {J : mJ} {ls : List (Nat × MV)} {st : List MV} {μ : Mem} {S : List Nat} {n : Nat}
theorem w_X8_greatest_0 : bb X P m_X8_greatest h K J s_X8_greatest_0 ls st μ = bb X P m_X8_greatest h K J ((0, .aload_n 0, 1, 0, 0, 0, .inl 0, []) ::
  (1, .iload_n 1, 1, 1, 0, 0, .inl 0, []) ::
  (2, .invokevirtual 268, 3, 104, 2, 1, .inl 0, [874, 7]) ::
  (5, .ifCond .eq 11, 3, 16, 0, 0, .inl 0, []) ::
  (8, .aload_n 0, 1, 0, 0, 0, .inl 0, []) ::
  (9, .iload_n 1, 1, 1, 0, 0, .inl 0, []) ::
  (10, .invokevirtual 315, 3, 99, 2, 1, .inl 0, [945, 7]) ::
  (13, .goto 4, 3, 17, 0, 0, .inl 0, []) :: s_X8_greatest_16) ls st μ := by rw [s_X8_greatest_0]
theorem v_X8_greatest_0 : vc X P m_X8_greatest h K k_X8_greatest S (n + 1) 0 ls st μ = if 0 ∈ S then mAt X m_X8_greatest h K 0 ls st μ else bb X P m_X8_greatest h K (vc X P m_X8_greatest h K k_X8_greatest S n) s_X8_greatest_0 ls st μ := by rw [vc_s, t_X8_greatest_0]
theorem w_X8_greatest_16 : bb X P m_X8_greatest h K J s_X8_greatest_16 ls st μ = bb X P m_X8_greatest h K J ((16, .iconst (-1), 1, 0, 0, 0, .inl (-1), []) :: s_X8_greatest_17) ls st μ := by rw [s_X8_greatest_16]
theorem v_X8_greatest_16 : vc X P m_X8_greatest h K k_X8_greatest S (n + 1) 16 ls st μ = if 16 ∈ S then mAt X m_X8_greatest h K 16 ls st μ else bb X P m_X8_greatest h K (vc X P m_X8_greatest h K k_X8_greatest S n) s_X8_greatest_16 ls st μ := by rw [vc_s, t_X8_greatest_16]
theorem w_X8_greatest_17 : bb X P m_X8_greatest h K J s_X8_greatest_17 ls st μ = bb X P m_X8_greatest h K J ((17, .ireturn, 1, 0, 0, 0, .inl 0, []) :: []) ls st μ := by rw [s_X8_greatest_17]
theorem v_X8_greatest_17 : vc X P m_X8_greatest h K k_X8_greatest S (n + 1) 17 ls st μ = if 17 ∈ S then mAt X m_X8_greatest h K 17 ls st μ else bb X P m_X8_greatest h K (vc X P m_X8_greatest h K k_X8_greatest S n) s_X8_greatest_17 ls st μ := by rw [vc_s, t_X8_greatest_17]
end
section
variable {X : mC} {P : mP} {h : Nat} {K : MV → Mem → Prop} {J : mJ} {ls : List (Nat × MV)} {st : List MV} {μ : Mem} {S : List Nat} {n : Nat}
theorem w_X8_greatestOf_0 : bb X P m_X8_greatestOf h K J s_X8_greatestOf_0 ls st μ = bb X P m_X8_greatestOf h K J ((0, .iconst 0, 1, 0, 0, 0, .inl (nI 0), []) ::
  (1, .istore_n 2, 1, 2, 0, 0, .inl 0, []) ::
  (2, .iconst 1, 1, 0, 0, 0, .inl (nI 1), []) ::
  (3, .istore_n 3, 1, 3, 0, 0, .inl 0, []) :: s_X8_greatestOf_4) ls st μ := by rw [s_X8_greatestOf_0]
theorem v_X8_greatestOf_0 : vc X P m_X8_greatestOf h K k_X8_greatestOf S (n + 1) 0 ls st μ = if 0 ∈ S then mAt X m_X8_greatestOf h K 0 ls st μ else bb X P m_X8_greatestOf h K (vc X P m_X8_greatestOf h K k_X8_greatestOf S n) s_X8_greatestOf_0 ls st μ := by rw [vc_s, t_X8_greatestOf_0]
theorem w_X8_greatestOf_4 : bb X P m_X8_greatestOf h K J s_X8_greatestOf_4 ls st μ = bb X P m_X8_greatestOf h K J ((4, .iload_n 3, 1, 3, 0, 0, .inl 0, []) ::
  (5, .iload_n 1, 1, 1, 0, 0, .inl 0, []) ::
  (6, .if_icmp .gt 57, 3, 63, 0, 0, .inl 0, []) ::
  (9, .iload_n 3, 1, 3, 0, 0, .inl 0, []) ::
  (10, .iload_n 1, 1, 1, 0, 0, .inl 0, []) ::
  (11, .iconst (-1), 1, 0, 0, 0, .inl (-1), []) ::
  (12, .ixor, 1, 0, 0, 0, .inl 0, []) ::
  (13, .iand, 1, 0, 0, 0, .inl 0, []) ::
  (14, .ifCond .ne 7, 3, 21, 0, 0, .inl 0, []) ::
  (17, .iconst 1, 1, 0, 0, 0, .inl (nI 1), []) ::
  (18, .goto 4, 3, 22, 0, 0, .inl 0, []) :: s_X8_greatestOf_21) ls st μ := by rw [s_X8_greatestOf_4]
theorem v_X8_greatestOf_4 : vc X P m_X8_greatestOf h K k_X8_greatestOf S (n + 1) 4 ls st μ = if 4 ∈ S then mAt X m_X8_greatestOf h K 4 ls st μ else bb X P m_X8_greatestOf h K (vc X P m_X8_greatestOf h K k_X8_greatestOf S n) s_X8_greatestOf_4 ls st μ := by rw [vc_s, t_X8_greatestOf_4]
theorem w_X8_greatestOf_21 : bb X P m_X8_greatestOf h K J s_X8_greatestOf_21 ls st μ = bb X P m_X8_greatestOf h K J ((21, .iconst 0, 1, 0, 0, 0, .inl (nI 0), []) :: s_X8_greatestOf_22) ls st μ := by rw [s_X8_greatestOf_21]
theorem v_X8_greatestOf_21 : vc X P m_X8_greatestOf h K k_X8_greatestOf S (n + 1) 21 ls st μ = if 21 ∈ S then mAt X m_X8_greatestOf h K 21 ls st μ else bb X P m_X8_greatestOf h K (vc X P m_X8_greatestOf h K k_X8_greatestOf S n) s_X8_greatestOf_21 ls st μ := by rw [vc_s, t_X8_greatestOf_21]
theorem w_X8_greatestOf_22 : bb X P m_X8_greatestOf h K J s_X8_greatestOf_22 ls st μ = bb X P m_X8_greatestOf h K J ((22, .istore 4, 2, 4, 0, 0, .inl 0, []) ::
  (24, .iload 4, 2, 4, 0, 0, .inl 0, []) ::
  (26, .ifCond .eq 31, 3, 57, 0, 0, .inl 0, []) ::
  (29, .iload_n 3, 1, 3, 0, 0, .inl 0, []) ::
  (30, .invokestatic 284, 3, 0, 1, 1, .inl 0, [901]) ::
  (33, .iload_n 2, 1, 2, 0, 0, .inl 0, []) ::
  (34, .invokestatic 284, 3, 0, 1, 1, .inl 0, [901]) ::
  (37, .if_icmp .le 20, 3, 57, 0, 0, .inl 0, []) ::
  (40, .aload_n 0, 1, 0, 0, 0, .inl 0, []) ::
  (41, .getfield 53, 3, 7, 8, 3, .inr (.inr (3, 0, 62)), [486]) ::
  (44, .aload_n 0, 1, 0, 0, 0, .inl 0, []) ::
  (45, .getfield 19, 3, 7, 1, 3, .inr (.inr (0, 0, 4)), [479]) ::
  (48, .iload_n 3, 1, 3, 0, 0, .inl 0, []) ::
  (49, .invokevirtual 311, 3, 38, 3, 1, .inl 0, [930, 3]) ::
  (52, .ifCond .eq 5, 3, 57, 0, 0, .inl 0, []) ::
  (55, .iload_n 3, 1, 3, 0, 0, .inl 0, []) ::
  (56, .istore_n 2, 1, 2, 0, 0, .inl 0, []) :: s_X8_greatestOf_57) ls st μ := by rw [s_X8_greatestOf_22]
theorem v_X8_greatestOf_22 : vc X P m_X8_greatestOf h K k_X8_greatestOf S (n + 1) 22 ls st μ = if 22 ∈ S then mAt X m_X8_greatestOf h K 22 ls st μ else bb X P m_X8_greatestOf h K (vc X P m_X8_greatestOf h K k_X8_greatestOf S n) s_X8_greatestOf_22 ls st μ := by rw [vc_s, t_X8_greatestOf_22]
theorem w_X8_greatestOf_57 : bb X P m_X8_greatestOf h K J s_X8_greatestOf_57 ls st μ = bb X P m_X8_greatestOf h K J ((57, .iinc 3 1, 3, 3, 0, 0, .inl (nI 1), []) ::
  (60, .goto (-56), 3, 4, 0, 0, .inl 0, []) :: s_X8_greatestOf_63) ls st μ := by rw [s_X8_greatestOf_57]
theorem v_X8_greatestOf_57 : vc X P m_X8_greatestOf h K k_X8_greatestOf S (n + 1) 57 ls st μ = if 57 ∈ S then mAt X m_X8_greatestOf h K 57 ls st μ else bb X P m_X8_greatestOf h K (vc X P m_X8_greatestOf h K k_X8_greatestOf S n) s_X8_greatestOf_57 ls st μ := by rw [vc_s, t_X8_greatestOf_57]
theorem w_X8_greatestOf_63 : bb X P m_X8_greatestOf h K J s_X8_greatestOf_63 ls st μ = bb X P m_X8_greatestOf h K J ((63, .iload_n 2, 1, 2, 0, 0, .inl 0, []) ::
  (64, .ireturn, 1, 0, 0, 0, .inl 0, []) :: []) ls st μ := by rw [s_X8_greatestOf_63]
theorem v_X8_greatestOf_63 : vc X P m_X8_greatestOf h K k_X8_greatestOf S (n + 1) 63 ls st μ = if 63 ∈ S then mAt X m_X8_greatestOf h K 63 ls st μ else bb X P m_X8_greatestOf h K (vc X P m_X8_greatestOf h K k_X8_greatestOf S n) s_X8_greatestOf_63 ls st μ := by rw [vc_s, t_X8_greatestOf_63]
end
section
variable {X : mC} {P : mP} {h : Nat} {K : MV → Mem → Prop} {J : mJ} {ls : List (Nat × MV)} {st : List MV} {μ : Mem} {S : List Nat} {n : Nat}
theorem w_X8_hour_0 : bb X P m_X8_hour h K J s_X8_hour_0 ls st μ = bb X P m_X8_hour h K J ((0, .aload_n 0, 1, 0, 0, 0, .inl 0, []) ::
  (1, .getfield 49, 3, 7, 7, 3, .inr (.inr (3, 0, 50)), [485]) ::
  (4, .getfield 123, 3, 3, 0, 0, .inl 0, [379]) ::
  (7, .ireturn, 1, 0, 0, 0, .inl 0, []) :: []) ls st μ := by rw [s_X8_hour_0]
theorem v_X8_hour_0 : vc X P m_X8_hour h K k_X8_hour S (n + 1) 0 ls st μ = if 0 ∈ S then mAt X m_X8_hour h K 0 ls st μ else bb X P m_X8_hour h K (vc X P m_X8_hour h K k_X8_hour S n) s_X8_hour_0 ls st μ := by rw [vc_s, t_X8_hour_0]
end
section
variable {X : mC} {P : mP} {h : Nat} {K : MV → Mem → Prop} {J : mJ} {ls : List (Nat × MV)} {st : List MV} {μ : Mem} {S : List Nat} {n : Nat}
theorem w_X8_image_0 : bb X P m_X8_image h K J s_X8_image_0 ls st μ = bb X P m_X8_image h K J ((0, .iload_n 1, 1, 1, 0, 0, .inl 0, []) ::
  (1, .ifCond .lt 8, 3, 9, 0, 0, .inl 0, []) ::
  (4, .iload_n 1, 1, 1, 0, 0, .inl 0, []) ::
  (5, .iconst 2, 1, 0, 0, 0, .inl (nI 2), []) ::
  (6, .if_icmp .lt 5, 3, 11, 0, 0, .inl 0, []) :: s_X8_image_9) ls st μ := by rw [s_X8_image_0]
theorem v_X8_image_0 : vc X P m_X8_image h K k_X8_image S (n + 1) 0 ls st μ = if 0 ∈ S then mAt X m_X8_image h K 0 ls st μ else bb X P m_X8_image h K (vc X P m_X8_image h K k_X8_image S n) s_X8_image_0 ls st μ := by rw [vc_s, t_X8_image_0]
theorem w_X8_image_9 : bb X P m_X8_image h K J s_X8_image_9 ls st μ = bb X P m_X8_image h K J ((9, .iconst 0, 1, 0, 0, 0, .inl (nI 0), []) ::
  (10, .ireturn, 1, 1, 0, 0, .inl 0, []) :: s_X8_image_11) ls st μ := by rw [s_X8_image_9]
theorem v_X8_image_9 : vc X P m_X8_image h K k_X8_image S (n + 1) 9 ls st μ = if 9 ∈ S then mAt X m_X8_image h K 9 ls st μ else bb X P m_X8_image h K (vc X P m_X8_image h K k_X8_image S n) s_X8_image_9 ls st μ := by rw [vc_s, t_X8_image_9]
theorem w_X8_image_11 : bb X P m_X8_image h K J s_X8_image_11 ls st μ = bb X P m_X8_image h K J ((11, .aload_n 0, 1, 0, 0, 0, .inl 0, []) ::
  (12, .getfield 61, 3, 7, 10, 3, .inr (.inr (19, 2, 86)), [488]) ::
  (15, .iload_n 1, 1, 1, 0, 0, .inl 0, []) ::
  (16, .aaload, 1, 0, 0, 0, .inl 0, []) ::
  (17, .astore_n 2, 1, 2, 0, 0, .inl 0, []) ::
  (18, .aload_n 2, 1, 2, 0, 0, .inl 0, []) ::
  (19, .getfield 355, 3, 1, 1, 3, .inr (.inr (0, 0, 1)), [445]) ::
  (22, .aload_n 0, 1, 0, 0, 0, .inl 0, []) ::
  (23, .getfield 19, 3, 7, 1, 3, .inr (.inr (0, 0, 4)), [479]) ::
  (26, .invokevirtual 115, 3, 4, 2, 0, .inl 0, [659, 0]) ::
  (29, .aload_n 2, 1, 2, 0, 0, .inl 0, []) ::
  (30, .getfield 356, 3, 1, 2, 3, .inr (.inr (2, 0, 13)), [447]) ::
  (33, .aload_n 0, 1, 0, 0, 0, .inl 0, []) ::
  (34, .getfield 29, 3, 7, 3, 3, .inr (.inr (2, 0, 28)), [481]) ::
  (37, .invokevirtual 250, 3, 24, 2, 0, .inl 0, [836, 2]) ::
  (40, .aload_n 2, 1, 2, 0, 0, .inl 0, []) ::
  (41, .getfield 357, 3, 1, 3, 3, .inr (.inr (4, 0, 20)), [449]) ::
  (44, .aload_n 0, 1, 0, 0, 0, .inl 0, []) ::
  (45, .getfield 39, 3, 7, 5, 3, .inr (.inr (4, 0, 42)), [483]) ::
  (48, .invokevirtual 345, 3, 52, 2, 0, .inl 0, [1070, 4]) ::
  (51, .aload_n 2, 1, 2, 0, 0, .inl 0, []) ::
  (52, .getfield 358, 3, 1, 4, 3, .inr (.inr (3, 0, 24)), [451]) ::
  (55, .aload_n 0, 1, 0, 0, 0, .inl 0, []) ::
  (56, .getfield 49, 3, 7, 7, 3, .inr (.inr (3, 0, 50)), [485]) ::
  (59, .invokevirtual 278, 3, 33, 2, 0, .inl 0, [885, 3]) ::
  (62, .aload_n 2, 1, 2, 0, 0, .inl 0, []) ::
  (63, .iconst 1, 1, 0, 0, 0, .inl (nI 1), []) ::
  (64, .putfield 359, 3, 1, 0, 2, .inl 0, [443]) ::
  (67, .iconst 1, 1, 0, 0, 0, .inl (nI 1), []) ::
  (68, .ireturn, 1, 1, 0, 0, .inl 0, []) :: []) ls st μ := by rw [s_X8_image_11]
theorem v_X8_image_11 : vc X P m_X8_image h K k_X8_image S (n + 1) 11 ls st μ = if 11 ∈ S then mAt X m_X8_image h K 11 ls st μ else bb X P m_X8_image h K (vc X P m_X8_image h K k_X8_image S n) s_X8_image_11 ls st μ := by rw [vc_s, t_X8_image_11]
end
section
variable {X : mC} {P : mP} {h : Nat} {K : MV → Mem → Prop} {J : mJ} {ls : List (Nat × MV)} {st : List MV} {μ : Mem} {S : List Nat} {n : Nat}
theorem w_X8_isGood_0 : bb X P m_X8_isGood h K J s_X8_isGood_0 ls st μ = bb X P m_X8_isGood h K J ((0, .iload_n 1, 1, 1, 0, 0, .inl 0, []) ::
  (1, .ifCond .lt 18, 3, 19, 0, 0, .inl 0, []) ::
  (4, .iload_n 1, 1, 1, 0, 0, .inl 0, []) ::
  (5, .aload_n 0, 1, 0, 0, 0, .inl 0, []) ::
  (6, .getfield 19, 3, 7, 1, 3, .inr (.inr (0, 0, 4)), [479]) ::
  (9, .getfield 178, 3, 0, 0, 0, .inl 0, [246]) ::
  (12, .if_icmp .ge 7, 3, 19, 0, 0, .inl 0, []) ::
  (15, .iconst 1, 1, 0, 0, 0, .inl (nI 1), []) ::
  (16, .goto 4, 3, 20, 0, 0, .inl 0, []) :: s_X8_isGood_19) ls st μ := by rw [s_X8_isGood_0]
theorem v_X8_isGood_0 : vc X P m_X8_isGood h K k_X8_isGood S (n + 1) 0 ls st μ = if 0 ∈ S then mAt X m_X8_isGood h K 0 ls st μ else bb X P m_X8_isGood h K (vc X P m_X8_isGood h K k_X8_isGood S n) s_X8_isGood_0 ls st μ := by rw [vc_s, t_X8_isGood_0]
theorem w_X8_isGood_19 : bb X P m_X8_isGood h K J s_X8_isGood_19 ls st μ = bb X P m_X8_isGood h K J ((19, .iconst 0, 1, 0, 0, 0, .inl (nI 0), []) :: s_X8_isGood_20) ls st μ := by rw [s_X8_isGood_19]
theorem v_X8_isGood_19 : vc X P m_X8_isGood h K k_X8_isGood S (n + 1) 19 ls st μ = if 19 ∈ S then mAt X m_X8_isGood h K 19 ls st μ else bb X P m_X8_isGood h K (vc X P m_X8_isGood h K k_X8_isGood S n) s_X8_isGood_19 ls st μ := by rw [vc_s, t_X8_isGood_19]
theorem w_X8_isGood_20 : bb X P m_X8_isGood h K J s_X8_isGood_20 ls st μ = bb X P m_X8_isGood h K J ((20, .ireturn, 1, 1, 0, 0, .inl 0, []) :: []) ls st μ := by rw [s_X8_isGood_20]
theorem v_X8_isGood_20 : vc X P m_X8_isGood h K k_X8_isGood S (n + 1) 20 ls st μ = if 20 ∈ S then mAt X m_X8_isGood h K 20 ls st μ else bb X P m_X8_isGood h K (vc X P m_X8_isGood h K k_X8_isGood S n) s_X8_isGood_20 ls st μ := by rw [vc_s, t_X8_isGood_20]
end
section
variable {X : mC} {P : mP} {h : Nat} {K : MV → Mem → Prop} {J : mJ} {ls : List (Nat × MV)} {st : List MV} {μ : Mem} {S : List Nat} {n : Nat}
theorem w_X8_isRunning_0 : bb X P m_X8_isRunning h K J s_X8_isRunning_0 ls st μ = bb X P m_X8_isRunning h K J ((0, .aload_n 0, 1, 0, 0, 0, .inl 0, []) ::
  (1, .getfield 49, 3, 7, 7, 3, .inr (.inr (3, 0, 50)), [485]) ::
  (4, .getfield 123, 3, 3, 0, 0, .inl 0, [379]) ::
  (7, .iconst (-1), 1, 0, 0, 0, .inl (-1), []) ::
  (8, .if_icmp .eq 7, 3, 15, 0, 0, .inl 0, []) ::
  (11, .iconst 1, 1, 0, 0, 0, .inl (nI 1), []) ::
  (12, .goto 4, 3, 16, 0, 0, .inl 0, []) :: s_X8_isRunning_15) ls st μ := by rw [s_X8_isRunning_0]
theorem v_X8_isRunning_0 : vc X P m_X8_isRunning h K k_X8_isRunning S (n + 1) 0 ls st μ = if 0 ∈ S then mAt X m_X8_isRunning h K 0 ls st μ else bb X P m_X8_isRunning h K (vc X P m_X8_isRunning h K k_X8_isRunning S n) s_X8_isRunning_0 ls st μ := by rw [vc_s, t_X8_isRunning_0]
theorem w_X8_isRunning_15 : bb X P m_X8_isRunning h K J s_X8_isRunning_15 ls st μ = bb X P m_X8_isRunning h K J ((15, .iconst 0, 1, 0, 0, 0, .inl (nI 0), []) :: s_X8_isRunning_16) ls st μ := by rw [s_X8_isRunning_15]
theorem v_X8_isRunning_15 : vc X P m_X8_isRunning h K k_X8_isRunning S (n + 1) 15 ls st μ = if 15 ∈ S then mAt X m_X8_isRunning h K 15 ls st μ else bb X P m_X8_isRunning h K (vc X P m_X8_isRunning h K k_X8_isRunning S n) s_X8_isRunning_15 ls st μ := by rw [vc_s, t_X8_isRunning_15]
theorem w_X8_isRunning_16 : bb X P m_X8_isRunning h K J s_X8_isRunning_16 ls st μ = bb X P m_X8_isRunning h K J ((16, .ireturn, 1, 1, 0, 0, .inl 0, []) :: []) ls st μ := by rw [s_X8_isRunning_16]
theorem v_X8_isRunning_16 : vc X P m_X8_isRunning h K k_X8_isRunning S (n + 1) 16 ls st μ = if 16 ∈ S then mAt X m_X8_isRunning h K 16 ls st μ else bb X P m_X8_isRunning h K (vc X P m_X8_isRunning h K k_X8_isRunning S n) s_X8_isRunning_16 ls st μ := by rw [vc_s, t_X8_isRunning_16]
end
section
variable {X : mC} {P : mP} {h : Nat} {K : MV → Mem → Prop} {J : mJ} {ls : List (Nat × MV)} {st : List MV} {μ : Mem} {S : List Nat} {n : Nat}
theorem w_X8_isSet_0 : bb X P m_X8_isSet h K J s_X8_isSet_0 ls st μ = bb X P m_X8_isSet h K J ((0, .iload_n 1, 1, 1, 0, 0, .inl 0, []) ::
  (1, .ifCond .lt 18, 3, 19, 0, 0, .inl 0, []) ::
  (4, .iload_n 1, 1, 1, 0, 0, .inl 0, []) ::
  (5, .aload_n 0, 1, 0, 0, 0, .inl 0, []) ::
  (6, .getfield 19, 3, 7, 1, 3, .inr (.inr (0, 0, 4)), [479]) ::
  (9, .invokevirtual 181, 3, 2, 1, 1, .inl 0, [728, 0]) ::
  (12, .if_icmp .gt 7, 3, 19, 0, 0, .inl 0, []) ::
  (15, .iconst 1, 1, 0, 0, 0, .inl (nI 1), []) ::
  (16, .goto 4, 3, 20, 0, 0, .inl 0, []) :: s_X8_isSet_19) ls st μ := by rw [s_X8_isSet_0]
theorem v_X8_isSet_0 : vc X P m_X8_isSet h K k_X8_isSet S (n + 1) 0 ls st μ = if 0 ∈ S then mAt X m_X8_isSet h K 0 ls st μ else bb X P m_X8_isSet h K (vc X P m_X8_isSet h K k_X8_isSet S n) s_X8_isSet_0 ls st μ := by rw [vc_s, t_X8_isSet_0]
theorem w_X8_isSet_19 : bb X P m_X8_isSet h K J s_X8_isSet_19 ls st μ = bb X P m_X8_isSet h K J ((19, .iconst 0, 1, 0, 0, 0, .inl (nI 0), []) :: s_X8_isSet_20) ls st μ := by rw [s_X8_isSet_19]
theorem v_X8_isSet_19 : vc X P m_X8_isSet h K k_X8_isSet S (n + 1) 19 ls st μ = if 19 ∈ S then mAt X m_X8_isSet h K 19 ls st μ else bb X P m_X8_isSet h K (vc X P m_X8_isSet h K k_X8_isSet S n) s_X8_isSet_19 ls st μ := by rw [vc_s, t_X8_isSet_19]
theorem w_X8_isSet_20 : bb X P m_X8_isSet h K J s_X8_isSet_20 ls st μ = bb X P m_X8_isSet h K J ((20, .ireturn, 1, 1, 0, 0, .inl 0, []) :: []) ls st μ := by rw [s_X8_isSet_20]
theorem v_X8_isSet_20 : vc X P m_X8_isSet h K k_X8_isSet S (n + 1) 20 ls st μ = if 20 ∈ S then mAt X m_X8_isSet h K 20 ls st μ else bb X P m_X8_isSet h K (vc X P m_X8_isSet h K k_X8_isSet S n) s_X8_isSet_20 ls st μ := by rw [vc_s, t_X8_isSet_20]
end
section
variable {X : mC} {P : mP} {h : Nat} {K : MV → Mem → Prop} {J : mJ} {ls : List (Nat × MV)} {st : List MV} {μ : Mem} {S : List Nat} {n : Nat}
theorem w_X8_isVatOfRun_0 : bb X P m_X8_isVatOfRun h K J s_X8_isVatOfRun_0 ls st μ = bb X P m_X8_isVatOfRun h K J ((0, .aload_n 0, 1, 0, 0, 0, .inl 0, []) ::
  (1, .invokevirtual 188, 3, 103, 1, 1, .inl 0, [712, 7]) ::
  (4, .ifCond .eq 40, 3, 44, 0, 0, .inl 0, []) ::
  (7, .aload_n 0, 1, 0, 0, 0, .inl 0, []) ::
  (8, .iload_n 1, 1, 1, 0, 0, .inl 0, []) ::
  (9, .invokevirtual 130, 3, 106, 2, 1, .inl 0, [682, 7]) ::
  (12, .ifCond .eq 32, 3, 44, 0, 0, .inl 0, []) ::
  (15, .aload_n 0, 1, 0, 0, 0, .inl 0, []) ::
  (16, .iload_n 2, 1, 2, 0, 0, .inl 0, []) ::
  (17, .invokevirtual 163, 3, 102, 2, 1, .inl 0, [686, 7]) ::
  (20, .ifCond .eq 24, 3, 44, 0, 0, .inl 0, []) ::
  (23, .aload_n 0, 1, 0, 0, 0, .inl 0, []) ::
  (24, .getfield 19, 3, 7, 1, 3, .inr (.inr (0, 0, 4)), [479]) ::
  (27, .getfield 150, 3, 0, 10, 3, .inr (.inr (16, 48, 7)), [274]) ::
  (30, .iload_n 1, 1, 1, 0, 0, .inl 0, []) ::
  (31, .bipush 6, 2, 0, 0, 0, .inl (nI 6), []) ::
  (33, .imul, 1, 0, 0, 0, .inl 0, []) ::
  (34, .iload_n 2, 1, 2, 0, 0, .inl 0, []) ::
  (35, .iadd, 1, 0, 0, 0, .inl 0, []) ::
  (36, .iaload, 1, 0, 0, 0, .inl 0, []) ::
  (37, .ifCond .le 7, 3, 44, 0, 0, .inl 0, []) ::
  (40, .iconst 1, 1, 0, 0, 0, .inl (nI 1), []) ::
  (41, .goto 4, 3, 45, 0, 0, .inl 0, []) :: s_X8_isVatOfRun_44) ls st μ := by rw [s_X8_isVatOfRun_0]
theorem v_X8_isVatOfRun_0 : vc X P m_X8_isVatOfRun h K k_X8_isVatOfRun S (n + 1) 0 ls st μ = if 0 ∈ S then mAt X m_X8_isVatOfRun h K 0 ls st μ else bb X P m_X8_isVatOfRun h K (vc X P m_X8_isVatOfRun h K k_X8_isVatOfRun S n) s_X8_isVatOfRun_0 ls st μ := by rw [vc_s, t_X8_isVatOfRun_0]
theorem w_X8_isVatOfRun_44 : bb X P m_X8_isVatOfRun h K J s_X8_isVatOfRun_44 ls st μ = bb X P m_X8_isVatOfRun h K J ((44, .iconst 0, 1, 0, 0, 0, .inl (nI 0), []) :: s_X8_isVatOfRun_45) ls st μ := by rw [s_X8_isVatOfRun_44]
theorem v_X8_isVatOfRun_44 : vc X P m_X8_isVatOfRun h K k_X8_isVatOfRun S (n + 1) 44 ls st μ = if 44 ∈ S then mAt X m_X8_isVatOfRun h K 44 ls st μ else bb X P m_X8_isVatOfRun h K (vc X P m_X8_isVatOfRun h K k_X8_isVatOfRun S n) s_X8_isVatOfRun_44 ls st μ := by rw [vc_s, t_X8_isVatOfRun_44]
theorem w_X8_isVatOfRun_45 : bb X P m_X8_isVatOfRun h K J s_X8_isVatOfRun_45 ls st μ = bb X P m_X8_isVatOfRun h K J ((45, .ireturn, 1, 1, 0, 0, .inl 0, []) :: []) ls st μ := by rw [s_X8_isVatOfRun_45]
theorem v_X8_isVatOfRun_45 : vc X P m_X8_isVatOfRun h K k_X8_isVatOfRun S (n + 1) 45 ls st μ = if 45 ∈ S then mAt X m_X8_isVatOfRun h K 45 ls st μ else bb X P m_X8_isVatOfRun h K (vc X P m_X8_isVatOfRun h K k_X8_isVatOfRun S n) s_X8_isVatOfRun_45 ls st μ := by rw [vc_s, t_X8_isVatOfRun_45]
end
section
variable {X : mC} {P : mP} {h : Nat} {K : MV → Mem → Prop} {J : mJ} {ls : List (Nat × MV)} {st : List MV} {μ : Mem} {S : List Nat} {n : Nat}
theorem w_X8_isWork_0 : bb X P m_X8_isWork h K J s_X8_isWork_0 ls st μ = bb X P m_X8_isWork h K J ((0, .iload_n 1, 1, 1, 0, 0, .inl 0, []) ::
  (1, .ifCond .lt 18, 3, 19, 0, 0, .inl 0, []) ::
  (4, .iload_n 1, 1, 1, 0, 0, .inl 0, []) ::
  (5, .aload_n 0, 1, 0, 0, 0, .inl 0, []) ::
  (6, .getfield 19, 3, 7, 1, 3, .inr (.inr (0, 0, 4)), [479]) ::
  (9, .getfield 175, 3, 0, 1, 0, .inl 0, [249]) ::
  (12, .if_icmp .ge 7, 3, 19, 0, 0, .inl 0, []) ::
  (15, .iconst 1, 1, 0, 0, 0, .inl (nI 1), []) ::
  (16, .goto 4, 3, 20, 0, 0, .inl 0, []) :: s_X8_isWork_19) ls st μ := by rw [s_X8_isWork_0]
theorem v_X8_isWork_0 : vc X P m_X8_isWork h K k_X8_isWork S (n + 1) 0 ls st μ = if 0 ∈ S then mAt X m_X8_isWork h K 0 ls st μ else bb X P m_X8_isWork h K (vc X P m_X8_isWork h K k_X8_isWork S n) s_X8_isWork_0 ls st μ := by rw [vc_s, t_X8_isWork_0]
theorem w_X8_isWork_19 : bb X P m_X8_isWork h K J s_X8_isWork_19 ls st μ = bb X P m_X8_isWork h K J ((19, .iconst 0, 1, 0, 0, 0, .inl (nI 0), []) :: s_X8_isWork_20) ls st μ := by rw [s_X8_isWork_19]
theorem v_X8_isWork_19 : vc X P m_X8_isWork h K k_X8_isWork S (n + 1) 19 ls st μ = if 19 ∈ S then mAt X m_X8_isWork h K 19 ls st μ else bb X P m_X8_isWork h K (vc X P m_X8_isWork h K k_X8_isWork S n) s_X8_isWork_19 ls st μ := by rw [vc_s, t_X8_isWork_19]
theorem w_X8_isWork_20 : bb X P m_X8_isWork h K J s_X8_isWork_20 ls st μ = bb X P m_X8_isWork h K J ((20, .ireturn, 1, 1, 0, 0, .inl 0, []) :: []) ls st μ := by rw [s_X8_isWork_20]
theorem v_X8_isWork_20 : vc X P m_X8_isWork h K k_X8_isWork S (n + 1) 20 ls st μ = if 20 ∈ S then mAt X m_X8_isWork h K 20 ls st μ else bb X P m_X8_isWork h K (vc X P m_X8_isWork h K k_X8_isWork S n) s_X8_isWork_20 ls st μ := by rw [vc_s, t_X8_isWork_20]
end
section
variable {X : mC} {P : mP} {h : Nat} {K : MV → Mem → Prop} {J : mJ} {ls : List (Nat × MV)} {st : List MV} {μ : Mem} {S : List Nat} {n : Nat}
theorem w_X8_kept_0 : bb X P m_X8_kept h K J s_X8_kept_0 ls st μ = bb X P m_X8_kept h K J ((0, .aload_n 0, 1, 0, 0, 0, .inl 0, []) ::
  (1, .getfield 12, 3, 7, 0, 3, .inr (.inr (5, 0, 1)), [478]) ::
  (4, .getfield 102, 3, 5, 2, 0, .inl 0, [189]) ::
  (7, .istore_n 2, 1, 2, 0, 0, .inl 0, []) ::
  (8, .aload_n 0, 1, 0, 0, 0, .inl 0, []) ::
  (9, .getfield 12, 3, 7, 0, 3, .inr (.inr (5, 0, 1)), [478]) ::
  (12, .iconst 0, 1, 0, 0, 0, .inl (nI 0), []) ::
  (13, .putfield 102, 3, 5, 2, 0, .inl 0, [189]) ::
  (16, .iload_n 1, 1, 1, 0, 0, .inl 0, []) ::
  (17, .invokestatic 271, 3, 76, 1, 1, .inl 0, [878]) ::
  (20, .ifCond .eq 16, 3, 36, 0, 0, .inl 0, []) ::
  (23, .iload_n 2, 1, 2, 0, 0, .inl 0, []) ::
  (24, .iconst 2, 1, 0, 0, 0, .inl (nI 2), []) ::
  (25, .aload_n 0, 1, 0, 0, 0, .inl 0, []) ::
  (26, .getfield 19, 3, 7, 1, 3, .inr (.inr (0, 0, 4)), [479]) ::
  (29, .getfield 175, 3, 0, 1, 0, .inl 0, [249]) ::
  (32, .imul, 1, 0, 0, 0, .inl 0, []) ::
  (33, .if_icmp .eq 6, 3, 39, 0, 0, .inl 0, []) :: s_X8_kept_36) ls st μ := by rw [s_X8_kept_0]
theorem v_X8_kept_0 : vc X P m_X8_kept h K k_X8_kept S (n + 1) 0 ls st μ = if 0 ∈ S then mAt X m_X8_kept h K 0 ls st μ else bb X P m_X8_kept h K (vc X P m_X8_kept h K k_X8_kept S n) s_X8_kept_0 ls st μ := by rw [vc_s, t_X8_kept_0]
theorem w_X8_kept_36 : bb X P m_X8_kept h K J s_X8_kept_36 ls st μ = bb X P m_X8_kept h K J ((36, .bipush (-2), 2, 0, 0, 0, .inl (-2), []) ::
  (38, .ireturn, 1, 0, 0, 0, .inl 0, []) :: s_X8_kept_39) ls st μ := by rw [s_X8_kept_36]
theorem v_X8_kept_36 : vc X P m_X8_kept h K k_X8_kept S (n + 1) 36 ls st μ = if 36 ∈ S then mAt X m_X8_kept h K 36 ls st μ else bb X P m_X8_kept h K (vc X P m_X8_kept h K k_X8_kept S n) s_X8_kept_36 ls st μ := by rw [vc_s, t_X8_kept_36]
theorem w_X8_kept_39 : bb X P m_X8_kept h K J s_X8_kept_39 ls st μ = bb X P m_X8_kept h K J ((39, .aload_n 0, 1, 0, 0, 0, .inl 0, []) ::
  (40, .getfield 19, 3, 7, 1, 3, .inr (.inr (0, 0, 4)), [479]) ::
  (43, .invokevirtual 181, 3, 2, 1, 1, .inl 0, [728, 0]) ::
  (46, .istore_n 3, 1, 3, 0, 0, .inl 0, []) ::
  (47, .iconst 1, 1, 0, 0, 0, .inl (nI 1), []) ::
  (48, .istore 4, 2, 4, 0, 0, .inl 0, []) :: s_X8_kept_50) ls st μ := by rw [s_X8_kept_39]
theorem v_X8_kept_39 : vc X P m_X8_kept h K k_X8_kept S (n + 1) 39 ls st μ = if 39 ∈ S then mAt X m_X8_kept h K 39 ls st μ else bb X P m_X8_kept h K (vc X P m_X8_kept h K k_X8_kept S n) s_X8_kept_39 ls st μ := by rw [vc_s, t_X8_kept_39]
theorem w_X8_kept_50 : bb X P m_X8_kept h K J s_X8_kept_50 ls st μ = bb X P m_X8_kept h K J ((50, .iload 4, 2, 4, 0, 0, .inl 0, []) ::
  (52, .iload_n 3, 1, 3, 0, 0, .inl 0, []) ::
  (53, .if_icmp .gt 32, 3, 85, 0, 0, .inl 0, []) ::
  (56, .aload_n 0, 1, 0, 0, 0, .inl 0, []) ::
  (57, .aload_n 0, 1, 0, 0, 0, .inl 0, []) ::
  (58, .getfield 19, 3, 7, 1, 3, .inr (.inr (0, 0, 4)), [479]) ::
  (61, .iload 4, 2, 4, 0, 0, .inl 0, []) ::
  (63, .iload_n 1, 1, 1, 0, 0, .inl 0, []) ::
  (64, .invokevirtual 274, 3, 114, 4, 1, .inl 0, [881, 7]) ::
  (67, .aload_n 0, 1, 0, 0, 0, .inl 0, []) ::
  (68, .iload 4, 2, 4, 0, 0, .inl 0, []) ::
  (70, .invokevirtual 305, 3, 126, 2, 1, .inl 0, [922, 7]) ::
  (73, .if_icmp .le 6, 3, 79, 0, 0, .inl 0, []) ::
  (76, .iload 4, 2, 4, 0, 0, .inl 0, []) ::
  (78, .ireturn, 1, 0, 0, 0, .inl 0, []) :: s_X8_kept_79) ls st μ := by rw [s_X8_kept_50]
theorem v_X8_kept_50 : vc X P m_X8_kept h K k_X8_kept S (n + 1) 50 ls st μ = if 50 ∈ S then mAt X m_X8_kept h K 50 ls st μ else bb X P m_X8_kept h K (vc X P m_X8_kept h K k_X8_kept S n) s_X8_kept_50 ls st μ := by rw [vc_s, t_X8_kept_50]
theorem w_X8_kept_79 : bb X P m_X8_kept h K J s_X8_kept_79 ls st μ = bb X P m_X8_kept h K J ((79, .iinc 4 1, 3, 4, 0, 0, .inl (nI 1), []) ::
  (82, .goto (-32), 3, 50, 0, 0, .inl 0, []) :: s_X8_kept_85) ls st μ := by rw [s_X8_kept_79]
theorem v_X8_kept_79 : vc X P m_X8_kept h K k_X8_kept S (n + 1) 79 ls st μ = if 79 ∈ S then mAt X m_X8_kept h K 79 ls st μ else bb X P m_X8_kept h K (vc X P m_X8_kept h K k_X8_kept S n) s_X8_kept_79 ls st μ := by rw [vc_s, t_X8_kept_79]
theorem w_X8_kept_85 : bb X P m_X8_kept h K J s_X8_kept_85 ls st μ = bb X P m_X8_kept h K J ((85, .iconst (-1), 1, 0, 0, 0, .inl (-1), []) ::
  (86, .ireturn, 1, 0, 0, 0, .inl 0, []) :: []) ls st μ := by rw [s_X8_kept_85]
theorem v_X8_kept_85 : vc X P m_X8_kept h K k_X8_kept S (n + 1) 85 ls st μ = if 85 ∈ S then mAt X m_X8_kept h K 85 ls st μ else bb X P m_X8_kept h K (vc X P m_X8_kept h K k_X8_kept S n) s_X8_kept_85 ls st μ := by rw [vc_s, t_X8_kept_85]
end
section
variable {X : mC} {P : mP} {h : Nat} {K : MV → Mem → Prop} {J : mJ} {ls : List (Nat × MV)} {st : List MV} {μ : Mem} {S : List Nat} {n : Nat}
theorem w_X8_kindle_0 : bb X P m_X8_kindle h K J s_X8_kindle_0 ls st μ = bb X P m_X8_kindle h K J ((0, .aload_n 0, 1, 0, 0, 0, .inl 0, []) ::
  (1, .iload_n 1, 1, 1, 0, 0, .inl 0, []) ::
  (2, .invokevirtual 268, 3, 104, 2, 1, .inl 0, [874, 7]) ::
  (5, .ifCond .eq 14, 3, 19, 0, 0, .inl 0, []) ::
  (8, .iload_n 2, 1, 2, 0, 0, .inl 0, []) ::
  (9, .iconst 1, 1, 0, 0, 0, .inl (nI 1), []) ::
  (10, .if_icmp .lt 9, 3, 19, 0, 0, .inl 0, []) ::
  (13, .iload_n 2, 1, 2, 0, 0, .inl 0, []) ::
  (14, .bipush 48, 2, 0, 0, 0, .inl (nI 48), []) ::
  (16, .if_icmp .le 6, 3, 22, 0, 0, .inl 0, []) :: s_X8_kindle_19) ls st μ := by rw [s_X8_kindle_0]
theorem v_X8_kindle_0 : vc X P m_X8_kindle h K k_X8_kindle S (n + 1) 0 ls st μ = if 0 ∈ S then mAt X m_X8_kindle h K 0 ls st μ else bb X P m_X8_kindle h K (vc X P m_X8_kindle h K k_X8_kindle S n) s_X8_kindle_0 ls st μ := by rw [vc_s, t_X8_kindle_0]
theorem w_X8_kindle_19 : bb X P m_X8_kindle h K J s_X8_kindle_19 ls st μ = bb X P m_X8_kindle h K J ((19, .bipush (-2), 2, 0, 0, 0, .inl (-2), []) ::
  (21, .ireturn, 1, 0, 0, 0, .inl 0, []) :: s_X8_kindle_22) ls st μ := by rw [s_X8_kindle_19]
theorem v_X8_kindle_19 : vc X P m_X8_kindle h K k_X8_kindle S (n + 1) 19 ls st μ = if 19 ∈ S then mAt X m_X8_kindle h K 19 ls st μ else bb X P m_X8_kindle h K (vc X P m_X8_kindle h K k_X8_kindle S n) s_X8_kindle_19 ls st μ := by rw [vc_s, t_X8_kindle_19]
theorem w_X8_kindle_22 : bb X P m_X8_kindle h K J s_X8_kindle_22 ls st μ = bb X P m_X8_kindle h K J ((22, .aload_n 0, 1, 0, 0, 0, .inl 0, []) ::
  (23, .getfield 19, 3, 7, 1, 3, .inr (.inr (0, 0, 4)), [479]) ::
  (26, .invokevirtual 181, 3, 2, 1, 1, .inl 0, [728, 0]) ::
  (29, .istore_n 3, 1, 3, 0, 0, .inl 0, []) ::
  (30, .iconst (-1), 1, 0, 0, 0, .inl (-1), []) ::
  (31, .istore 4, 2, 4, 0, 0, .inl 0, []) ::
  (33, .iconst 0, 1, 0, 0, 0, .inl (nI 0), []) ::
  (34, .istore 5, 2, 5, 0, 0, .inl 0, []) :: s_X8_kindle_36) ls st μ := by rw [s_X8_kindle_22]
theorem v_X8_kindle_22 : vc X P m_X8_kindle h K k_X8_kindle S (n + 1) 22 ls st μ = if 22 ∈ S then mAt X m_X8_kindle h K 22 ls st μ else bb X P m_X8_kindle h K (vc X P m_X8_kindle h K k_X8_kindle S n) s_X8_kindle_22 ls st μ := by rw [vc_s, t_X8_kindle_22]
theorem w_X8_kindle_36 : bb X P m_X8_kindle h K J s_X8_kindle_36 ls st μ = bb X P m_X8_kindle h K J ((36, .iload 5, 2, 5, 0, 0, .inl 0, []) ::
  (38, .iload_n 3, 1, 3, 0, 0, .inl 0, []) ::
  (39, .if_icmp .gt 63, 3, 102, 0, 0, .inl 0, []) ::
  (42, .aload_n 0, 1, 0, 0, 0, .inl 0, []) ::
  (43, .getfield 53, 3, 7, 8, 3, .inr (.inr (3, 0, 62)), [486]) ::
  (46, .aload_n 0, 1, 0, 0, 0, .inl 0, []) ::
  (47, .getfield 19, 3, 7, 1, 3, .inr (.inr (0, 0, 4)), [479]) ::
  (50, .iload 5, 2, 5, 0, 0, .inl 0, []) ::
  (52, .invokevirtual 321, 3, 46, 3, 1, .inl 0, [964, 3]) ::
  (55, .istore 6, 2, 6, 0, 0, .inl 0, []) ::
  (57, .iload 4, 2, 4, 0, 0, .inl 0, []) ::
  (59, .iconst (-1), 1, 0, 0, 0, .inl (-1), []) ::
  (60, .if_icmp .eq 10, 3, 70, 0, 0, .inl 0, []) ::
  (63, .iload 6, 2, 6, 0, 0, .inl 0, []) ::
  (65, .iload 4, 2, 4, 0, 0, .inl 0, []) ::
  (67, .if_icmp .ge 29, 3, 96, 0, 0, .inl 0, []) :: s_X8_kindle_70) ls st μ := by rw [s_X8_kindle_36]
theorem v_X8_kindle_36 : vc X P m_X8_kindle h K k_X8_kindle S (n + 1) 36 ls st μ = if 36 ∈ S then mAt X m_X8_kindle h K 36 ls st μ else bb X P m_X8_kindle h K (vc X P m_X8_kindle h K k_X8_kindle S n) s_X8_kindle_36 ls st μ := by rw [vc_s, t_X8_kindle_36]
theorem w_X8_kindle_70 : bb X P m_X8_kindle h K J s_X8_kindle_70 ls st μ = bb X P m_X8_kindle h K J ((70, .aload_n 0, 1, 0, 0, 0, .inl 0, []) ::
  (71, .getfield 53, 3, 7, 8, 3, .inr (.inr (3, 0, 62)), [486]) ::
  (74, .aload_n 0, 1, 0, 0, 0, .inl 0, []) ::
  (75, .getfield 19, 3, 7, 1, 3, .inr (.inr (0, 0, 4)), [479]) ::
  (78, .iload_n 1, 1, 1, 0, 0, .inl 0, []) ::
  (79, .iload_n 2, 1, 2, 0, 0, .inl 0, []) ::
  (80, .invokevirtual 325, 3, 30, 4, 1, .inl 0, [968, 3]) ::
  (83, .ifCond .eq 13, 3, 96, 0, 0, .inl 0, []) ::
  (86, .iload 6, 2, 6, 0, 0, .inl 0, []) ::
  (88, .istore 4, 2, 4, 0, 0, .inl 0, []) ::
  (90, .aload_n 0, 1, 0, 0, 0, .inl 0, []) ::
  (91, .iload 5, 2, 5, 0, 0, .inl 0, []) ::
  (93, .putfield 88, 3, 7, 16, 0, .inl 0, [494]) :: s_X8_kindle_96) ls st μ := by rw [s_X8_kindle_70]
theorem v_X8_kindle_70 : vc X P m_X8_kindle h K k_X8_kindle S (n + 1) 70 ls st μ = if 70 ∈ S then mAt X m_X8_kindle h K 70 ls st μ else bb X P m_X8_kindle h K (vc X P m_X8_kindle h K k_X8_kindle S n) s_X8_kindle_70 ls st μ := by rw [vc_s, t_X8_kindle_70]
theorem w_X8_kindle_96 : bb X P m_X8_kindle h K J s_X8_kindle_96 ls st μ = bb X P m_X8_kindle h K J ((96, .iinc 5 1, 3, 5, 0, 0, .inl (nI 1), []) ::
  (99, .goto (-63), 3, 36, 0, 0, .inl 0, []) :: s_X8_kindle_102) ls st μ := by rw [s_X8_kindle_96]
theorem v_X8_kindle_96 : vc X P m_X8_kindle h K k_X8_kindle S (n + 1) 96 ls st μ = if 96 ∈ S then mAt X m_X8_kindle h K 96 ls st μ else bb X P m_X8_kindle h K (vc X P m_X8_kindle h K k_X8_kindle S n) s_X8_kindle_96 ls st μ := by rw [vc_s, t_X8_kindle_96]
theorem w_X8_kindle_102 : bb X P m_X8_kindle h K J s_X8_kindle_102 ls st μ = bb X P m_X8_kindle h K J ((102, .iload 4, 2, 4, 0, 0, .inl 0, []) ::
  (104, .ireturn, 1, 0, 0, 0, .inl 0, []) :: []) ls st μ := by rw [s_X8_kindle_102]
theorem v_X8_kindle_102 : vc X P m_X8_kindle h K k_X8_kindle S (n + 1) 102 ls st μ = if 102 ∈ S then mAt X m_X8_kindle h K 102 ls st μ else bb X P m_X8_kindle h K (vc X P m_X8_kindle h K k_X8_kindle S n) s_X8_kindle_102 ls st μ := by rw [vc_s, t_X8_kindle_102]
end
section
variable {X : mC} {P : mP} {h : Nat} {K : MV → Mem → Prop} {J : mJ} {ls : List (Nat × MV)} {st : List MV} {μ : Mem} {S : List Nat} {n : Nat}
theorem w_X8_kindled_0 : bb X P m_X8_kindled h K J s_X8_kindled_0 ls st μ = bb X P m_X8_kindled h K J ((0, .aload_n 0, 1, 0, 0, 0, .inl 0, []) ::
  (1, .getfield 88, 3, 7, 16, 0, .inl 0, [494]) ::
  (4, .ireturn, 1, 0, 0, 0, .inl 0, []) :: []) ls st μ := by rw [s_X8_kindled_0]
theorem v_X8_kindled_0 : vc X P m_X8_kindled h K k_X8_kindled S (n + 1) 0 ls st μ = if 0 ∈ S then mAt X m_X8_kindled h K 0 ls st μ else bb X P m_X8_kindled h K (vc X P m_X8_kindled h K k_X8_kindled S n) s_X8_kindled_0 ls st μ := by rw [vc_s, t_X8_kindled_0]
end
section
variable {X : mC} {P : mP} {h : Nat} {K : MV → Mem → Prop} {J : mJ} {ls : List (Nat × MV)} {st : List MV} {μ : Mem} {S : List Nat} {n : Nat}
theorem w_X8_lacks_0 : bb X P m_X8_lacks h K J s_X8_lacks_0 ls st μ = bb X P m_X8_lacks h K J ((0, .aload_n 0, 1, 0, 0, 0, .inl 0, []) ::
  (1, .iload_n 1, 1, 1, 0, 0, .inl 0, []) ::
  (2, .iload_n 2, 1, 2, 0, 0, .inl 0, []) ::
  (3, .invokevirtual 209, 3, 105, 3, 1, .inl 0, [772, 7]) ::
  (6, .ifCond .eq 20, 3, 26, 0, 0, .inl 0, []) ::
  (9, .aload_n 0, 1, 0, 0, 0, .inl 0, []) ::
  (10, .getfield 49, 3, 7, 7, 3, .inr (.inr (3, 0, 50)), [485]) ::
  (13, .getfield 240, 3, 3, 4, 3, .inr (.inr (16, 48, 4)), [388]) ::
  (16, .iload_n 1, 1, 1, 0, 0, .inl 0, []) ::
  (17, .bipush 6, 2, 0, 0, 0, .inl (nI 6), []) ::
  (19, .imul, 1, 0, 0, 0, .inl 0, []) ::
  (20, .iload_n 2, 1, 2, 0, 0, .inl 0, []) ::
  (21, .iadd, 1, 0, 0, 0, .inl 0, []) ::
  (22, .iaload, 1, 0, 0, 0, .inl 0, []) ::
  (23, .goto 4, 3, 27, 0, 0, .inl 0, []) :: s_X8_lacks_26) ls st μ := by rw [s_X8_lacks_0]
theorem v_X8_lacks_0 : vc X P m_X8_lacks h K k_X8_lacks S (n + 1) 0 ls st μ = if 0 ∈ S then mAt X m_X8_lacks h K 0 ls st μ else bb X P m_X8_lacks h K (vc X P m_X8_lacks h K k_X8_lacks S n) s_X8_lacks_0 ls st μ := by rw [vc_s, t_X8_lacks_0]
theorem w_X8_lacks_26 : bb X P m_X8_lacks h K J s_X8_lacks_26 ls st μ = bb X P m_X8_lacks h K J ((26, .iconst (-1), 1, 0, 0, 0, .inl (-1), []) :: s_X8_lacks_27) ls st μ := by rw [s_X8_lacks_26]
theorem v_X8_lacks_26 : vc X P m_X8_lacks h K k_X8_lacks S (n + 1) 26 ls st μ = if 26 ∈ S then mAt X m_X8_lacks h K 26 ls st μ else bb X P m_X8_lacks h K (vc X P m_X8_lacks h K k_X8_lacks S n) s_X8_lacks_26 ls st μ := by rw [vc_s, t_X8_lacks_26]
theorem w_X8_lacks_27 : bb X P m_X8_lacks h K J s_X8_lacks_27 ls st μ = bb X P m_X8_lacks h K J ((27, .ireturn, 1, 0, 0, 0, .inl 0, []) :: []) ls st μ := by rw [s_X8_lacks_27]
theorem v_X8_lacks_27 : vc X P m_X8_lacks h K k_X8_lacks S (n + 1) 27 ls st μ = if 27 ∈ S then mAt X m_X8_lacks h K 27 ls st μ else bb X P m_X8_lacks h K (vc X P m_X8_lacks h K k_X8_lacks S n) s_X8_lacks_27 ls st μ := by rw [vc_s, t_X8_lacks_27]
end
section
variable {X : mC} {P : mP} {h : Nat} {K : MV → Mem → Prop} {J : mJ} {ls : List (Nat × MV)} {st : List MV} {μ : Mem} {S : List Nat} {n : Nat}
theorem w_X8_longer_0 : bb X P m_X8_longer h K J s_X8_longer_0 ls st μ = bb X P m_X8_longer h K J ((0, .iload_n 1, 1, 1, 0, 0, .inl 0, []) ::
  (1, .iconst 1, 1, 0, 0, 0, .inl (nI 1), []) ::
  (2, .if_icmp .lt 16, 3, 18, 0, 0, .inl 0, []) ::
  (5, .iload_n 1, 1, 1, 0, 0, .inl 0, []) ::
  (6, .bipush 11, 2, 0, 0, 0, .inl (nI 11), []) ::
  (8, .if_icmp .gt 10, 3, 18, 0, 0, .inl 0, []) ::
  (11, .iload_n 2, 1, 2, 0, 0, .inl 0, []) ::
  (12, .invokestatic 271, 3, 76, 1, 1, .inl 0, [878]) ::
  (15, .ifCond .ne 5, 3, 20, 0, 0, .inl 0, []) :: s_X8_longer_18) ls st μ := by rw [s_X8_longer_0]
theorem v_X8_longer_0 : vc X P m_X8_longer h K k_X8_longer S (n + 1) 0 ls st μ = if 0 ∈ S then mAt X m_X8_longer h K 0 ls st μ else bb X P m_X8_longer h K (vc X P m_X8_longer h K k_X8_longer S n) s_X8_longer_0 ls st μ := by rw [vc_s, t_X8_longer_0]
theorem w_X8_longer_18 : bb X P m_X8_longer h K J s_X8_longer_18 ls st μ = bb X P m_X8_longer h K J ((18, .iconst (-1), 1, 0, 0, 0, .inl (-1), []) ::
  (19, .ireturn, 1, 0, 0, 0, .inl 0, []) :: s_X8_longer_20) ls st μ := by rw [s_X8_longer_18]
theorem v_X8_longer_18 : vc X P m_X8_longer h K k_X8_longer S (n + 1) 18 ls st μ = if 18 ∈ S then mAt X m_X8_longer h K 18 ls st μ else bb X P m_X8_longer h K (vc X P m_X8_longer h K k_X8_longer S n) s_X8_longer_18 ls st μ := by rw [vc_s, t_X8_longer_18]
theorem w_X8_longer_20 : bb X P m_X8_longer h K J s_X8_longer_20 ls st μ = bb X P m_X8_longer h K J ((20, .aload_n 0, 1, 0, 0, 0, .inl 0, []) ::
  (21, .getfield 23, 3, 7, 2, 3, .inr (.inr (0, 0, 16)), [480]) ::
  (24, .aload_n 0, 1, 0, 0, 0, .inl 0, []) ::
  (25, .getfield 19, 3, 7, 1, 3, .inr (.inr (0, 0, 4)), [479]) ::
  (28, .invokevirtual 115, 3, 4, 2, 0, .inl 0, [659, 0]) ::
  (31, .iconst (-1), 1, 0, 0, 0, .inl (-1), []) ::
  (32, .istore_n 3, 1, 3, 0, 0, .inl 0, []) ::
  (33, .iconst (-1), 1, 0, 0, 0, .inl (-1), []) ::
  (34, .istore 4, 2, 4, 0, 0, .inl 0, []) ::
  (36, .iconst 0, 1, 0, 0, 0, .inl (nI 0), []) ::
  (37, .istore 5, 2, 5, 0, 0, .inl 0, []) :: s_X8_longer_39) ls st μ := by rw [s_X8_longer_20]
theorem v_X8_longer_20 : vc X P m_X8_longer h K k_X8_longer S (n + 1) 20 ls st μ = if 20 ∈ S then mAt X m_X8_longer h K 20 ls st μ else bb X P m_X8_longer h K (vc X P m_X8_longer h K k_X8_longer S n) s_X8_longer_20 ls st μ := by rw [vc_s, t_X8_longer_20]
theorem w_X8_longer_39 : bb X P m_X8_longer h K J s_X8_longer_39 ls st μ = bb X P m_X8_longer h K J ((39, .iload 5, 2, 5, 0, 0, .inl 0, []) ::
  (41, .aload_n 0, 1, 0, 0, 0, .inl 0, []) ::
  (42, .getfield 19, 3, 7, 1, 3, .inr (.inr (0, 0, 4)), [479]) ::
  (45, .getfield 175, 3, 0, 1, 0, .inl 0, [249]) ::
  (48, .if_icmp .ge 88, 3, 136, 0, 0, .inl 0, []) ::
  (51, .aload_n 0, 1, 0, 0, 0, .inl 0, []) ::
  (52, .getfield 23, 3, 7, 2, 3, .inr (.inr (0, 0, 16)), [480]) ::
  (55, .getfield 144, 3, 0, 8, 3, .inr (.inr (16, 8, 5)), [265]) ::
  (58, .iload 5, 2, 5, 0, 0, .inl 0, []) ::
  (60, .aload_n 0, 1, 0, 0, 0, .inl 0, []) ::
  (61, .getfield 19, 3, 7, 1, 3, .inr (.inr (0, 0, 4)), [479]) ::
  (64, .getfield 144, 3, 0, 8, 3, .inr (.inr (16, 8, 5)), [265]) ::
  (67, .iload 5, 2, 5, 0, 0, .inl 0, []) ::
  (69, .iaload, 1, 0, 0, 0, .inl 0, []) ::
  (70, .iload_n 1, 1, 1, 0, 0, .inl 0, []) ::
  (71, .iadd, 1, 0, 0, 0, .inl 0, []) ::
  (72, .bipush 11, 2, 0, 0, 0, .inl (nI 11), []) ::
  (74, .invokestatic 191, 3, 0, 2, 10, .inl 0, [716]) ::
  (77, .iastore, 1, 0, 0, 0, .inl 0, []) ::
  (78, .aload_n 0, 1, 0, 0, 0, .inl 0, []) ::
  (79, .aload_n 0, 1, 0, 0, 0, .inl 0, []) ::
  (80, .getfield 23, 3, 7, 2, 3, .inr (.inr (0, 0, 16)), [480]) ::
  (83, .aload_n 0, 1, 0, 0, 0, .inl 0, []) ::
  (84, .getfield 19, 3, 7, 1, 3, .inr (.inr (0, 0, 4)), [479]) ::
  (87, .invokevirtual 181, 3, 2, 1, 1, .inl 0, [728, 0]) ::
  (90, .iload_n 2, 1, 2, 0, 0, .inl 0, []) ::
  (91, .invokevirtual 274, 3, 114, 4, 1, .inl 0, [881, 7]) ::
  (94, .istore 6, 2, 6, 0, 0, .inl 0, []) ::
  (96, .aload_n 0, 1, 0, 0, 0, .inl 0, []) ::
  (97, .getfield 23, 3, 7, 2, 3, .inr (.inr (0, 0, 16)), [480]) ::
  (100, .getfield 144, 3, 0, 8, 3, .inr (.inr (16, 8, 5)), [265]) ::
  (103, .iload 5, 2, 5, 0, 0, .inl 0, []) ::
  (105, .aload_n 0, 1, 0, 0, 0, .inl 0, []) ::
  (106, .getfield 19, 3, 7, 1, 3, .inr (.inr (0, 0, 4)), [479]) ::
  (109, .getfield 144, 3, 0, 8, 3, .inr (.inr (16, 8, 5)), [265]) ::
  (112, .iload 5, 2, 5, 0, 0, .inl 0, []) ::
  (114, .iaload, 1, 0, 0, 0, .inl 0, []) ::
  (115, .iastore, 1, 0, 0, 0, .inl 0, []) ::
  (116, .iload 6, 2, 6, 0, 0, .inl 0, []) ::
  (118, .iload 4, 2, 4, 0, 0, .inl 0, []) ::
  (120, .if_icmp .le 10, 3, 130, 0, 0, .inl 0, []) ::
  (123, .iload 6, 2, 6, 0, 0, .inl 0, []) ::
  (125, .istore 4, 2, 4, 0, 0, .inl 0, []) ::
  (127, .iload 5, 2, 5, 0, 0, .inl 0, []) ::
  (129, .istore_n 3, 1, 3, 0, 0, .inl 0, []) :: s_X8_longer_130) ls st μ := by rw [s_X8_longer_39]
theorem v_X8_longer_39 : vc X P m_X8_longer h K k_X8_longer S (n + 1) 39 ls st μ = if 39 ∈ S then mAt X m_X8_longer h K 39 ls st μ else bb X P m_X8_longer h K (vc X P m_X8_longer h K k_X8_longer S n) s_X8_longer_39 ls st μ := by rw [vc_s, t_X8_longer_39]
theorem w_X8_longer_130 : bb X P m_X8_longer h K J s_X8_longer_130 ls st μ = bb X P m_X8_longer h K J ((130, .iinc 5 1, 3, 5, 0, 0, .inl (nI 1), []) ::
  (133, .goto (-94), 3, 39, 0, 0, .inl 0, []) :: s_X8_longer_136) ls st μ := by rw [s_X8_longer_130]
theorem v_X8_longer_130 : vc X P m_X8_longer h K k_X8_longer S (n + 1) 130 ls st μ = if 130 ∈ S then mAt X m_X8_longer h K 130 ls st μ else bb X P m_X8_longer h K (vc X P m_X8_longer h K k_X8_longer S n) s_X8_longer_130 ls st μ := by rw [vc_s, t_X8_longer_130]
theorem w_X8_longer_136 : bb X P m_X8_longer h K J s_X8_longer_136 ls st μ = bb X P m_X8_longer h K J ((136, .iload_n 3, 1, 3, 0, 0, .inl 0, []) ::
  (137, .ireturn, 1, 0, 0, 0, .inl 0, []) :: []) ls st μ := by rw [s_X8_longer_136]
theorem v_X8_longer_136 : vc X P m_X8_longer h K k_X8_longer S (n + 1) 136 ls st μ = if 136 ∈ S then mAt X m_X8_longer h K 136 ls st μ else bb X P m_X8_longer h K (vc X P m_X8_longer h K k_X8_longer S n) s_X8_longer_136 ls st μ := by rw [vc_s, t_X8_longer_136]
end
section
variable {X : mC} {P : mP} {h : Nat} {K : MV → Mem → Prop} {J : mJ} {ls : List (Nat × MV)} {st : List MV} {μ : Mem} {S : List Nat} {n : Nat}
theorem w_X8_loss_0 : bb X P m_X8_loss h K J s_X8_loss_0 ls st μ = bb X P m_X8_loss h K J ((0, .aload_n 0, 1, 0, 0, 0, .inl 0, []) ::
  (1, .iload_n 1, 1, 1, 0, 0, .inl 0, []) ::
  (2, .invokevirtual 163, 3, 102, 2, 1, .inl 0, [686, 7]) ::
  (5, .ifCond .eq 15, 3, 20, 0, 0, .inl 0, []) ::
  (8, .aload_n 0, 1, 0, 0, 0, .inl 0, []) ::
  (9, .getfield 19, 3, 7, 1, 3, .inr (.inr (0, 0, 4)), [479]) ::
  (12, .getfield 172, 3, 0, 6, 3, .inr (.inr (16, 6, 3)), [260]) ::
  (15, .iload_n 1, 1, 1, 0, 0, .inl 0, []) ::
  (16, .iaload, 1, 0, 0, 0, .inl 0, []) ::
  (17, .goto 4, 3, 21, 0, 0, .inl 0, []) :: s_X8_loss_20) ls st μ := by rw [s_X8_loss_0]
theorem v_X8_loss_0 : vc X P m_X8_loss h K k_X8_loss S (n + 1) 0 ls st μ = if 0 ∈ S then mAt X m_X8_loss h K 0 ls st μ else bb X P m_X8_loss h K (vc X P m_X8_loss h K k_X8_loss S n) s_X8_loss_0 ls st μ := by rw [vc_s, t_X8_loss_0]
theorem w_X8_loss_20 : bb X P m_X8_loss h K J s_X8_loss_20 ls st μ = bb X P m_X8_loss h K J ((20, .iconst (-1), 1, 0, 0, 0, .inl (-1), []) :: s_X8_loss_21) ls st μ := by rw [s_X8_loss_20]
theorem v_X8_loss_20 : vc X P m_X8_loss h K k_X8_loss S (n + 1) 20 ls st μ = if 20 ∈ S then mAt X m_X8_loss h K 20 ls st μ else bb X P m_X8_loss h K (vc X P m_X8_loss h K k_X8_loss S n) s_X8_loss_20 ls st μ := by rw [vc_s, t_X8_loss_20]
theorem w_X8_loss_21 : bb X P m_X8_loss h K J s_X8_loss_21 ls st μ = bb X P m_X8_loss h K J ((21, .ireturn, 1, 0, 0, 0, .inl 0, []) :: []) ls st μ := by rw [s_X8_loss_21]
theorem v_X8_loss_21 : vc X P m_X8_loss h K k_X8_loss S (n + 1) 21 ls st μ = if 21 ∈ S then mAt X m_X8_loss h K 21 ls st μ else bb X P m_X8_loss h K (vc X P m_X8_loss h K k_X8_loss S n) s_X8_loss_21 ls st μ := by rw [vc_s, t_X8_loss_21]
end
section
variable {X : mC} {P : mP} {h : Nat} {K : MV → Mem → Prop} {J : mJ} {ls : List (Nat × MV)} {st : List MV} {μ : Mem} {S : List Nat} {n : Nat}
theorem w_X8_made_0 : bb X P m_X8_made h K J s_X8_made_0 ls st μ = bb X P m_X8_made h K J ((0, .aload_n 0, 1, 0, 0, 0, .inl 0, []) ::
  (1, .invokevirtual 188, 3, 103, 1, 1, .inl 0, [712, 7]) ::
  (4, .ifCond .eq 17, 3, 21, 0, 0, .inl 0, []) ::
  (7, .aload_n 0, 1, 0, 0, 0, .inl 0, []) ::
  (8, .getfield 49, 3, 7, 7, 3, .inr (.inr (3, 0, 50)), [485]) ::
  (11, .aload_n 0, 1, 0, 0, 0, .inl 0, []) ::
  (12, .getfield 19, 3, 7, 1, 3, .inr (.inr (0, 0, 4)), [479]) ::
  (15, .invokevirtual 243, 3, 47, 2, 1, .inl 0, [804, 3]) ::
  (18, .goto 4, 3, 22, 0, 0, .inl 0, []) :: s_X8_made_21) ls st μ := by rw [s_X8_made_0]
theorem v_X8_made_0 : vc X P m_X8_made h K k_X8_made S (n + 1) 0 ls st μ = if 0 ∈ S then mAt X m_X8_made h K 0 ls st μ else bb X P m_X8_made h K (vc X P m_X8_made h K k_X8_made S n) s_X8_made_0 ls st μ := by rw [vc_s, t_X8_made_0]
theorem w_X8_made_21 : bb X P m_X8_made h K J s_X8_made_21 ls st μ = bb X P m_X8_made h K J ((21, .iconst (-1), 1, 0, 0, 0, .inl (-1), []) :: s_X8_made_22) ls st μ := by rw [s_X8_made_21]
theorem v_X8_made_21 : vc X P m_X8_made h K k_X8_made S (n + 1) 21 ls st μ = if 21 ∈ S then mAt X m_X8_made h K 21 ls st μ else bb X P m_X8_made h K (vc X P m_X8_made h K k_X8_made S n) s_X8_made_21 ls st μ := by rw [vc_s, t_X8_made_21]
theorem w_X8_made_22 : bb X P m_X8_made h K J s_X8_made_22 ls st μ = bb X P m_X8_made h K J ((22, .ireturn, 1, 0, 0, 0, .inl 0, []) :: []) ls st μ := by rw [s_X8_made_22]
theorem v_X8_made_22 : vc X P m_X8_made h K k_X8_made S (n + 1) 22 ls st μ = if 22 ∈ S then mAt X m_X8_made h K 22 ls st μ else bb X P m_X8_made h K (vc X P m_X8_made h K k_X8_made S n) s_X8_made_22 ls st μ := by rw [vc_s, t_X8_made_22]
end
section
variable {X : mC} {P : mP} {h : Nat} {K : MV → Mem → Prop} {J : mJ} {ls : List (Nat × MV)} {st : List MV} {μ : Mem} {S : List Nat} {n : Nat}
theorem w_X8_madeAlone_0 : bb X P m_X8_madeAlone h K J s_X8_madeAlone_0 ls st μ = bb X P m_X8_madeAlone h K J ((0, .iload_n 3, 1, 3, 0, 0, .inl 0, []) ::
  (1, .bipush 12, 2, 0, 0, 0, .inl (nI 12), []) ::
  (3, .idiv, 1, 0, 0, 0, .inl 0, []) ::
  (4, .istore 4, 2, 4, 0, 0, .inl 0, []) ::
  (6, .iconst 0, 1, 0, 0, 0, .inl (nI 0), []) ::
  (7, .istore 5, 2, 5, 0, 0, .inl 0, []) ::
  (9, .aload_n 0, 1, 0, 0, 0, .inl 0, []) ::
  (10, .getfield 53, 3, 7, 8, 3, .inr (.inr (3, 0, 62)), [486]) ::
  (13, .aload_n 1, 1, 1, 0, 0, .inl 0, []) ::
  (14, .invokevirtual 185, 3, 44, 2, 0, .inl 0, [698, 3]) ::
  (17, .iconst 0, 1, 0, 0, 0, .inl (nI 0), []) ::
  (18, .istore 6, 2, 6, 0, 0, .inl 0, []) :: s_X8_madeAlone_20) ls st μ := by rw [s_X8_madeAlone_0]
theorem v_X8_madeAlone_0 : vc X P m_X8_madeAlone h K k_X8_madeAlone S (n + 1) 0 ls st μ = if 0 ∈ S then mAt X m_X8_madeAlone h K 0 ls st μ else bb X P m_X8_madeAlone h K (vc X P m_X8_madeAlone h K k_X8_madeAlone S n) s_X8_madeAlone_0 ls st μ := by rw [vc_s, t_X8_madeAlone_0]
theorem w_X8_madeAlone_20 : bb X P m_X8_madeAlone h K J s_X8_madeAlone_20 ls st μ = bb X P m_X8_madeAlone h K J ((20, .iload 6, 2, 6, 0, 0, .inl 0, []) ::
  (22, .iload 4, 2, 4, 0, 0, .inl 0, []) ::
  (24, .if_icmp .ge 75, 3, 99, 0, 0, .inl 0, []) ::
  (27, .aload_n 0, 1, 0, 0, 0, .inl 0, []) ::
  (28, .getfield 56, 3, 7, 9, 3, .inr (.inr (3, 0, 74)), [487]) ::
  (31, .aload_n 0, 1, 0, 0, 0, .inl 0, []) ::
  (32, .getfield 53, 3, 7, 8, 3, .inr (.inr (3, 0, 62)), [486]) ::
  (35, .invokevirtual 278, 3, 33, 2, 0, .inl 0, [885, 3]) ::
  (38, .aload_n 0, 1, 0, 0, 0, .inl 0, []) ::
  (39, .getfield 53, 3, 7, 8, 3, .inr (.inr (3, 0, 62)), [486]) ::
  (42, .aload_n 1, 1, 1, 0, 0, .inl 0, []) ::
  (43, .iload_n 2, 1, 2, 0, 0, .inl 0, []) ::
  (44, .bipush 12, 2, 0, 0, 0, .inl (nI 12), []) ::
  (46, .invokevirtual 254, 3, 43, 4, 0, .inl 0, [845, 3]) ::
  (49, .aload_n 0, 1, 0, 0, 0, .inl 0, []) ::
  (50, .getfield 53, 3, 7, 8, 3, .inr (.inr (3, 0, 62)), [486]) ::
  (53, .aload_n 0, 1, 0, 0, 0, .inl 0, []) ::
  (54, .getfield 56, 3, 7, 9, 3, .inr (.inr (3, 0, 74)), [487]) ::
  (57, .invokevirtual 264, 3, 37, 2, 1, .inl 0, [862, 3]) ::
  (60, .ifCond .eq 33, 3, 93, 0, 0, .inl 0, []) ::
  (63, .iload 4, 2, 4, 0, 0, .inl 0, []) ::
  (65, .iconst 1, 1, 0, 0, 0, .inl (nI 1), []) ::
  (66, .isub, 1, 0, 0, 0, .inl 0, []) ::
  (67, .iload 6, 2, 6, 0, 0, .inl 0, []) ::
  (69, .isub, 1, 0, 0, 0, .inl 0, []) ::
  (70, .aload_n 0, 1, 0, 0, 0, .inl 0, []) ::
  (71, .getfield 53, 3, 7, 8, 3, .inr (.inr (3, 0, 62)), [486]) ::
  (74, .aload_n 1, 1, 1, 0, 0, .inl 0, []) ::
  (75, .invokevirtual 243, 3, 47, 2, 1, .inl 0, [804, 3]) ::
  (78, .aload_n 0, 1, 0, 0, 0, .inl 0, []) ::
  (79, .getfield 56, 3, 7, 9, 3, .inr (.inr (3, 0, 74)), [487]) ::
  (82, .aload_n 1, 1, 1, 0, 0, .inl 0, []) ::
  (83, .invokevirtual 243, 3, 47, 2, 1, .inl 0, [804, 3]) ::
  (86, .isub, 1, 0, 0, 0, .inl 0, []) ::
  (87, .imul, 1, 0, 0, 0, .inl 0, []) ::
  (88, .istore 5, 2, 5, 0, 0, .inl 0, []) ::
  (90, .goto 9, 3, 99, 0, 0, .inl 0, []) :: s_X8_madeAlone_93) ls st μ := by rw [s_X8_madeAlone_20]
theorem v_X8_madeAlone_20 : vc X P m_X8_madeAlone h K k_X8_madeAlone S (n + 1) 20 ls st μ = if 20 ∈ S then mAt X m_X8_madeAlone h K 20 ls st μ else bb X P m_X8_madeAlone h K (vc X P m_X8_madeAlone h K k_X8_madeAlone S n) s_X8_madeAlone_20 ls st μ := by rw [vc_s, t_X8_madeAlone_20]
theorem w_X8_madeAlone_93 : bb X P m_X8_madeAlone h K J s_X8_madeAlone_93 ls st μ = bb X P m_X8_madeAlone h K J ((93, .iinc 6 1, 3, 6, 0, 0, .inl (nI 1), []) ::
  (96, .goto (-76), 3, 20, 0, 0, .inl 0, []) :: s_X8_madeAlone_99) ls st μ := by rw [s_X8_madeAlone_93]
theorem v_X8_madeAlone_93 : vc X P m_X8_madeAlone h K k_X8_madeAlone S (n + 1) 93 ls st μ = if 93 ∈ S then mAt X m_X8_madeAlone h K 93 ls st μ else bb X P m_X8_madeAlone h K (vc X P m_X8_madeAlone h K k_X8_madeAlone S n) s_X8_madeAlone_93 ls st μ := by rw [vc_s, t_X8_madeAlone_93]
theorem w_X8_madeAlone_99 : bb X P m_X8_madeAlone h K J s_X8_madeAlone_99 ls st μ = bb X P m_X8_madeAlone h K J ((99, .aload_n 0, 1, 0, 0, 0, .inl 0, []) ::
  (100, .getfield 53, 3, 7, 8, 3, .inr (.inr (3, 0, 62)), [486]) ::
  (103, .aload_n 1, 1, 1, 0, 0, .inl 0, []) ::
  (104, .iload_n 2, 1, 2, 0, 0, .inl 0, []) ::
  (105, .iload_n 3, 1, 3, 0, 0, .inl 0, []) ::
  (106, .bipush 12, 2, 0, 0, 0, .inl (nI 12), []) ::
  (108, .irem, 1, 0, 0, 0, .inl 0, []) ::
  (109, .invokevirtual 254, 3, 43, 4, 0, .inl 0, [845, 3]) ::
  (112, .aload_n 0, 1, 0, 0, 0, .inl 0, []) ::
  (113, .getfield 53, 3, 7, 8, 3, .inr (.inr (3, 0, 62)), [486]) ::
  (116, .aload_n 1, 1, 1, 0, 0, .inl 0, []) ::
  (117, .invokevirtual 243, 3, 47, 2, 1, .inl 0, [804, 3]) ::
  (120, .iload 5, 2, 5, 0, 0, .inl 0, []) ::
  (122, .iadd, 1, 0, 0, 0, .inl 0, []) ::
  (123, .ireturn, 1, 0, 0, 0, .inl 0, []) :: []) ls st μ := by rw [s_X8_madeAlone_99]
theorem v_X8_madeAlone_99 : vc X P m_X8_madeAlone h K k_X8_madeAlone S (n + 1) 99 ls st μ = if 99 ∈ S then mAt X m_X8_madeAlone h K 99 ls st μ else bb X P m_X8_madeAlone h K (vc X P m_X8_madeAlone h K k_X8_madeAlone S n) s_X8_madeAlone_99 ls st μ := by rw [vc_s, t_X8_madeAlone_99]
end
section
variable {X : mC} {P : mP} {h : Nat} {K : MV → Mem → Prop} {J : mJ} {ls : List (Nat × MV)} {st : List MV} {μ : Mem} {S : List Nat} {n : Nat}
theorem w_X8_needed_0 : bb X P m_X8_needed h K J s_X8_needed_0 ls st μ = bb X P m_X8_needed h K J ((0, .aload_n 0, 1, 0, 0, 0, .inl 0, []) ::
  (1, .iload_n 1, 1, 1, 0, 0, .inl 0, []) ::
  (2, .invokevirtual 130, 3, 106, 2, 1, .inl 0, [682, 7]) ::
  (5, .ifCond .eq 10, 3, 15, 0, 0, .inl 0, []) ::
  (8, .iload_n 2, 1, 2, 0, 0, .inl 0, []) ::
  (9, .invokestatic 271, 3, 76, 1, 1, .inl 0, [878]) ::
  (12, .ifCond .ne 5, 3, 17, 0, 0, .inl 0, []) :: s_X8_needed_15) ls st μ := by rw [s_X8_needed_0]
theorem v_X8_needed_0 : vc X P m_X8_needed h K k_X8_needed S (n + 1) 0 ls st μ = if 0 ∈ S then mAt X m_X8_needed h K 0 ls st μ else bb X P m_X8_needed h K (vc X P m_X8_needed h K k_X8_needed S n) s_X8_needed_0 ls st μ := by rw [vc_s, t_X8_needed_0]
theorem w_X8_needed_15 : bb X P m_X8_needed h K J s_X8_needed_15 ls st μ = bb X P m_X8_needed h K J ((15, .iconst (-1), 1, 0, 0, 0, .inl (-1), []) ::
  (16, .ireturn, 1, 0, 0, 0, .inl 0, []) :: s_X8_needed_17) ls st μ := by rw [s_X8_needed_15]
theorem v_X8_needed_15 : vc X P m_X8_needed h K k_X8_needed S (n + 1) 15 ls st μ = if 15 ∈ S then mAt X m_X8_needed h K 15 ls st μ else bb X P m_X8_needed h K (vc X P m_X8_needed h K k_X8_needed S n) s_X8_needed_15 ls st μ := by rw [vc_s, t_X8_needed_15]
theorem w_X8_needed_17 : bb X P m_X8_needed h K J s_X8_needed_17 ls st μ = bb X P m_X8_needed h K J ((17, .aload_n 0, 1, 0, 0, 0, .inl 0, []) ::
  (18, .getfield 19, 3, 7, 1, 3, .inr (.inr (0, 0, 4)), [479]) ::
  (21, .invokevirtual 181, 3, 2, 1, 1, .inl 0, [728, 0]) ::
  (24, .istore_n 3, 1, 3, 0, 0, .inl 0, []) ::
  (25, .aload_n 0, 1, 0, 0, 0, .inl 0, []) ::
  (26, .aload_n 0, 1, 0, 0, 0, .inl 0, []) ::
  (27, .getfield 19, 3, 7, 1, 3, .inr (.inr (0, 0, 4)), [479]) ::
  (30, .iload_n 3, 1, 3, 0, 0, .inl 0, []) ::
  (31, .iload_n 2, 1, 2, 0, 0, .inl 0, []) ::
  (32, .invokevirtual 274, 3, 114, 4, 1, .inl 0, [881, 7]) ::
  (35, .aload_n 0, 1, 0, 0, 0, .inl 0, []) ::
  (36, .aload_n 0, 1, 0, 0, 0, .inl 0, []) ::
  (37, .getfield 19, 3, 7, 1, 3, .inr (.inr (0, 0, 4)), [479]) ::
  (40, .iload_n 3, 1, 3, 0, 0, .inl 0, []) ::
  (41, .iconst 1, 1, 0, 0, 0, .inl (nI 1), []) ::
  (42, .iload_n 1, 1, 1, 0, 0, .inl 0, []) ::
  (43, .ishl, 1, 0, 0, 0, .inl 0, []) ::
  (44, .iconst (-1), 1, 0, 0, 0, .inl (-1), []) ::
  (45, .ixor, 1, 0, 0, 0, .inl 0, []) ::
  (46, .iand, 1, 0, 0, 0, .inl 0, []) ::
  (47, .iload_n 2, 1, 2, 0, 0, .inl 0, []) ::
  (48, .invokevirtual 274, 3, 114, 4, 1, .inl 0, [881, 7]) ::
  (51, .isub, 1, 0, 0, 0, .inl 0, []) ::
  (52, .ireturn, 1, 0, 0, 0, .inl 0, []) :: []) ls st μ := by rw [s_X8_needed_17]
theorem v_X8_needed_17 : vc X P m_X8_needed h K k_X8_needed S (n + 1) 17 ls st μ = if 17 ∈ S then mAt X m_X8_needed h K 17 ls st μ else bb X P m_X8_needed h K (vc X P m_X8_needed h K k_X8_needed S n) s_X8_needed_17 ls st μ := by rw [vc_s, t_X8_needed_17]
end
section
variable {X : mC} {P : mP} {h : Nat} {K : MV → Mem → Prop} {J : mJ} {ls : List (Nat × MV)} {st : List MV} {μ : Mem} {S : List Nat} {n : Nat}
theorem w_X8_on_0 : bb X P m_X8_on h K J s_X8_on_0 ls st μ = bb X P m_X8_on h K J ((0, .iload_n 1, 1, 1, 0, 0, .inl 0, []) ::
  (1, .ifCond .lt 17, 3, 18, 0, 0, .inl 0, []) ::
  (4, .iload_n 1, 1, 1, 0, 0, .inl 0, []) ::
  (5, .sipush 200, 3, 0, 0, 0, .inl (nI 200), []) ::
  (8, .if_icmp .gt 10, 3, 18, 0, 0, .inl 0, []) ::
  (11, .aload_n 0, 1, 0, 0, 0, .inl 0, []) ::
  (12, .invokevirtual 188, 3, 103, 1, 1, .inl 0, [712, 7]) ::
  (15, .ifCond .ne 5, 3, 20, 0, 0, .inl 0, []) :: s_X8_on_18) ls st μ := by rw [s_X8_on_0]
theorem v_X8_on_0 : vc X P m_X8_on h K k_X8_on S (n + 1) 0 ls st μ = if 0 ∈ S then mAt X m_X8_on h K 0 ls st μ else bb X P m_X8_on h K (vc X P m_X8_on h K k_X8_on S n) s_X8_on_0 ls st μ := by rw [vc_s, t_X8_on_0]
theorem w_X8_on_18 : bb X P m_X8_on h K J s_X8_on_18 ls st μ = bb X P m_X8_on h K J ((18, .iconst (-1), 1, 0, 0, 0, .inl (-1), []) ::
  (19, .ireturn, 1, 0, 0, 0, .inl 0, []) :: s_X8_on_20) ls st μ := by rw [s_X8_on_18]
theorem v_X8_on_18 : vc X P m_X8_on h K k_X8_on S (n + 1) 18 ls st μ = if 18 ∈ S then mAt X m_X8_on h K 18 ls st μ else bb X P m_X8_on h K (vc X P m_X8_on h K k_X8_on S n) s_X8_on_18 ls st μ := by rw [vc_s, t_X8_on_18]
theorem w_X8_on_20 : bb X P m_X8_on h K J s_X8_on_20 ls st μ = bb X P m_X8_on h K J ((20, .iload_n 1, 1, 1, 0, 0, .inl 0, []) ::
  (21, .sipush 200, 3, 0, 0, 0, .inl (nI 200), []) ::
  (24, .aload_n 0, 1, 0, 0, 0, .inl 0, []) ::
  (25, .getfield 49, 3, 7, 7, 3, .inr (.inr (3, 0, 50)), [485]) ::
  (28, .getfield 123, 3, 3, 0, 0, .inl 0, [379]) ::
  (31, .isub, 1, 0, 0, 0, .inl 0, []) ::
  (32, .invokestatic 191, 3, 0, 2, 10, .inl 0, [716]) ::
  (35, .istore_n 2, 1, 2, 0, 0, .inl 0, []) ::
  (36, .iconst 0, 1, 0, 0, 0, .inl (nI 0), []) ::
  (37, .istore_n 3, 1, 3, 0, 0, .inl 0, []) :: s_X8_on_38) ls st μ := by rw [s_X8_on_20]
theorem v_X8_on_20 : vc X P m_X8_on h K k_X8_on S (n + 1) 20 ls st μ = if 20 ∈ S then mAt X m_X8_on h K 20 ls st μ else bb X P m_X8_on h K (vc X P m_X8_on h K k_X8_on S n) s_X8_on_20 ls st μ := by rw [vc_s, t_X8_on_20]
theorem w_X8_on_38 : bb X P m_X8_on h K J s_X8_on_38 ls st μ = bb X P m_X8_on h K J ((38, .iload_n 3, 1, 3, 0, 0, .inl 0, []) ::
  (39, .iload_n 2, 1, 2, 0, 0, .inl 0, []) ::
  (40, .if_icmp .ge 59, 3, 99, 0, 0, .inl 0, []) ::
  (43, .aload_n 0, 1, 0, 0, 0, .inl 0, []) ::
  (44, .getfield 29, 3, 7, 3, 3, .inr (.inr (2, 0, 28)), [481]) ::
  (47, .aload_n 0, 1, 0, 0, 0, .inl 0, []) ::
  (48, .getfield 19, 3, 7, 1, 3, .inr (.inr (0, 0, 4)), [479]) ::
  (51, .aload_n 0, 1, 0, 0, 0, .inl 0, []) ::
  (52, .getfield 49, 3, 7, 7, 3, .inr (.inr (3, 0, 50)), [485]) ::
  (55, .invokevirtual 197, 3, 22, 3, 0, .inl 0, [719, 2]) ::
  (58, .aload_n 0, 1, 0, 0, 0, .inl 0, []) ::
  (59, .getfield 49, 3, 7, 7, 3, .inr (.inr (3, 0, 50)), [485]) ::
  (62, .aload_n 0, 1, 0, 0, 0, .inl 0, []) ::
  (63, .getfield 19, 3, 7, 1, 3, .inr (.inr (0, 0, 4)), [479]) ::
  (66, .aload_n 0, 1, 0, 0, 0, .inl 0, []) ::
  (67, .getfield 19, 3, 7, 1, 3, .inr (.inr (0, 0, 4)), [479]) ::
  (70, .invokevirtual 181, 3, 2, 1, 1, .inl 0, [728, 0]) ::
  (73, .aload_n 0, 1, 0, 0, 0, .inl 0, []) ::
  (74, .getfield 29, 3, 7, 3, 3, .inr (.inr (2, 0, 28)), [481]) ::
  (77, .aload_n 0, 1, 0, 0, 0, .inl 0, []) ::
  (78, .getfield 49, 3, 7, 7, 3, .inr (.inr (3, 0, 50)), [485]) ::
  (81, .getfield 123, 3, 3, 0, 0, .inl 0, [379]) ::
  (84, .invokevirtual 201, 3, 29, 2, 1, .inl 0, [732, 2]) ::
  (87, .iconst (-1), 1, 0, 0, 0, .inl (-1), []) ::
  (88, .ixor, 1, 0, 0, 0, .inl 0, []) ::
  (89, .iand, 1, 0, 0, 0, .inl 0, []) ::
  (90, .invokevirtual 205, 3, 42, 3, 0, .inl 0, [736, 3]) ::
  (93, .iinc 3 1, 3, 3, 0, 0, .inl (nI 1), []) ::
  (96, .goto (-58), 3, 38, 0, 0, .inl 0, []) :: s_X8_on_99) ls st μ := by rw [s_X8_on_38]
theorem v_X8_on_38 : vc X P m_X8_on h K k_X8_on S (n + 1) 38 ls st μ = if 38 ∈ S then mAt X m_X8_on h K 38 ls st μ else bb X P m_X8_on h K (vc X P m_X8_on h K k_X8_on S n) s_X8_on_38 ls st μ := by rw [vc_s, t_X8_on_38]
theorem w_X8_on_99 : bb X P m_X8_on h K J s_X8_on_99 ls st μ = bb X P m_X8_on h K J ((99, .iload_n 2, 1, 2, 0, 0, .inl 0, []) ::
  (100, .ireturn, 1, 0, 0, 0, .inl 0, []) :: []) ls st μ := by rw [s_X8_on_99]
theorem v_X8_on_99 : vc X P m_X8_on h K k_X8_on S (n + 1) 99 ls st μ = if 99 ∈ S then mAt X m_X8_on h K 99 ls st μ else bb X P m_X8_on h K (vc X P m_X8_on h K k_X8_on S n) s_X8_on_99 ls st μ := by rw [vc_s, t_X8_on_99]
end
section
variable {X : mC} {P : mP} {h : Nat} {K : MV → Mem → Prop} {J : mJ} {ls : List (Nat × MV)} {st : List MV} {μ : Mem} {S : List Nat} {n : Nat}
theorem w_X8_order_0 : bb X P m_X8_order h K J s_X8_order_0 ls st μ = bb X P m_X8_order h K J ((0, .aload_n 0, 1, 0, 0, 0, .inl 0, []) ::
  (1, .getfield 53, 3, 7, 8, 3, .inr (.inr (3, 0, 62)), [486]) ::
  (4, .aload_n 0, 1, 0, 0, 0, .inl 0, []) ::
  (5, .getfield 19, 3, 7, 1, 3, .inr (.inr (0, 0, 4)), [479]) ::
  (8, .invokevirtual 185, 3, 44, 2, 0, .inl 0, [698, 3]) ::
  (11, .iconst 0, 1, 0, 0, 0, .inl (nI 0), []) ::
  (12, .istore_n 2, 1, 2, 0, 0, .inl 0, []) ::
  (13, .iconst 0, 1, 0, 0, 0, .inl (nI 0), []) ::
  (14, .istore_n 3, 1, 3, 0, 0, .inl 0, []) ::
  (15, .iconst 0, 1, 0, 0, 0, .inl (nI 0), []) ::
  (16, .istore 4, 2, 4, 0, 0, .inl 0, []) :: s_X8_order_18) ls st μ := by rw [s_X8_order_0]
theorem v_X8_order_0 : vc X P m_X8_order h K k_X8_order S (n + 1) 0 ls st μ = if 0 ∈ S then mAt X m_X8_order h K 0 ls st μ else bb X P m_X8_order h K (vc X P m_X8_order h K k_X8_order S n) s_X8_order_0 ls st μ := by rw [vc_s, t_X8_order_0]
theorem w_X8_order_18 : bb X P m_X8_order h K J s_X8_order_18 ls st μ = bb X P m_X8_order h K J ((18, .iload 4, 2, 4, 0, 0, .inl 0, []) ::
  (20, .sipush 200, 3, 0, 0, 0, .inl (nI 200), []) ::
  (23, .if_icmp .ge 87, 3, 110, 0, 0, .inl 0, []) ::
  (26, .aload_n 0, 1, 0, 0, 0, .inl 0, []) ::
  (27, .getfield 53, 3, 7, 8, 3, .inr (.inr (3, 0, 62)), [486]) ::
  (30, .aload_n 0, 1, 0, 0, 0, .inl 0, []) ::
  (31, .getfield 19, 3, 7, 1, 3, .inr (.inr (0, 0, 4)), [479]) ::
  (34, .aload_n 0, 1, 0, 0, 0, .inl 0, []) ::
  (35, .getfield 19, 3, 7, 1, 3, .inr (.inr (0, 0, 4)), [479]) ::
  (38, .invokevirtual 181, 3, 2, 1, 1, .inl 0, [728, 0]) ::
  (41, .invokevirtual 205, 3, 42, 3, 0, .inl 0, [736, 3]) ::
  (44, .iconst 0, 1, 0, 0, 0, .inl (nI 0), []) ::
  (45, .istore 5, 2, 5, 0, 0, .inl 0, []) :: s_X8_order_47) ls st μ := by rw [s_X8_order_18]
theorem v_X8_order_18 : vc X P m_X8_order h K k_X8_order S (n + 1) 18 ls st μ = if 18 ∈ S then mAt X m_X8_order h K 18 ls st μ else bb X P m_X8_order h K (vc X P m_X8_order h K k_X8_order S n) s_X8_order_18 ls st μ := by rw [vc_s, t_X8_order_18]
theorem w_X8_order_47 : bb X P m_X8_order h K J s_X8_order_47 ls st μ = bb X P m_X8_order h K J ((47, .iload 5, 2, 5, 0, 0, .inl 0, []) ::
  (49, .aload_n 0, 1, 0, 0, 0, .inl 0, []) ::
  (50, .getfield 19, 3, 7, 1, 3, .inr (.inr (0, 0, 4)), [479]) ::
  (53, .getfield 175, 3, 0, 1, 0, .inl 0, [249]) ::
  (56, .if_icmp .ge 48, 3, 104, 0, 0, .inl 0, []) ::
  (59, .aload_n 0, 1, 0, 0, 0, .inl 0, []) ::
  (60, .getfield 53, 3, 7, 8, 3, .inr (.inr (3, 0, 62)), [486]) ::
  (63, .iload 5, 2, 5, 0, 0, .inl 0, []) ::
  (65, .invokevirtual 225, 3, 48, 2, 1, .inl 0, [780, 3]) ::
  (68, .ifCond .eq 30, 3, 98, 0, 0, .inl 0, []) ::
  (71, .iload_n 2, 1, 2, 0, 0, .inl 0, []) ::
  (72, .iload 5, 2, 5, 0, 0, .inl 0, []) ::
  (74, .ishr, 1, 0, 0, 0, .inl 0, []) ::
  (75, .iconst 1, 1, 0, 0, 0, .inl (nI 1), []) ::
  (76, .iand, 1, 0, 0, 0, .inl 0, []) ::
  (77, .ifCond .ne 21, 3, 98, 0, 0, .inl 0, []) ::
  (80, .iload_n 3, 1, 3, 0, 0, .inl 0, []) ::
  (81, .iload_n 1, 1, 1, 0, 0, .inl 0, []) ::
  (82, .if_icmp .ne 6, 3, 88, 0, 0, .inl 0, []) ::
  (85, .iload 5, 2, 5, 0, 0, .inl 0, []) ::
  (87, .ireturn, 1, 0, 0, 0, .inl 0, []) :: s_X8_order_88) ls st μ := by rw [s_X8_order_47]
theorem v_X8_order_47 : vc X P m_X8_order h K k_X8_order S (n + 1) 47 ls st μ = if 47 ∈ S then mAt X m_X8_order h K 47 ls st μ else bb X P m_X8_order h K (vc X P m_X8_order h K k_X8_order S n) s_X8_order_47 ls st μ := by rw [vc_s, t_X8_order_47]
theorem w_X8_order_88 : bb X P m_X8_order h K J s_X8_order_88 ls st μ = bb X P m_X8_order h K J ((88, .iload_n 2, 1, 2, 0, 0, .inl 0, []) ::
  (89, .iconst 1, 1, 0, 0, 0, .inl (nI 1), []) ::
  (90, .iload 5, 2, 5, 0, 0, .inl 0, []) ::
  (92, .ishl, 1, 0, 0, 0, .inl 0, []) ::
  (93, .ior, 1, 0, 0, 0, .inl 0, []) ::
  (94, .istore_n 2, 1, 2, 0, 0, .inl 0, []) ::
  (95, .iinc 3 1, 3, 3, 0, 0, .inl (nI 1), []) :: s_X8_order_98) ls st μ := by rw [s_X8_order_88]
theorem v_X8_order_88 : vc X P m_X8_order h K k_X8_order S (n + 1) 88 ls st μ = if 88 ∈ S then mAt X m_X8_order h K 88 ls st μ else bb X P m_X8_order h K (vc X P m_X8_order h K k_X8_order S n) s_X8_order_88 ls st μ := by rw [vc_s, t_X8_order_88]
theorem w_X8_order_98 : bb X P m_X8_order h K J s_X8_order_98 ls st μ = bb X P m_X8_order h K J ((98, .iinc 5 1, 3, 5, 0, 0, .inl (nI 1), []) ::
  (101, .goto (-54), 3, 47, 0, 0, .inl 0, []) :: s_X8_order_104) ls st μ := by rw [s_X8_order_98]
theorem v_X8_order_98 : vc X P m_X8_order h K k_X8_order S (n + 1) 98 ls st μ = if 98 ∈ S then mAt X m_X8_order h K 98 ls st μ else bb X P m_X8_order h K (vc X P m_X8_order h K k_X8_order S n) s_X8_order_98 ls st μ := by rw [vc_s, t_X8_order_98]
theorem w_X8_order_104 : bb X P m_X8_order h K J s_X8_order_104 ls st μ = bb X P m_X8_order h K J ((104, .iinc 4 1, 3, 4, 0, 0, .inl (nI 1), []) ::
  (107, .goto (-89), 3, 18, 0, 0, .inl 0, []) :: s_X8_order_110) ls st μ := by rw [s_X8_order_104]
theorem v_X8_order_104 : vc X P m_X8_order h K k_X8_order S (n + 1) 104 ls st μ = if 104 ∈ S then mAt X m_X8_order h K 104 ls st μ else bb X P m_X8_order h K (vc X P m_X8_order h K k_X8_order S n) s_X8_order_104 ls st μ := by rw [vc_s, t_X8_order_104]
theorem w_X8_order_110 : bb X P m_X8_order h K J s_X8_order_110 ls st μ = bb X P m_X8_order h K J ((110, .iconst (-1), 1, 0, 0, 0, .inl (-1), []) ::
  (111, .ireturn, 1, 0, 0, 0, .inl 0, []) :: []) ls st μ := by rw [s_X8_order_110]
theorem v_X8_order_110 : vc X P m_X8_order h K k_X8_order S (n + 1) 110 ls st μ = if 110 ∈ S then mAt X m_X8_order h K 110 ls st μ else bb X P m_X8_order h K (vc X P m_X8_order h K k_X8_order S n) s_X8_order_110 ls st μ := by rw [vc_s, t_X8_order_110]
end
section
variable {X : mC} {P : mP} {h : Nat} {K : MV → Mem → Prop} {J : mJ} {ls : List (Nat × MV)} {st : List MV} {μ : Mem} {S : List Nat} {n : Nat}
theorem w_X8_parts_0 : bb X P m_X8_parts h K J s_X8_parts_0 ls st μ = bb X P m_X8_parts h K J ((0, .aload_n 0, 1, 0, 0, 0, .inl 0, []) ::
  (1, .invokevirtual 188, 3, 103, 1, 1, .inl 0, [712, 7]) ::
  (4, .ifCond .eq 11, 3, 15, 0, 0, .inl 0, []) ::
  (7, .aload_n 0, 1, 0, 0, 0, .inl 0, []) ::
  (8, .iload_n 1, 1, 1, 0, 0, .inl 0, []) ::
  (9, .invokevirtual 163, 3, 102, 2, 1, .inl 0, [686, 7]) ::
  (12, .ifCond .ne 5, 3, 17, 0, 0, .inl 0, []) :: s_X8_parts_15) ls st μ := by rw [s_X8_parts_0]
theorem v_X8_parts_0 : vc X P m_X8_parts h K k_X8_parts S (n + 1) 0 ls st μ = if 0 ∈ S then mAt X m_X8_parts h K 0 ls st μ else bb X P m_X8_parts h K (vc X P m_X8_parts h K k_X8_parts S n) s_X8_parts_0 ls st μ := by rw [vc_s, t_X8_parts_0]
theorem w_X8_parts_15 : bb X P m_X8_parts h K J s_X8_parts_15 ls st μ = bb X P m_X8_parts h K J ((15, .iconst (-1), 1, 0, 0, 0, .inl (-1), []) ::
  (16, .ireturn, 1, 0, 0, 0, .inl 0, []) :: s_X8_parts_17) ls st μ := by rw [s_X8_parts_15]
theorem v_X8_parts_15 : vc X P m_X8_parts h K k_X8_parts S (n + 1) 15 ls st μ = if 15 ∈ S then mAt X m_X8_parts h K 15 ls st μ else bb X P m_X8_parts h K (vc X P m_X8_parts h K k_X8_parts S n) s_X8_parts_15 ls st μ := by rw [vc_s, t_X8_parts_15]
theorem w_X8_parts_17 : bb X P m_X8_parts h K J s_X8_parts_17 ls st μ = bb X P m_X8_parts h K J ((17, .iload_n 2, 1, 2, 0, 0, .inl 0, []) ::
  (18, .ifCond .lt 23, 3, 41, 0, 0, .inl 0, []) ::
  (21, .iload_n 2, 1, 2, 0, 0, .inl 0, []) ::
  (22, .iconst 5, 1, 0, 0, 0, .inl (nI 5), []) ::
  (23, .if_icmp .gt 18, 3, 41, 0, 0, .inl 0, []) ::
  (26, .aload_n 0, 1, 0, 0, 0, .inl 0, []) ::
  (27, .getfield 49, 3, 7, 7, 3, .inr (.inr (3, 0, 50)), [485]) ::
  (30, .getfield 228, 3, 3, 11, 3, .inr (.inr (16, 36, 11)), [402]) ::
  (33, .iload_n 2, 1, 2, 0, 0, .inl 0, []) ::
  (34, .bipush 6, 2, 0, 0, 0, .inl (nI 6), []) ::
  (36, .imul, 1, 0, 0, 0, .inl 0, []) ::
  (37, .iload_n 1, 1, 1, 0, 0, .inl 0, []) ::
  (38, .iadd, 1, 0, 0, 0, .inl 0, []) ::
  (39, .iaload, 1, 0, 0, 0, .inl 0, []) ::
  (40, .ireturn, 1, 0, 0, 0, .inl 0, []) :: s_X8_parts_41) ls st μ := by rw [s_X8_parts_17]
theorem v_X8_parts_17 : vc X P m_X8_parts h K k_X8_parts S (n + 1) 17 ls st μ = if 17 ∈ S then mAt X m_X8_parts h K 17 ls st μ else bb X P m_X8_parts h K (vc X P m_X8_parts h K k_X8_parts S n) s_X8_parts_17 ls st μ := by rw [vc_s, t_X8_parts_17]
theorem w_X8_parts_41 : bb X P m_X8_parts h K J s_X8_parts_41 ls st μ = bb X P m_X8_parts h K J ((41, .iload_n 2, 1, 2, 0, 0, .inl 0, []) ::
  (42, .bipush 6, 2, 0, 0, 0, .inl (nI 6), []) ::
  (44, .if_icmp .ne 12, 3, 56, 0, 0, .inl 0, []) ::
  (47, .aload_n 0, 1, 0, 0, 0, .inl 0, []) ::
  (48, .getfield 49, 3, 7, 7, 3, .inr (.inr (3, 0, 50)), [485]) ::
  (51, .iload_n 1, 1, 1, 0, 0, .inl 0, []) ::
  (52, .invokevirtual 231, 3, 36, 2, 1, .inl 0, [788, 3]) ::
  (55, .ireturn, 1, 0, 0, 0, .inl 0, []) :: s_X8_parts_56) ls st μ := by rw [s_X8_parts_41]
theorem v_X8_parts_41 : vc X P m_X8_parts h K k_X8_parts S (n + 1) 41 ls st μ = if 41 ∈ S then mAt X m_X8_parts h K 41 ls st μ else bb X P m_X8_parts h K (vc X P m_X8_parts h K k_X8_parts S n) s_X8_parts_41 ls st μ := by rw [vc_s, t_X8_parts_41]
theorem w_X8_parts_56 : bb X P m_X8_parts h K J s_X8_parts_56 ls st μ = bb X P m_X8_parts h K J ((56, .iload_n 2, 1, 2, 0, 0, .inl 0, []) ::
  (57, .bipush 7, 2, 0, 0, 0, .inl (nI 7), []) ::
  (59, .if_icmp .ne 15, 3, 74, 0, 0, .inl 0, []) ::
  (62, .aload_n 0, 1, 0, 0, 0, .inl 0, []) ::
  (63, .getfield 49, 3, 7, 7, 3, .inr (.inr (3, 0, 50)), [485]) ::
  (66, .getfield 234, 3, 3, 5, 3, .inr (.inr (16, 6, 5)), [390]) ::
  (69, .iload_n 1, 1, 1, 0, 0, .inl 0, []) ::
  (70, .iaload, 1, 0, 0, 0, .inl 0, []) ::
  (71, .goto 4, 3, 75, 0, 0, .inl 0, []) :: s_X8_parts_74) ls st μ := by rw [s_X8_parts_56]
theorem v_X8_parts_56 : vc X P m_X8_parts h K k_X8_parts S (n + 1) 56 ls st μ = if 56 ∈ S then mAt X m_X8_parts h K 56 ls st μ else bb X P m_X8_parts h K (vc X P m_X8_parts h K k_X8_parts S n) s_X8_parts_56 ls st μ := by rw [vc_s, t_X8_parts_56]
theorem w_X8_parts_74 : bb X P m_X8_parts h K J s_X8_parts_74 ls st μ = bb X P m_X8_parts h K J ((74, .iconst (-1), 1, 0, 0, 0, .inl (-1), []) :: s_X8_parts_75) ls st μ := by rw [s_X8_parts_74]
theorem v_X8_parts_74 : vc X P m_X8_parts h K k_X8_parts S (n + 1) 74 ls st μ = if 74 ∈ S then mAt X m_X8_parts h K 74 ls st μ else bb X P m_X8_parts h K (vc X P m_X8_parts h K k_X8_parts S n) s_X8_parts_74 ls st μ := by rw [vc_s, t_X8_parts_74]
theorem w_X8_parts_75 : bb X P m_X8_parts h K J s_X8_parts_75 ls st μ = bb X P m_X8_parts h K J ((75, .ireturn, 1, 0, 0, 0, .inl 0, []) :: []) ls st μ := by rw [s_X8_parts_75]
theorem v_X8_parts_75 : vc X P m_X8_parts h K k_X8_parts S (n + 1) 75 ls st μ = if 75 ∈ S then mAt X m_X8_parts h K 75 ls st μ else bb X P m_X8_parts h K (vc X P m_X8_parts h K k_X8_parts S n) s_X8_parts_75 ls st μ := by rw [vc_s, t_X8_parts_75]
end
section
variable {X : mC} {P : mP} {h : Nat} {K : MV → Mem → Prop} {J : mJ} {ls : List (Nat × MV)} {st : List MV} {μ : Mem} {S : List Nat} {n : Nat}
theorem w_X8_periodAtEnd_0 : bb X P m_X8_periodAtEnd h K J s_X8_periodAtEnd_0 ls st μ = bb X P m_X8_periodAtEnd h K J ((0, .aload_n 0, 1, 0, 0, 0, .inl 0, []) ::
  (1, .getfield 53, 3, 7, 8, 3, .inr (.inr (3, 0, 62)), [486]) ::
  (4, .aload_n 0, 1, 0, 0, 0, .inl 0, []) ::
  (5, .getfield 19, 3, 7, 1, 3, .inr (.inr (0, 0, 4)), [479]) ::
  (8, .invokevirtual 185, 3, 44, 2, 0, .inl 0, [698, 3]) ::
  (11, .aload_n 0, 1, 0, 0, 0, .inl 0, []) ::
  (12, .getfield 53, 3, 7, 8, 3, .inr (.inr (3, 0, 62)), [486]) ::
  (15, .aload_n 0, 1, 0, 0, 0, .inl 0, []) ::
  (16, .getfield 19, 3, 7, 1, 3, .inr (.inr (0, 0, 4)), [479]) ::
  (19, .aload_n 0, 1, 0, 0, 0, .inl 0, []) ::
  (20, .getfield 19, 3, 7, 1, 3, .inr (.inr (0, 0, 4)), [479]) ::
  (23, .invokevirtual 181, 3, 2, 1, 1, .inl 0, [728, 0]) ::
  (26, .sipush 200, 3, 0, 0, 0, .inl (nI 200), []) ::
  (29, .invokevirtual 254, 3, 43, 4, 0, .inl 0, [845, 3]) ::
  (32, .aload_n 0, 1, 0, 0, 0, .inl 0, []) ::
  (33, .getfield 56, 3, 7, 9, 3, .inr (.inr (3, 0, 74)), [487]) ::
  (36, .aload_n 0, 1, 0, 0, 0, .inl 0, []) ::
  (37, .getfield 19, 3, 7, 1, 3, .inr (.inr (0, 0, 4)), [479]) ::
  (40, .invokevirtual 185, 3, 44, 2, 0, .inl 0, [698, 3]) ::
  (43, .iconst 0, 1, 0, 0, 0, .inl (nI 0), []) ::
  (44, .istore_n 1, 1, 1, 0, 0, .inl 0, []) ::
  (45, .iconst 0, 1, 0, 0, 0, .inl (nI 0), []) ::
  (46, .istore_n 2, 1, 2, 0, 0, .inl 0, []) :: s_X8_periodAtEnd_47) ls st μ := by rw [s_X8_periodAtEnd_0]
theorem v_X8_periodAtEnd_0 : vc X P m_X8_periodAtEnd h K k_X8_periodAtEnd S (n + 1) 0 ls st μ = if 0 ∈ S then mAt X m_X8_periodAtEnd h K 0 ls st μ else bb X P m_X8_periodAtEnd h K (vc X P m_X8_periodAtEnd h K k_X8_periodAtEnd S n) s_X8_periodAtEnd_0 ls st μ := by rw [vc_s, t_X8_periodAtEnd_0]
theorem w_X8_periodAtEnd_47 : bb X P m_X8_periodAtEnd h K J s_X8_periodAtEnd_47 ls st μ = bb X P m_X8_periodAtEnd h K J ((47, .iload_n 2, 1, 2, 0, 0, .inl 0, []) ::
  (48, .sipush 188, 3, 0, 0, 0, .inl (nI 188), []) ::
  (51, .if_icmp .ge 56, 3, 107, 0, 0, .inl 0, []) ::
  (54, .aload_n 0, 1, 0, 0, 0, .inl 0, []) ::
  (55, .getfield 56, 3, 7, 9, 3, .inr (.inr (3, 0, 74)), [487]) ::
  (58, .aload_n 0, 1, 0, 0, 0, .inl 0, []) ::
  (59, .getfield 19, 3, 7, 1, 3, .inr (.inr (0, 0, 4)), [479]) ::
  (62, .aload_n 0, 1, 0, 0, 0, .inl 0, []) ::
  (63, .getfield 19, 3, 7, 1, 3, .inr (.inr (0, 0, 4)), [479]) ::
  (66, .invokevirtual 181, 3, 2, 1, 1, .inl 0, [728, 0]) ::
  (69, .invokevirtual 205, 3, 42, 3, 0, .inl 0, [736, 3]) ::
  (72, .sipush 199, 3, 0, 0, 0, .inl (nI 199), []) ::
  (75, .iload_n 2, 1, 2, 0, 0, .inl 0, []) ::
  (76, .isub, 1, 0, 0, 0, .inl 0, []) ::
  (77, .istore_n 3, 1, 3, 0, 0, .inl 0, []) ::
  (78, .iload_n 3, 1, 3, 0, 0, .inl 0, []) ::
  (79, .bipush 12, 2, 0, 0, 0, .inl (nI 12), []) ::
  (81, .irem, 1, 0, 0, 0, .inl 0, []) ::
  (82, .ifCond .ne 19, 3, 101, 0, 0, .inl 0, []) ::
  (85, .aload_n 0, 1, 0, 0, 0, .inl 0, []) ::
  (86, .getfield 56, 3, 7, 9, 3, .inr (.inr (3, 0, 74)), [487]) ::
  (89, .aload_n 0, 1, 0, 0, 0, .inl 0, []) ::
  (90, .getfield 53, 3, 7, 8, 3, .inr (.inr (3, 0, 62)), [486]) ::
  (93, .invokevirtual 264, 3, 37, 2, 1, .inl 0, [862, 3]) ::
  (96, .ifCond .eq 5, 3, 101, 0, 0, .inl 0, []) ::
  (99, .iload_n 3, 1, 3, 0, 0, .inl 0, []) ::
  (100, .istore_n 1, 1, 1, 0, 0, .inl 0, []) :: s_X8_periodAtEnd_101) ls st μ := by rw [s_X8_periodAtEnd_47]
theorem v_X8_periodAtEnd_47 : vc X P m_X8_periodAtEnd h K k_X8_periodAtEnd S (n + 1) 47 ls st μ = if 47 ∈ S then mAt X m_X8_periodAtEnd h K 47 ls st μ else bb X P m_X8_periodAtEnd h K (vc X P m_X8_periodAtEnd h K k_X8_periodAtEnd S n) s_X8_periodAtEnd_47 ls st μ := by rw [vc_s, t_X8_periodAtEnd_47]
theorem w_X8_periodAtEnd_101 : bb X P m_X8_periodAtEnd h K J s_X8_periodAtEnd_101 ls st μ = bb X P m_X8_periodAtEnd h K J ((101, .iinc 2 1, 3, 2, 0, 0, .inl (nI 1), []) ::
  (104, .goto (-57), 3, 47, 0, 0, .inl 0, []) :: s_X8_periodAtEnd_107) ls st μ := by rw [s_X8_periodAtEnd_101]
theorem v_X8_periodAtEnd_101 : vc X P m_X8_periodAtEnd h K k_X8_periodAtEnd S (n + 1) 101 ls st μ = if 101 ∈ S then mAt X m_X8_periodAtEnd h K 101 ls st μ else bb X P m_X8_periodAtEnd h K (vc X P m_X8_periodAtEnd h K k_X8_periodAtEnd S n) s_X8_periodAtEnd_101 ls st μ := by rw [vc_s, t_X8_periodAtEnd_101]
theorem w_X8_periodAtEnd_107 : bb X P m_X8_periodAtEnd h K J s_X8_periodAtEnd_107 ls st μ = bb X P m_X8_periodAtEnd h K J ((107, .iload_n 1, 1, 1, 0, 0, .inl 0, []) ::
  (108, .ireturn, 1, 0, 0, 0, .inl 0, []) :: []) ls st μ := by rw [s_X8_periodAtEnd_107]
theorem v_X8_periodAtEnd_107 : vc X P m_X8_periodAtEnd h K k_X8_periodAtEnd S (n + 1) 107 ls st μ = if 107 ∈ S then mAt X m_X8_periodAtEnd h K 107 ls st μ else bb X P m_X8_periodAtEnd h K (vc X P m_X8_periodAtEnd h K k_X8_periodAtEnd S n) s_X8_periodAtEnd_107 ls st μ := by rw [vc_s, t_X8_periodAtEnd_107]
end
section
variable {X : mC} {P : mP} {h : Nat} {K : MV → Mem → Prop} {J : mJ} {ls : List (Nat × MV)} {st : List MV} {μ : Mem} {S : List Nat} {n : Nat}
theorem w_X8_plan_0 : bb X P m_X8_plan h K J s_X8_plan_0 ls st μ = bb X P m_X8_plan h K J ((0, .aload_n 0, 1, 0, 0, 0, .inl 0, []) ::
  (1, .getfield 33, 3, 7, 4, 3, .inr (.inr (2, 0, 35)), [482]) ::
  (4, .aload_n 0, 1, 0, 0, 0, .inl 0, []) ::
  (5, .getfield 12, 3, 7, 0, 3, .inr (.inr (5, 0, 1)), [478]) ::
  (8, .aload_n 0, 1, 0, 0, 0, .inl 0, []) ::
  (9, .getfield 19, 3, 7, 1, 3, .inr (.inr (0, 0, 4)), [479]) ::
  (12, .invokevirtual 247, 3, 26, 3, 1, .inl 0, [812, 2]) ::
  (15, .istore_n 1, 1, 1, 0, 0, .inl 0, []) ::
  (16, .aload_n 0, 1, 0, 0, 0, .inl 0, []) ::
  (17, .invokevirtual 109, 3, 82, 1, 0, .inl 0, [655, 7]) ::
  (20, .iload_n 1, 1, 1, 0, 0, .inl 0, []) ::
  (21, .ifCond .ne 13, 3, 34, 0, 0, .inl 0, []) ::
  (24, .iconst (-1), 1, 0, 0, 0, .inl (-1), []) ::
  (25, .aload_n 0, 1, 0, 0, 0, .inl 0, []) ::
  (26, .getfield 12, 3, 7, 0, 3, .inr (.inr (5, 0, 1)), [478]) ::
  (29, .getfield 112, 3, 5, 11, 0, .inl 0, [210]) ::
  (32, .isub, 1, 0, 0, 0, .inl 0, []) ::
  (33, .ireturn, 1, 0, 0, 0, .inl 0, []) :: s_X8_plan_34) ls st μ := by rw [s_X8_plan_0]
theorem v_X8_plan_0 : vc X P m_X8_plan h K k_X8_plan S (n + 1) 0 ls st μ = if 0 ∈ S then mAt X m_X8_plan h K 0 ls st μ else bb X P m_X8_plan h K (vc X P m_X8_plan h K k_X8_plan S n) s_X8_plan_0 ls st μ := by rw [vc_s, t_X8_plan_0]
theorem w_X8_plan_34 : bb X P m_X8_plan h K J s_X8_plan_34 ls st μ = bb X P m_X8_plan h K J ((34, .aload_n 0, 1, 0, 0, 0, .inl 0, []) ::
  (35, .getfield 29, 3, 7, 3, 3, .inr (.inr (2, 0, 28)), [481]) ::
  (38, .aload_n 0, 1, 0, 0, 0, .inl 0, []) ::
  (39, .getfield 33, 3, 7, 4, 3, .inr (.inr (2, 0, 35)), [482]) ::
  (42, .invokevirtual 250, 3, 24, 2, 0, .inl 0, [836, 2]) ::
  (45, .aload_n 0, 1, 0, 0, 0, .inl 0, []) ::
  (46, .getfield 29, 3, 7, 3, 3, .inr (.inr (2, 0, 28)), [481]) ::
  (49, .getfield 253, 3, 2, 0, 0, .inl 0, [327]) ::
  (52, .ireturn, 1, 0, 0, 0, .inl 0, []) :: []) ls st μ := by rw [s_X8_plan_34]
theorem v_X8_plan_34 : vc X P m_X8_plan h K k_X8_plan S (n + 1) 34 ls st μ = if 34 ∈ S then mAt X m_X8_plan h K 34 ls st μ else bb X P m_X8_plan h K (vc X P m_X8_plan h K k_X8_plan S n) s_X8_plan_34 ls st μ := by rw [vc_s, t_X8_plan_34]
end
section
variable {X : mC} {P : mP} {h : Nat} {K : MV → Mem → Prop} {J : mJ} {ls : List (Nat × MV)} {st : List MV} {μ : Mem} {S : List Nat} {n : Nat}
theorem w_X8_rest_0 : bb X P m_X8_rest h K J s_X8_rest_0 ls st μ = bb X P m_X8_rest h K J ((0, .iconst (-1), 1, 0, 0, 0, .inl (-1), []) ::
  (1, .istore_n 1, 1, 1, 0, 0, .inl 0, []) ::
  (2, .iconst (-1), 1, 0, 0, 0, .inl (-1), []) ::
  (3, .istore_n 2, 1, 2, 0, 0, .inl 0, []) ::
  (4, .iconst 0, 1, 0, 0, 0, .inl (nI 0), []) ::
  (5, .istore_n 3, 1, 3, 0, 0, .inl 0, []) :: s_X8_rest_6) ls st μ := by rw [s_X8_rest_0]
theorem v_X8_rest_0 : vc X P m_X8_rest h K k_X8_rest S (n + 1) 0 ls st μ = if 0 ∈ S then mAt X m_X8_rest h K 0 ls st μ else bb X P m_X8_rest h K (vc X P m_X8_rest h K k_X8_rest S n) s_X8_rest_0 ls st μ := by rw [vc_s, t_X8_rest_0]
theorem w_X8_rest_6 : bb X P m_X8_rest h K J s_X8_rest_6 ls st μ = bb X P m_X8_rest h K J ((6, .iload_n 3, 1, 3, 0, 0, .inl 0, []) ::
  (7, .bipush 7, 2, 0, 0, 0, .inl (nI 7), []) ::
  (9, .if_icmp .ge 115, 3, 124, 0, 0, .inl 0, []) ::
  (12, .aload_n 0, 1, 0, 0, 0, .inl 0, []) ::
  (13, .getfield 19, 3, 7, 1, 3, .inr (.inr (0, 0, 4)), [479]) ::
  (16, .getfield 175, 3, 0, 1, 0, .inl 0, [249]) ::
  (19, .ifCond .le 105, 3, 124, 0, 0, .inl 0, []) ::
  (22, .aload_n 0, 1, 0, 0, 0, .inl 0, []) ::
  (23, .getfield 53, 3, 7, 8, 3, .inr (.inr (3, 0, 62)), [486]) ::
  (26, .aload_n 0, 1, 0, 0, 0, .inl 0, []) ::
  (27, .getfield 19, 3, 7, 1, 3, .inr (.inr (0, 0, 4)), [479]) ::
  (30, .invokevirtual 185, 3, 44, 2, 0, .inl 0, [698, 3]) ::
  (33, .aload_n 0, 1, 0, 0, 0, .inl 0, []) ::
  (34, .getfield 53, 3, 7, 8, 3, .inr (.inr (3, 0, 62)), [486]) ::
  (37, .aload_n 0, 1, 0, 0, 0, .inl 0, []) ::
  (38, .getfield 19, 3, 7, 1, 3, .inr (.inr (0, 0, 4)), [479]) ::
  (41, .aload_n 0, 1, 0, 0, 0, .inl 0, []) ::
  (42, .getfield 19, 3, 7, 1, 3, .inr (.inr (0, 0, 4)), [479]) ::
  (45, .invokevirtual 181, 3, 2, 1, 1, .inl 0, [728, 0]) ::
  (48, .iload_n 3, 1, 3, 0, 0, .inl 0, []) ::
  (49, .bipush 12, 2, 0, 0, 0, .inl (nI 12), []) ::
  (51, .imul, 1, 0, 0, 0, .inl 0, []) ::
  (52, .invokevirtual 254, 3, 43, 4, 0, .inl 0, [845, 3]) ::
  (55, .aload_n 0, 1, 0, 0, 0, .inl 0, []) ::
  (56, .getfield 53, 3, 7, 8, 3, .inr (.inr (3, 0, 62)), [486]) ::
  (59, .aload_n 0, 1, 0, 0, 0, .inl 0, []) ::
  (60, .getfield 19, 3, 7, 1, 3, .inr (.inr (0, 0, 4)), [479]) ::
  (63, .iconst 0, 1, 0, 0, 0, .inl (nI 0), []) ::
  (64, .bipush 12, 2, 0, 0, 0, .inl (nI 12), []) ::
  (66, .invokevirtual 254, 3, 43, 4, 0, .inl 0, [845, 3]) ::
  (69, .aload_n 0, 1, 0, 0, 0, .inl 0, []) ::
  (70, .getfield 53, 3, 7, 8, 3, .inr (.inr (3, 0, 62)), [486]) ::
  (73, .aload_n 0, 1, 0, 0, 0, .inl 0, []) ::
  (74, .getfield 19, 3, 7, 1, 3, .inr (.inr (0, 0, 4)), [479]) ::
  (77, .aload_n 0, 1, 0, 0, 0, .inl 0, []) ::
  (78, .getfield 19, 3, 7, 1, 3, .inr (.inr (0, 0, 4)), [479]) ::
  (81, .invokevirtual 181, 3, 2, 1, 1, .inl 0, [728, 0]) ::
  (84, .bipush 6, 2, 0, 0, 0, .inl (nI 6), []) ::
  (86, .iload_n 3, 1, 3, 0, 0, .inl 0, []) ::
  (87, .isub, 1, 0, 0, 0, .inl 0, []) ::
  (88, .bipush 12, 2, 0, 0, 0, .inl (nI 12), []) ::
  (90, .imul, 1, 0, 0, 0, .inl 0, []) ::
  (91, .invokevirtual 254, 3, 43, 4, 0, .inl 0, [845, 3]) ::
  (94, .aload_n 0, 1, 0, 0, 0, .inl 0, []) ::
  (95, .getfield 53, 3, 7, 8, 3, .inr (.inr (3, 0, 62)), [486]) ::
  (98, .aload_n 0, 1, 0, 0, 0, .inl 0, []) ::
  (99, .getfield 19, 3, 7, 1, 3, .inr (.inr (0, 0, 4)), [479]) ::
  (102, .invokevirtual 243, 3, 47, 2, 1, .inl 0, [804, 3]) ::
  (105, .istore 4, 2, 4, 0, 0, .inl 0, []) ::
  (107, .iload 4, 2, 4, 0, 0, .inl 0, []) ::
  (109, .iload_n 2, 1, 2, 0, 0, .inl 0, []) ::
  (110, .if_icmp .le 8, 3, 118, 0, 0, .inl 0, []) ::
  (113, .iload 4, 2, 4, 0, 0, .inl 0, []) ::
  (115, .istore_n 2, 1, 2, 0, 0, .inl 0, []) ::
  (116, .iload_n 3, 1, 3, 0, 0, .inl 0, []) ::
  (117, .istore_n 1, 1, 1, 0, 0, .inl 0, []) :: s_X8_rest_118) ls st μ := by rw [s_X8_rest_6]
theorem v_X8_rest_6 : vc X P m_X8_rest h K k_X8_rest S (n + 1) 6 ls st μ = if 6 ∈ S then mAt X m_X8_rest h K 6 ls st μ else bb X P m_X8_rest h K (vc X P m_X8_rest h K k_X8_rest S n) s_X8_rest_6 ls st μ := by rw [vc_s, t_X8_rest_6]
theorem w_X8_rest_118 : bb X P m_X8_rest h K J s_X8_rest_118 ls st μ = bb X P m_X8_rest h K J ((118, .iinc 3 1, 3, 3, 0, 0, .inl (nI 1), []) ::
  (121, .goto (-115), 3, 6, 0, 0, .inl 0, []) :: s_X8_rest_124) ls st μ := by rw [s_X8_rest_118]
theorem v_X8_rest_118 : vc X P m_X8_rest h K k_X8_rest S (n + 1) 118 ls st μ = if 118 ∈ S then mAt X m_X8_rest h K 118 ls st μ else bb X P m_X8_rest h K (vc X P m_X8_rest h K k_X8_rest S n) s_X8_rest_118 ls st μ := by rw [vc_s, t_X8_rest_118]
theorem w_X8_rest_124 : bb X P m_X8_rest h K J s_X8_rest_124 ls st μ = bb X P m_X8_rest h K J ((124, .iload_n 1, 1, 1, 0, 0, .inl 0, []) ::
  (125, .ireturn, 1, 0, 0, 0, .inl 0, []) :: []) ls st μ := by rw [s_X8_rest_124]
theorem v_X8_rest_124 : vc X P m_X8_rest h K k_X8_rest S (n + 1) 124 ls st μ = if 124 ∈ S then mAt X m_X8_rest h K 124 ls st μ else bb X P m_X8_rest h K (vc X P m_X8_rest h K k_X8_rest S n) s_X8_rest_124 ls st μ := by rw [vc_s, t_X8_rest_124]
end
section
variable {X : mC} {P : mP} {h : Nat} {K : MV → Mem → Prop} {J : mJ} {ls : List (Nat × MV)} {st : List MV} {μ : Mem} {S : List Nat} {n : Nat}
theorem w_X8_restore_0 : bb X P m_X8_restore h K J s_X8_restore_0 ls st μ = bb X P m_X8_restore h K J ((0, .iload_n 1, 1, 1, 0, 0, .inl 0, []) ::
  (1, .ifCond .lt 20, 3, 21, 0, 0, .inl 0, []) ::
  (4, .iload_n 1, 1, 1, 0, 0, .inl 0, []) ::
  (5, .iconst 2, 1, 0, 0, 0, .inl (nI 2), []) ::
  (6, .if_icmp .ge 15, 3, 21, 0, 0, .inl 0, []) ::
  (9, .aload_n 0, 1, 0, 0, 0, .inl 0, []) ::
  (10, .getfield 61, 3, 7, 10, 3, .inr (.inr (19, 2, 86)), [488]) ::
  (13, .iload_n 1, 1, 1, 0, 0, .inl 0, []) ::
  (14, .aaload, 1, 0, 0, 0, .inl 0, []) ::
  (15, .getfield 359, 3, 1, 0, 2, .inl 0, [443]) ::
  (18, .ifCond .ne 5, 3, 23, 0, 0, .inl 0, []) :: s_X8_restore_21) ls st μ := by rw [s_X8_restore_0]
theorem v_X8_restore_0 : vc X P m_X8_restore h K k_X8_restore S (n + 1) 0 ls st μ = if 0 ∈ S then mAt X m_X8_restore h K 0 ls st μ else bb X P m_X8_restore h K (vc X P m_X8_restore h K k_X8_restore S n) s_X8_restore_0 ls st μ := by rw [vc_s, t_X8_restore_0]
theorem w_X8_restore_21 : bb X P m_X8_restore h K J s_X8_restore_21 ls st μ = bb X P m_X8_restore h K J ((21, .iconst 0, 1, 0, 0, 0, .inl (nI 0), []) ::
  (22, .ireturn, 1, 1, 0, 0, .inl 0, []) :: s_X8_restore_23) ls st μ := by rw [s_X8_restore_21]
theorem v_X8_restore_21 : vc X P m_X8_restore h K k_X8_restore S (n + 1) 21 ls st μ = if 21 ∈ S then mAt X m_X8_restore h K 21 ls st μ else bb X P m_X8_restore h K (vc X P m_X8_restore h K k_X8_restore S n) s_X8_restore_21 ls st μ := by rw [vc_s, t_X8_restore_21]
theorem w_X8_restore_23 : bb X P m_X8_restore h K J s_X8_restore_23 ls st μ = bb X P m_X8_restore h K J ((23, .aload_n 0, 1, 0, 0, 0, .inl 0, []) ::
  (24, .getfield 61, 3, 7, 10, 3, .inr (.inr (19, 2, 86)), [488]) ::
  (27, .iload_n 1, 1, 1, 0, 0, .inl 0, []) ::
  (28, .aaload, 1, 0, 0, 0, .inl 0, []) ::
  (29, .astore_n 2, 1, 2, 0, 0, .inl 0, []) ::
  (30, .aload_n 0, 1, 0, 0, 0, .inl 0, []) ::
  (31, .getfield 19, 3, 7, 1, 3, .inr (.inr (0, 0, 4)), [479]) ::
  (34, .aload_n 2, 1, 2, 0, 0, .inl 0, []) ::
  (35, .getfield 355, 3, 1, 1, 3, .inr (.inr (0, 0, 1)), [445]) ::
  (38, .invokevirtual 115, 3, 4, 2, 0, .inl 0, [659, 0]) ::
  (41, .aload_n 0, 1, 0, 0, 0, .inl 0, []) ::
  (42, .getfield 29, 3, 7, 3, 3, .inr (.inr (2, 0, 28)), [481]) ::
  (45, .aload_n 2, 1, 2, 0, 0, .inl 0, []) ::
  (46, .getfield 356, 3, 1, 2, 3, .inr (.inr (2, 0, 13)), [447]) ::
  (49, .invokevirtual 250, 3, 24, 2, 0, .inl 0, [836, 2]) ::
  (52, .aload_n 0, 1, 0, 0, 0, .inl 0, []) ::
  (53, .getfield 39, 3, 7, 5, 3, .inr (.inr (4, 0, 42)), [483]) ::
  (56, .aload_n 2, 1, 2, 0, 0, .inl 0, []) ::
  (57, .getfield 357, 3, 1, 3, 3, .inr (.inr (4, 0, 20)), [449]) ::
  (60, .invokevirtual 345, 3, 52, 2, 0, .inl 0, [1070, 4]) ::
  (63, .aload_n 0, 1, 0, 0, 0, .inl 0, []) ::
  (64, .getfield 49, 3, 7, 7, 3, .inr (.inr (3, 0, 50)), [485]) ::
  (67, .aload_n 2, 1, 2, 0, 0, .inl 0, []) ::
  (68, .getfield 358, 3, 1, 4, 3, .inr (.inr (3, 0, 24)), [451]) ::
  (71, .invokevirtual 278, 3, 33, 2, 0, .inl 0, [885, 3]) ::
  (74, .iconst 1, 1, 0, 0, 0, .inl (nI 1), []) ::
  (75, .ireturn, 1, 1, 0, 0, .inl 0, []) :: []) ls st μ := by rw [s_X8_restore_23]
theorem v_X8_restore_23 : vc X P m_X8_restore h K k_X8_restore S (n + 1) 23 ls st μ = if 23 ∈ S then mAt X m_X8_restore h K 23 ls st μ else bb X P m_X8_restore h K (vc X P m_X8_restore h K k_X8_restore S n) s_X8_restore_23 ls st μ := by rw [vc_s, t_X8_restore_23]
end
section
variable {X : mC} {P : mP} {h : Nat} {K : MV → Mem → Prop} {J : mJ} {ls : List (Nat × MV)} {st : List MV} {μ : Mem} {S : List Nat} {n : Nat}
theorem w_X8_said_0 : bb X P m_X8_said h K J s_X8_said_0 ls st μ = bb X P m_X8_said h K J ((0, .aload_n 0, 1, 0, 0, 0, .inl 0, []) ::
  (1, .getfield 39, 3, 7, 5, 3, .inr (.inr (4, 0, 42)), [483]) ::
  (4, .getfield 348, 3, 4, 0, 0, .inl 0, [356]) ::
  (7, .ifCond .eq 15, 3, 22, 0, 0, .inl 0, []) ::
  (10, .aload_n 0, 1, 0, 0, 0, .inl 0, []) ::
  (11, .invokevirtual 188, 3, 103, 1, 1, .inl 0, [712, 7]) ::
  (14, .ifCond .eq 8, 3, 22, 0, 0, .inl 0, []) ::
  (17, .iload_n 1, 1, 1, 0, 0, .inl 0, []) ::
  (18, .iconst (-1), 1, 0, 0, 0, .inl (-1), []) ::
  (19, .if_icmp .ge 5, 3, 24, 0, 0, .inl 0, []) :: s_X8_said_22) ls st μ := by rw [s_X8_said_0]
theorem v_X8_said_0 : vc X P m_X8_said h K k_X8_said S (n + 1) 0 ls st μ = if 0 ∈ S then mAt X m_X8_said h K 0 ls st μ else bb X P m_X8_said h K (vc X P m_X8_said h K k_X8_said S n) s_X8_said_0 ls st μ := by rw [vc_s, t_X8_said_0]
theorem w_X8_said_22 : bb X P m_X8_said h K J s_X8_said_22 ls st μ = bb X P m_X8_said h K J ((22, .iconst (-1), 1, 0, 0, 0, .inl (-1), []) ::
  (23, .ireturn, 1, 0, 0, 0, .inl 0, []) :: s_X8_said_24) ls st μ := by rw [s_X8_said_22]
theorem v_X8_said_22 : vc X P m_X8_said h K k_X8_said S (n + 1) 22 ls st μ = if 22 ∈ S then mAt X m_X8_said h K 22 ls st μ else bb X P m_X8_said h K (vc X P m_X8_said h K k_X8_said S n) s_X8_said_22 ls st μ := by rw [vc_s, t_X8_said_22]
theorem w_X8_said_24 : bb X P m_X8_said h K J s_X8_said_24 ls st μ = bb X P m_X8_said h K J ((24, .iconst 0, 1, 0, 0, 0, .inl (nI 0), []) ::
  (25, .istore_n 2, 1, 2, 0, 0, .inl 0, []) ::
  (26, .iconst 0, 1, 0, 0, 0, .inl (nI 0), []) ::
  (27, .istore_n 3, 1, 3, 0, 0, .inl 0, []) :: s_X8_said_28) ls st μ := by rw [s_X8_said_24]
theorem v_X8_said_24 : vc X P m_X8_said h K k_X8_said S (n + 1) 24 ls st μ = if 24 ∈ S then mAt X m_X8_said h K 24 ls st μ else bb X P m_X8_said h K (vc X P m_X8_said h K k_X8_said S n) s_X8_said_24 ls st μ := by rw [vc_s, t_X8_said_24]
theorem w_X8_said_28 : bb X P m_X8_said h K J s_X8_said_28 ls st μ = bb X P m_X8_said h K J ((28, .iload_n 3, 1, 3, 0, 0, .inl 0, []) ::
  (29, .aload_n 0, 1, 0, 0, 0, .inl 0, []) ::
  (30, .getfield 19, 3, 7, 1, 3, .inr (.inr (0, 0, 4)), [479]) ::
  (33, .getfield 175, 3, 0, 1, 0, .inl 0, [249]) ::
  (36, .if_icmp .ge 38, 3, 74, 0, 0, .inl 0, []) ::
  (39, .aload_n 0, 1, 0, 0, 0, .inl 0, []) ::
  (40, .getfield 39, 3, 7, 5, 3, .inr (.inr (4, 0, 42)), [483]) ::
  (43, .iload_n 3, 1, 3, 0, 0, .inl 0, []) ::
  (44, .aload_n 0, 1, 0, 0, 0, .inl 0, []) ::
  (45, .getfield 19, 3, 7, 1, 3, .inr (.inr (0, 0, 4)), [479]) ::
  (48, .aload_n 0, 1, 0, 0, 0, .inl 0, []) ::
  (49, .getfield 49, 3, 7, 7, 3, .inr (.inr (3, 0, 50)), [485]) ::
  (52, .invokevirtual 351, 3, 54, 4, 1, .inl 0, [1079, 4]) ::
  (55, .ifCond .eq 13, 3, 68, 0, 0, .inl 0, []) ::
  (58, .iload_n 2, 1, 2, 0, 0, .inl 0, []) ::
  (59, .iload_n 1, 1, 1, 0, 0, .inl 0, []) ::
  (60, .if_icmp .ne 5, 3, 65, 0, 0, .inl 0, []) ::
  (63, .iload_n 3, 1, 3, 0, 0, .inl 0, []) ::
  (64, .ireturn, 1, 0, 0, 0, .inl 0, []) :: s_X8_said_65) ls st μ := by rw [s_X8_said_28]
theorem v_X8_said_28 : vc X P m_X8_said h K k_X8_said S (n + 1) 28 ls st μ = if 28 ∈ S then mAt X m_X8_said h K 28 ls st μ else bb X P m_X8_said h K (vc X P m_X8_said h K k_X8_said S n) s_X8_said_28 ls st μ := by rw [vc_s, t_X8_said_28]
theorem w_X8_said_65 : bb X P m_X8_said h K J s_X8_said_65 ls st μ = bb X P m_X8_said h K J ((65, .iinc 2 1, 3, 2, 0, 0, .inl (nI 1), []) :: s_X8_said_68) ls st μ := by rw [s_X8_said_65]
theorem v_X8_said_65 : vc X P m_X8_said h K k_X8_said S (n + 1) 65 ls st μ = if 65 ∈ S then mAt X m_X8_said h K 65 ls st μ else bb X P m_X8_said h K (vc X P m_X8_said h K k_X8_said S n) s_X8_said_65 ls st μ := by rw [vc_s, t_X8_said_65]
theorem w_X8_said_68 : bb X P m_X8_said h K J s_X8_said_68 ls st μ = bb X P m_X8_said h K J ((68, .iinc 3 1, 3, 3, 0, 0, .inl (nI 1), []) ::
  (71, .goto (-43), 3, 28, 0, 0, .inl 0, []) :: s_X8_said_74) ls st μ := by rw [s_X8_said_68]
theorem v_X8_said_68 : vc X P m_X8_said h K k_X8_said S (n + 1) 68 ls st μ = if 68 ∈ S then mAt X m_X8_said h K 68 ls st μ else bb X P m_X8_said h K (vc X P m_X8_said h K k_X8_said S n) s_X8_said_68 ls st μ := by rw [vc_s, t_X8_said_68]
theorem w_X8_said_74 : bb X P m_X8_said h K J s_X8_said_74 ls st μ = bb X P m_X8_said h K J ((74, .iload_n 1, 1, 1, 0, 0, .inl 0, []) ::
  (75, .iconst (-1), 1, 0, 0, 0, .inl (-1), []) ::
  (76, .if_icmp .ne 7, 3, 83, 0, 0, .inl 0, []) ::
  (79, .iload_n 2, 1, 2, 0, 0, .inl 0, []) ::
  (80, .goto 4, 3, 84, 0, 0, .inl 0, []) :: s_X8_said_83) ls st μ := by rw [s_X8_said_74]
theorem v_X8_said_74 : vc X P m_X8_said h K k_X8_said S (n + 1) 74 ls st μ = if 74 ∈ S then mAt X m_X8_said h K 74 ls st μ else bb X P m_X8_said h K (vc X P m_X8_said h K k_X8_said S n) s_X8_said_74 ls st μ := by rw [vc_s, t_X8_said_74]
theorem w_X8_said_83 : bb X P m_X8_said h K J s_X8_said_83 ls st μ = bb X P m_X8_said h K J ((83, .iconst (-1), 1, 0, 0, 0, .inl (-1), []) :: s_X8_said_84) ls st μ := by rw [s_X8_said_83]
theorem v_X8_said_83 : vc X P m_X8_said h K k_X8_said S (n + 1) 83 ls st μ = if 83 ∈ S then mAt X m_X8_said h K 83 ls st μ else bb X P m_X8_said h K (vc X P m_X8_said h K k_X8_said S n) s_X8_said_83 ls st μ := by rw [vc_s, t_X8_said_83]
theorem w_X8_said_84 : bb X P m_X8_said h K J s_X8_said_84 ls st μ = bb X P m_X8_said h K J ((84, .ireturn, 1, 0, 0, 0, .inl 0, []) :: []) ls st μ := by rw [s_X8_said_84]
theorem v_X8_said_84 : vc X P m_X8_said h K k_X8_said S (n + 1) 84 ls st μ = if 84 ∈ S then mAt X m_X8_said h K 84 ls st μ else bb X P m_X8_said h K (vc X P m_X8_said h K k_X8_said S n) s_X8_said_84 ls st μ := by rw [vc_s, t_X8_said_84]
end
section
variable {X : mC} {P : mP} {h : Nat} {K : MV → Mem → Prop} {J : mJ} {ls : List (Nat × MV)} {st : List MV} {μ : Mem} {S : List Nat} {n : Nat}
theorem w_X8_sentence_0 : bb X P m_X8_sentence h K J s_X8_sentence_0 ls st μ = bb X P m_X8_sentence h K J ((0, .aload_n 0, 1, 0, 0, 0, .inl 0, []) ::
  (1, .getfield 43, 3, 7, 6, 3, .inr (.inr (4, 0, 46)), [484]) ::
  (4, .aload_n 0, 1, 0, 0, 0, .inl 0, []) ::
  (5, .getfield 12, 3, 7, 0, 3, .inr (.inr (5, 0, 1)), [478]) ::
  (8, .aload_n 0, 1, 0, 0, 0, .inl 0, []) ::
  (9, .getfield 19, 3, 7, 1, 3, .inr (.inr (0, 0, 4)), [479]) ::
  (12, .invokevirtual 344, 3, 58, 3, 1, .inl 0, [1030, 4]) ::
  (15, .istore_n 1, 1, 1, 0, 0, .inl 0, []) ::
  (16, .aload_n 0, 1, 0, 0, 0, .inl 0, []) ::
  (17, .invokevirtual 109, 3, 82, 1, 0, .inl 0, [655, 7]) ::
  (20, .iload_n 1, 1, 1, 0, 0, .inl 0, []) ::
  (21, .ifCond .ne 13, 3, 34, 0, 0, .inl 0, []) ::
  (24, .iconst (-1), 1, 0, 0, 0, .inl (-1), []) ::
  (25, .aload_n 0, 1, 0, 0, 0, .inl 0, []) ::
  (26, .getfield 12, 3, 7, 0, 3, .inr (.inr (5, 0, 1)), [478]) ::
  (29, .getfield 112, 3, 5, 11, 0, .inl 0, [210]) ::
  (32, .isub, 1, 0, 0, 0, .inl 0, []) ::
  (33, .ireturn, 1, 0, 0, 0, .inl 0, []) :: s_X8_sentence_34) ls st μ := by rw [s_X8_sentence_0]
theorem v_X8_sentence_0 : vc X P m_X8_sentence h K k_X8_sentence S (n + 1) 0 ls st μ = if 0 ∈ S then mAt X m_X8_sentence h K 0 ls st μ else bb X P m_X8_sentence h K (vc X P m_X8_sentence h K k_X8_sentence S n) s_X8_sentence_0 ls st μ := by rw [vc_s, t_X8_sentence_0]
theorem w_X8_sentence_34 : bb X P m_X8_sentence h K J s_X8_sentence_34 ls st μ = bb X P m_X8_sentence h K J ((34, .aload_n 0, 1, 0, 0, 0, .inl 0, []) ::
  (35, .getfield 39, 3, 7, 5, 3, .inr (.inr (4, 0, 42)), [483]) ::
  (38, .aload_n 0, 1, 0, 0, 0, .inl 0, []) ::
  (39, .getfield 43, 3, 7, 6, 3, .inr (.inr (4, 0, 46)), [484]) ::
  (42, .invokevirtual 345, 3, 52, 2, 0, .inl 0, [1070, 4]) ::
  (45, .aload_n 0, 1, 0, 0, 0, .inl 0, []) ::
  (46, .getfield 39, 3, 7, 5, 3, .inr (.inr (4, 0, 42)), [483]) ::
  (49, .getfield 348, 3, 4, 0, 0, .inl 0, [356]) ::
  (52, .ireturn, 1, 0, 0, 0, .inl 0, []) :: []) ls st μ := by rw [s_X8_sentence_34]
theorem v_X8_sentence_34 : vc X P m_X8_sentence h K k_X8_sentence S (n + 1) 34 ls st μ = if 34 ∈ S then mAt X m_X8_sentence h K 34 ls st μ else bb X P m_X8_sentence h K (vc X P m_X8_sentence h K k_X8_sentence S n) s_X8_sentence_34 ls st μ := by rw [vc_s, t_X8_sentence_34]
end
