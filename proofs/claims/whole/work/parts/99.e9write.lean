/-! write: the pair -/
def wrL (nm : Nat → Nat) (go md : Nat → Int32) : Nat → List Int32
  | 0 => []
  | w + 1 => wrL nm go md w ++ nmL 6 (nm w) ++ [nI 32] ++ dgL (go w) 5 ++ [nI 32] ++ dgL (md w) 5 ++ [nI 59]
theorem wrL_len {nm : Nat → Nat} {go md : Nat → Int32} {W : Nat} (hg : ∀ w, w < W → (dgL (go w) 5).length ≤ 3) : ∀ w, w ≤ W → (wrL nm go md w).length ≤ 17 * w := by
  intro w
  induction w with
  | zero => intro _; exact Nat.le_refl 0
  | succ w ih =>
    intro hw
    have a := ih (by omega)
    have b := hg w (by omega)
    have c := nmL_len 6 (nm w)
    have d := dgL_len (md w) 5
    unfold wrL
    rw [List.length_append, List.length_append, List.length_append, List.length_append, List.length_append, List.length_append, List.length_singleton, List.length_singleton]
    omega
section MWt
variable {X : mC} {h x m : Nat} {μ μ1 : Mem} {K : MV → Mem → Prop} {Q T : Bk} {W : Nat} {nm : Nat → Nat} {go md : Nat → Int32}
theorem c8_write (w8 : W ≤ 8) (hn : ∀ w, w < W → nm w < 2 ^ 30) (hg : ∀ w, w < W → (dgL (go w) 5).length ≤ 3) (n1 : ∀ w, w < W → μ.1 (x + 6) w = nI (nm w)) (n2 : ∀ w, w < W → μ.1 (x + 58) w = go w) (n3 : ∀ w, w < W → μ.1 (x + 58) w * μ.1 (x + 10) w = md w) (b1 : μ.1 (x + 4) 1 = nI W) (r0 : (μ.1 (x + 50) 0 = -1) = False) (hK : ∀ T', Tt (wrL nm go md W) (T' 0 1) (T' 1) → K (.inl (nI (wrL nm go md W).length)) (sb μ (x + 159) 2 T')) : mMet X (h + 4) m_X8_write [.inr (.inr (7, 0, x))] (sb μ (x + 159) 2 T) K := by
  (refine vc_met2 P2_ok ok_X8_write cm_X8_write [9,19,121] 8 t_X8_write_0 (Nat.le_of_ble_eq_true rfl) ?_; simp only [mArg_nil, mArg_I, mArg_L, mArg_A, Nat.reduceAdd])
  have ln := wrL_len (nm := nm) (md := md) hg
  have main : ∀ i w T', w + i = W → Tt (wrL nm go md w) (T' 0 1) (T' 1) → bb X P2 m_X8_write (h + 3) K (vc X P2 m_X8_write (h + 3) K k_X8_write [9,19,121] 8) s_X8_write_19 [(1, .inl (nI w)), (0, .inr (.inr (7, 0, x)))] [] (sb μ (x + 159) 2 T') := by
    intro i
    induction i with
    | zero =>
      intro w T' hw h1
      have ew : w = W := by omega
      subst ew
      have hK := hK T' h1
      have e1 := h1.1
      have c1 : (nI w ≤ nI w) = True := eq_true (Int32.le_refl _)
      (try simp only [↓w_X8_write_0, ↓w_X8_write_9, ↓w_X8_write_19, ↓v_X8_write_9, ↓v_X8_write_19, ↓v_X8_write_121, ↓b_aload_n, ↓b_bipush, ↓b_callV1_1, ↓b_callV2_0, ↓b_getA, ↓b_getI, ↓b_goto, ↓b_iaload, ↓b_ic_ge, ↓b_iconst, ↓b_if_ne, ↓n_iinc, ↓b_iload_n, ↓b_imul, ↓b_iret, ↓n_istore_n, ↓n_putI, ↓ldI_hit, ↓ldI_skip, ↓ldL_hit, ↓ldL_skip, ↓ldA_hit, ↓ldA_skip, ↓ldelK_nil, ↓ldelK_hit, ↓ldelK_skipI, ↓ldelK_skipA, ↓ldelK_skipL, qP2_X7_putByte, qP2_X7_putName, qP2_X7_putNumber, qP2_X8_isRunning, ↓bI_b, bI_0, nnot, lget_hit, lget_skip, ldel_nil, ldel_hit, ldel_skipI, ldel_skipA, ldel_skipL, ldel2_nil, ldel2_hit, ldel2_hit2, ldel2_skipI, ldel2_skipA, ldel2_skipL, vc_0, mCat_nil, mCat_I, mCat_L, mCat_A, mRcv_A, mArg_nil, mArg_I, mArg_L, mArg_A, tsg, swt_nil, swt_cons, lkw_nil, lkw_cons, ↓reduceIte, Nat.reduceAdd, Nat.reduceEqDiff, Nat.reduceLeDiff, Nat.reduceMul, true_and, and_true, and_self, List.mem_cons, List.not_mem_nil, or_false, or_self, false_or, true_implies, false_implies, not_true_eq_false, not_false_eq_true, nI00, nI10, nI01, nI11, forall_const, implies_true])
      (try simp (disch := omega) only [ixq, ixz, sb_in, sb_in0, upI_sb, upI_sb0, sb_out, nI_add, nI_mul, nI_subq, Nat.zero_add, forall_eq, u2_at, u2_row, upd_at, upd_ne, nI0b, nI1b, nI00, nI10, nI01, nI11, true_implies, false_implies, not_true_eq_false, not_false_eq_true, and_true, true_and, implies_true, b1, c1])
      (refine vc_from P2_ok ok_X8_write [9,19,121] 8 ?_; rw [t_X8_write_121])
      (try simp only [↓w_X8_write_0, ↓w_X8_write_9, ↓w_X8_write_19, ↓w_X8_write_121, ↓v_X8_write_9, ↓v_X8_write_19, ↓v_X8_write_121, ↓b_aload_n, ↓b_bipush, ↓b_callV1_1, ↓b_callV2_0, ↓b_getA, ↓b_getI, ↓b_goto, ↓b_iaload, ↓b_ic_ge, ↓b_iconst, ↓b_if_ne, ↓n_iinc, ↓b_iload_n, ↓b_imul, ↓b_iret, ↓n_istore_n, ↓n_putI, ↓ldI_hit, ↓ldI_skip, ↓ldL_hit, ↓ldL_skip, ↓ldA_hit, ↓ldA_skip, ↓ldelK_nil, ↓ldelK_hit, ↓ldelK_skipI, ↓ldelK_skipA, ↓ldelK_skipL, qP2_X7_putByte, qP2_X7_putName, qP2_X7_putNumber, qP2_X8_isRunning, ↓bI_b, bI_0, nnot, lget_hit, lget_skip, ldel_nil, ldel_hit, ldel_skipI, ldel_skipA, ldel_skipL, ldel2_nil, ldel2_hit, ldel2_hit2, ldel2_skipI, ldel2_skipA, ldel2_skipL, vc_0, mCat_nil, mCat_I, mCat_L, mCat_A, mRcv_A, mArg_nil, mArg_I, mArg_L, mArg_A, tsg, swt_nil, swt_cons, lkw_nil, lkw_cons, ↓reduceIte, Nat.reduceAdd, Nat.reduceEqDiff, Nat.reduceLeDiff, Nat.reduceMul, true_and, and_true, and_self, List.mem_cons, List.not_mem_nil, or_false, or_self, false_or, true_implies, false_implies, not_true_eq_false, not_false_eq_true, nI00, nI10, nI01, nI11, forall_const, implies_true])
      (try simp (disch := omega) only [ixq, ixz, sb_in, sb_in0, upI_sb, upI_sb0, sb_out, nI_add, nI_mul, nI_subq, Nat.zero_add, forall_eq, u2_at, u2_row, upd_at, upd_ne, nI0b, nI1b, nI00, nI10, nI01, nI11, true_implies, false_implies, not_true_eq_false, not_false_eq_true, and_true, true_and, implies_true, e1])
      exact hK
    | succ i ih =>
      intro w T' hw h1
      have i2 := fun T2 h2 => ih (w + 1) T2 (by omega) h2
      clear ih hK
      have l0 := ln w (by omega)
      have l1 := hg w (by omega)
      have l2 := nmL_len 6 (nm w)
      have l3 := dgL_len (md w) 5
      have m1 := n1 w (by omega)
      have m2 := n2 w (by omega)
      have m3 := n3 w (by omega)
      rw [m2] at m3
      have ha := hn w (by omega)
      unfold wrL at i2
      generalize wrL nm go md w = L at h1 i2 l0
      have c1 : (nI W ≤ nI w) = False := by rw [nI_lq (by omega) (by omega)]; exact eq_false (by omega)
      have t1 := name_T ha h1 (by omega) 6 (by omega)
      rw [show 6 - 6 = 0 from rfl, Nat.pow_zero, Nat.div_one] at t1
      have t2 := putF_T (v := nI 32) t1 (by rw [List.length_append]; omega)
      have t3 := num_T (n := go w) t2 (by rw [List.length_append, List.length_append, List.length_singleton]; omega) 5 (by omega)
      have t4 := putF_T (v := nI 32) t3 (by rw [List.length_append, List.length_append, List.length_append, List.length_singleton]; omega)
      have t5 := num_T (n := md w) t4 (by rw [List.length_append, List.length_append, List.length_append, List.length_append, List.length_singleton]; omega) 5 (by omega)
      have t6 := putF_T (v := nI 59) t5 (by rw [List.length_append, List.length_append, List.length_append, List.length_append, List.length_append, List.length_singleton]; omega)
      have i3 := i2 _ t6
      clear i2 t6
      have k0 : tOk T' := Tt_ok h1 (by omega)
      have k1 := Tt_ok t1 (by rw [List.length_append]; omega)
      have k2 := Tt_ok t2 (by rw [List.length_append, List.length_append, List.length_singleton]; omega)
      have k3 := Tt_ok t3 (by rw [List.length_append, List.length_append, List.length_append, List.length_singleton]; omega)
      have k4 := Tt_ok t4 (by rw [List.length_append, List.length_append, List.length_append, List.length_append, List.length_singleton]; omega)
      have k5 := Tt_ok t5 (by rw [List.length_append, List.length_append, List.length_append, List.length_append, List.length_append, List.length_singleton]; omega)
      clear t1 t2 t3 t4 t5 h1
      (try simp only [↓w_X8_write_0, ↓w_X8_write_9, ↓w_X8_write_19, ↓v_X8_write_9, ↓v_X8_write_19, ↓v_X8_write_121, ↓b_aload_n, ↓b_bipush, ↓b_callV1_1, ↓b_callV2_0, ↓b_getA, ↓b_getI, ↓b_goto, ↓b_iaload, ↓b_ic_ge, ↓b_iconst, ↓b_if_ne, ↓n_iinc, ↓b_iload_n, ↓b_imul, ↓b_iret, ↓n_istore_n, ↓n_putI, ↓ldI_hit, ↓ldI_skip, ↓ldL_hit, ↓ldL_skip, ↓ldA_hit, ↓ldA_skip, ↓ldelK_nil, ↓ldelK_hit, ↓ldelK_skipI, ↓ldelK_skipA, ↓ldelK_skipL, qP2_X7_putByte, qP2_X7_putName, qP2_X7_putNumber, qP2_X8_isRunning, ↓bI_b, bI_0, nnot, lget_hit, lget_skip, ldel_nil, ldel_hit, ldel_skipI, ldel_skipA, ldel_skipL, ldel2_nil, ldel2_hit, ldel2_hit2, ldel2_skipI, ldel2_skipA, ldel2_skipL, vc_0, mCat_nil, mCat_I, mCat_L, mCat_A, mRcv_A, mArg_nil, mArg_I, mArg_L, mArg_A, tsg, swt_nil, swt_cons, lkw_nil, lkw_cons, ↓reduceIte, Nat.reduceAdd, Nat.reduceEqDiff, Nat.reduceLeDiff, Nat.reduceMul, true_and, and_true, and_self, List.mem_cons, List.not_mem_nil, or_false, or_self, false_or, true_implies, false_implies, not_true_eq_false, not_false_eq_true, nI00, nI10, nI01, nI11, forall_const, implies_true])
      (try simp (disch := omega) only [ixq, ixz, sb_in, sb_in0, upI_sb, upI_sb0, sb_out, nI_add, nI_mul, nI_subq, Nat.zero_add, forall_eq, u2_at, u2_row, upd_at, upd_ne, nI0b, nI1b, nI00, nI10, nI01, nI11, true_implies, false_implies, not_true_eq_false, not_false_eq_true, and_true, true_and, implies_true, b1, c1, m1])
      refine c_putName k0 ?_
      generalize fo 6 (letF (nI (nm w))) T' = T1 at k1 k2 k3 k4 k5 i3 ⊢
      (try simp only [↓w_X8_write_0, ↓w_X8_write_9, ↓w_X8_write_19, ↓v_X8_write_9, ↓v_X8_write_19, ↓v_X8_write_121, ↓b_aload_n, ↓b_bipush, ↓b_callV1_1, ↓b_callV2_0, ↓b_getA, ↓b_getI, ↓b_goto, ↓b_iaload, ↓b_ic_ge, ↓b_iconst, ↓b_if_ne, ↓n_iinc, ↓b_iload_n, ↓b_imul, ↓b_iret, ↓n_istore_n, ↓n_putI, ↓ldI_hit, ↓ldI_skip, ↓ldL_hit, ↓ldL_skip, ↓ldA_hit, ↓ldA_skip, ↓ldelK_nil, ↓ldelK_hit, ↓ldelK_skipI, ↓ldelK_skipA, ↓ldelK_skipL, qP2_X7_putByte, qP2_X7_putName, qP2_X7_putNumber, qP2_X8_isRunning, ↓bI_b, bI_0, nnot, lget_hit, lget_skip, ldel_nil, ldel_hit, ldel_skipI, ldel_skipA, ldel_skipL, ldel2_nil, ldel2_hit, ldel2_hit2, ldel2_skipI, ldel2_skipA, ldel2_skipL, vc_0, mCat_nil, mCat_I, mCat_L, mCat_A, mRcv_A, mArg_nil, mArg_I, mArg_L, mArg_A, tsg, swt_nil, swt_cons, lkw_nil, lkw_cons, ↓reduceIte, Nat.reduceAdd, Nat.reduceEqDiff, Nat.reduceLeDiff, Nat.reduceMul, true_and, and_true, and_self, List.mem_cons, List.not_mem_nil, or_false, or_self, false_or, true_implies, false_implies, not_true_eq_false, not_false_eq_true, nI00, nI10, nI01, nI11, forall_const, implies_true])
      refine c_putByte k1 ?_
      generalize putF (nI 32) T1 = T2 at k2 k3 k4 k5 i3 ⊢
      (try simp only [↓w_X8_write_0, ↓w_X8_write_9, ↓w_X8_write_19, ↓v_X8_write_9, ↓v_X8_write_19, ↓v_X8_write_121, ↓b_aload_n, ↓b_bipush, ↓b_callV1_1, ↓b_callV2_0, ↓b_getA, ↓b_getI, ↓b_goto, ↓b_iaload, ↓b_ic_ge, ↓b_iconst, ↓b_if_ne, ↓n_iinc, ↓b_iload_n, ↓b_imul, ↓b_iret, ↓n_istore_n, ↓n_putI, ↓ldI_hit, ↓ldI_skip, ↓ldL_hit, ↓ldL_skip, ↓ldA_hit, ↓ldA_skip, ↓ldelK_nil, ↓ldelK_hit, ↓ldelK_skipI, ↓ldelK_skipA, ↓ldelK_skipL, qP2_X7_putByte, qP2_X7_putName, qP2_X7_putNumber, qP2_X8_isRunning, ↓bI_b, bI_0, nnot, lget_hit, lget_skip, ldel_nil, ldel_hit, ldel_skipI, ldel_skipA, ldel_skipL, ldel2_nil, ldel2_hit, ldel2_hit2, ldel2_skipI, ldel2_skipA, ldel2_skipL, vc_0, mCat_nil, mCat_I, mCat_L, mCat_A, mRcv_A, mArg_nil, mArg_I, mArg_L, mArg_A, tsg, swt_nil, swt_cons, lkw_nil, lkw_cons, ↓reduceIte, Nat.reduceAdd, Nat.reduceEqDiff, Nat.reduceLeDiff, Nat.reduceMul, true_and, and_true, and_self, List.mem_cons, List.not_mem_nil, or_false, or_self, false_or, true_implies, false_implies, not_true_eq_false, not_false_eq_true, nI00, nI10, nI01, nI11, forall_const, implies_true])
      (try simp (disch := omega) only [ixq, ixz, sb_in, sb_in0, upI_sb, upI_sb0, sb_out, nI_add, nI_mul, nI_subq, Nat.zero_add, forall_eq, u2_at, u2_row, upd_at, upd_ne, nI0b, nI1b, nI00, nI10, nI01, nI11, true_implies, false_implies, not_true_eq_false, not_false_eq_true, and_true, true_and, implies_true, m2])
      refine c_putNum k2 ?_
      generalize fo 5 (digF (go w)) T2 = T3 at k3 k4 k5 i3 ⊢
      (try simp only [↓w_X8_write_0, ↓w_X8_write_9, ↓w_X8_write_19, ↓v_X8_write_9, ↓v_X8_write_19, ↓v_X8_write_121, ↓b_aload_n, ↓b_bipush, ↓b_callV1_1, ↓b_callV2_0, ↓b_getA, ↓b_getI, ↓b_goto, ↓b_iaload, ↓b_ic_ge, ↓b_iconst, ↓b_if_ne, ↓n_iinc, ↓b_iload_n, ↓b_imul, ↓b_iret, ↓n_istore_n, ↓n_putI, ↓ldI_hit, ↓ldI_skip, ↓ldL_hit, ↓ldL_skip, ↓ldA_hit, ↓ldA_skip, ↓ldelK_nil, ↓ldelK_hit, ↓ldelK_skipI, ↓ldelK_skipA, ↓ldelK_skipL, qP2_X7_putByte, qP2_X7_putName, qP2_X7_putNumber, qP2_X8_isRunning, ↓bI_b, bI_0, nnot, lget_hit, lget_skip, ldel_nil, ldel_hit, ldel_skipI, ldel_skipA, ldel_skipL, ldel2_nil, ldel2_hit, ldel2_hit2, ldel2_skipI, ldel2_skipA, ldel2_skipL, vc_0, mCat_nil, mCat_I, mCat_L, mCat_A, mRcv_A, mArg_nil, mArg_I, mArg_L, mArg_A, tsg, swt_nil, swt_cons, lkw_nil, lkw_cons, ↓reduceIte, Nat.reduceAdd, Nat.reduceEqDiff, Nat.reduceLeDiff, Nat.reduceMul, true_and, and_true, and_self, List.mem_cons, List.not_mem_nil, or_false, or_self, false_or, true_implies, false_implies, not_true_eq_false, not_false_eq_true, nI00, nI10, nI01, nI11, forall_const, implies_true])
      refine c_putByte k3 ?_
      generalize putF (nI 32) T3 = T4 at k4 k5 i3 ⊢
      (try simp only [↓w_X8_write_0, ↓w_X8_write_9, ↓w_X8_write_19, ↓v_X8_write_9, ↓v_X8_write_19, ↓v_X8_write_121, ↓b_aload_n, ↓b_bipush, ↓b_callV1_1, ↓b_callV2_0, ↓b_getA, ↓b_getI, ↓b_goto, ↓b_iaload, ↓b_ic_ge, ↓b_iconst, ↓b_if_ne, ↓n_iinc, ↓b_iload_n, ↓b_imul, ↓b_iret, ↓n_istore_n, ↓n_putI, ↓ldI_hit, ↓ldI_skip, ↓ldL_hit, ↓ldL_skip, ↓ldA_hit, ↓ldA_skip, ↓ldelK_nil, ↓ldelK_hit, ↓ldelK_skipI, ↓ldelK_skipA, ↓ldelK_skipL, qP2_X7_putByte, qP2_X7_putName, qP2_X7_putNumber, qP2_X8_isRunning, ↓bI_b, bI_0, nnot, lget_hit, lget_skip, ldel_nil, ldel_hit, ldel_skipI, ldel_skipA, ldel_skipL, ldel2_nil, ldel2_hit, ldel2_hit2, ldel2_skipI, ldel2_skipA, ldel2_skipL, vc_0, mCat_nil, mCat_I, mCat_L, mCat_A, mRcv_A, mArg_nil, mArg_I, mArg_L, mArg_A, tsg, swt_nil, swt_cons, lkw_nil, lkw_cons, ↓reduceIte, Nat.reduceAdd, Nat.reduceEqDiff, Nat.reduceLeDiff, Nat.reduceMul, true_and, and_true, and_self, List.mem_cons, List.not_mem_nil, or_false, or_self, false_or, true_implies, false_implies, not_true_eq_false, not_false_eq_true, nI00, nI10, nI01, nI11, forall_const, implies_true])
      (try simp (disch := omega) only [ixq, ixz, sb_in, sb_in0, upI_sb, upI_sb0, sb_out, nI_add, nI_mul, nI_subq, Nat.zero_add, forall_eq, u2_at, u2_row, upd_at, upd_ne, nI0b, nI1b, nI00, nI10, nI01, nI11, true_implies, false_implies, not_true_eq_false, not_false_eq_true, and_true, true_and, implies_true, m2, m3])
      refine c_putNum k4 ?_
      generalize fo 5 (digF (md w)) T4 = T5 at k5 i3 ⊢
      (try simp only [↓w_X8_write_0, ↓w_X8_write_9, ↓w_X8_write_19, ↓v_X8_write_9, ↓v_X8_write_19, ↓v_X8_write_121, ↓b_aload_n, ↓b_bipush, ↓b_callV1_1, ↓b_callV2_0, ↓b_getA, ↓b_getI, ↓b_goto, ↓b_iaload, ↓b_ic_ge, ↓b_iconst, ↓b_if_ne, ↓n_iinc, ↓b_iload_n, ↓b_imul, ↓b_iret, ↓n_istore_n, ↓n_putI, ↓ldI_hit, ↓ldI_skip, ↓ldL_hit, ↓ldL_skip, ↓ldA_hit, ↓ldA_skip, ↓ldelK_nil, ↓ldelK_hit, ↓ldelK_skipI, ↓ldelK_skipA, ↓ldelK_skipL, qP2_X7_putByte, qP2_X7_putName, qP2_X7_putNumber, qP2_X8_isRunning, ↓bI_b, bI_0, nnot, lget_hit, lget_skip, ldel_nil, ldel_hit, ldel_skipI, ldel_skipA, ldel_skipL, ldel2_nil, ldel2_hit, ldel2_hit2, ldel2_skipI, ldel2_skipA, ldel2_skipL, vc_0, mCat_nil, mCat_I, mCat_L, mCat_A, mRcv_A, mArg_nil, mArg_I, mArg_L, mArg_A, tsg, swt_nil, swt_cons, lkw_nil, lkw_cons, ↓reduceIte, Nat.reduceAdd, Nat.reduceEqDiff, Nat.reduceLeDiff, Nat.reduceMul, true_and, and_true, and_self, List.mem_cons, List.not_mem_nil, or_false, or_self, false_or, true_implies, false_implies, not_true_eq_false, not_false_eq_true, nI00, nI10, nI01, nI11, forall_const, implies_true])
      refine c_putByte k5 ?_
      generalize putF (nI 59) T5 = T6 at i3 ⊢
      (try simp only [↓w_X8_write_0, ↓w_X8_write_9, ↓w_X8_write_19, ↓v_X8_write_9, ↓v_X8_write_19, ↓v_X8_write_121, ↓b_aload_n, ↓b_bipush, ↓b_callV1_1, ↓b_callV2_0, ↓b_getA, ↓b_getI, ↓b_goto, ↓b_iaload, ↓b_ic_ge, ↓b_iconst, ↓b_if_ne, ↓n_iinc, ↓b_iload_n, ↓b_imul, ↓b_iret, ↓n_istore_n, ↓n_putI, ↓ldI_hit, ↓ldI_skip, ↓ldL_hit, ↓ldL_skip, ↓ldA_hit, ↓ldA_skip, ↓ldelK_nil, ↓ldelK_hit, ↓ldelK_skipI, ↓ldelK_skipA, ↓ldelK_skipL, qP2_X7_putByte, qP2_X7_putName, qP2_X7_putNumber, qP2_X8_isRunning, ↓bI_b, bI_0, nnot, lget_hit, lget_skip, ldel_nil, ldel_hit, ldel_skipI, ldel_skipA, ldel_skipL, ldel2_nil, ldel2_hit, ldel2_hit2, ldel2_skipI, ldel2_skipA, ldel2_skipL, vc_0, mCat_nil, mCat_I, mCat_L, mCat_A, mRcv_A, mArg_nil, mArg_I, mArg_L, mArg_A, tsg, swt_nil, swt_cons, lkw_nil, lkw_cons, ↓reduceIte, Nat.reduceAdd, Nat.reduceEqDiff, Nat.reduceLeDiff, Nat.reduceMul, true_and, and_true, and_self, List.mem_cons, List.not_mem_nil, or_false, or_self, false_or, true_implies, false_implies, not_true_eq_false, not_false_eq_true, nI00, nI10, nI01, nI11, forall_const, implies_true])
      (try simp (disch := omega) only [ixq, ixz, sb_in, sb_in0, upI_sb, upI_sb0, sb_out, nI_add, nI_mul, nI_subq, Nat.zero_add, forall_eq, u2_at, u2_row, upd_at, upd_ne, nI0b, nI1b, nI00, nI10, nI01, nI11, true_implies, false_implies, not_true_eq_false, not_false_eq_true, and_true, true_and, implies_true])
      exact vc_back P2_ok ok_X8_write [9,19,121] 8 t_X8_write_19 (i3) (by simp) (rfl)
  have i2 := main W 0 (u2 T 0 1 (nI 0)) (by omega) ⟨by rw [u2_at, upd_at]; rfl, fun j hj => absurd hj (Nat.not_lt_zero j)⟩
  clear main
  (try simp only [↓w_X8_write_0, ↓w_X8_write_121, ↓v_X8_write_9, ↓v_X8_write_19, ↓v_X8_write_121, ↓b_aload_n, ↓b_bipush, ↓b_callV1_1, ↓b_callV2_0, ↓b_getA, ↓b_getI, ↓b_goto, ↓b_iaload, ↓b_ic_ge, ↓b_iconst, ↓b_if_ne, ↓n_iinc, ↓b_iload_n, ↓b_imul, ↓b_iret, ↓n_istore_n, ↓n_putI, ↓ldI_hit, ↓ldI_skip, ↓ldL_hit, ↓ldL_skip, ↓ldA_hit, ↓ldA_skip, ↓ldelK_nil, ↓ldelK_hit, ↓ldelK_skipI, ↓ldelK_skipA, ↓ldelK_skipL, qP2_X7_putByte, qP2_X7_putName, qP2_X7_putNumber, qP2_X8_isRunning, ↓bI_b, bI_0, nnot, lget_hit, lget_skip, ldel_nil, ldel_hit, ldel_skipI, ldel_skipA, ldel_skipL, ldel2_nil, ldel2_hit, ldel2_hit2, ldel2_skipI, ldel2_skipA, ldel2_skipL, vc_0, mCat_nil, mCat_I, mCat_L, mCat_A, mRcv_A, mArg_nil, mArg_I, mArg_L, mArg_A, tsg, swt_nil, swt_cons, lkw_nil, lkw_cons, ↓reduceIte, Nat.reduceAdd, Nat.reduceEqDiff, Nat.reduceLeDiff, Nat.reduceMul, true_and, and_true, and_self, List.mem_cons, List.not_mem_nil, or_false, or_self, false_or, true_implies, false_implies, not_true_eq_false, not_false_eq_true, nI00, nI10, nI01, nI11, forall_const, implies_true])
  (try simp (disch := omega) only [ixq, ixz, sb_in, sb_in0, upI_sb, upI_sb0, sb_out, nI_add, nI_mul, nI_subq, Nat.zero_add, forall_eq, u2_at, u2_row, upd_at, upd_ne, nI0b, nI1b, nI00, nI10, nI01, nI11, true_implies, false_implies, not_true_eq_false, not_false_eq_true, and_true, true_and, implies_true, r0])
  (refine vc_from P2_ok ok_X8_write [9,19,121] 8 ?_; rw [t_X8_write_9])
  (try simp only [↓w_X8_write_0, ↓w_X8_write_9, ↓w_X8_write_121, ↓v_X8_write_9, ↓v_X8_write_19, ↓v_X8_write_121, ↓b_aload_n, ↓b_bipush, ↓b_callV1_1, ↓b_callV2_0, ↓b_getA, ↓b_getI, ↓b_goto, ↓b_iaload, ↓b_ic_ge, ↓b_iconst, ↓b_if_ne, ↓n_iinc, ↓b_iload_n, ↓b_imul, ↓b_iret, ↓n_istore_n, ↓n_putI, ↓ldI_hit, ↓ldI_skip, ↓ldL_hit, ↓ldL_skip, ↓ldA_hit, ↓ldA_skip, ↓ldelK_nil, ↓ldelK_hit, ↓ldelK_skipI, ↓ldelK_skipA, ↓ldelK_skipL, qP2_X7_putByte, qP2_X7_putName, qP2_X7_putNumber, qP2_X8_isRunning, ↓bI_b, bI_0, nnot, lget_hit, lget_skip, ldel_nil, ldel_hit, ldel_skipI, ldel_skipA, ldel_skipL, ldel2_nil, ldel2_hit, ldel2_hit2, ldel2_skipI, ldel2_skipA, ldel2_skipL, vc_0, mCat_nil, mCat_I, mCat_L, mCat_A, mRcv_A, mArg_nil, mArg_I, mArg_L, mArg_A, tsg, swt_nil, swt_cons, lkw_nil, lkw_cons, ↓reduceIte, Nat.reduceAdd, Nat.reduceEqDiff, Nat.reduceLeDiff, Nat.reduceMul, true_and, and_true, and_self, List.mem_cons, List.not_mem_nil, or_false, or_self, false_or, true_implies, false_implies, not_true_eq_false, not_false_eq_true, nI00, nI10, nI01, nI11, forall_const, implies_true])
  (try simp (disch := omega) only [ixq, ixz, sb_in, sb_in0, upI_sb, upI_sb0, sb_out, nI_add, nI_mul, nI_subq, Nat.zero_add, forall_eq, u2_row, upd_at, upd_ne, nI0b, nI1b, nI00, nI10, nI01, nI11, true_implies, false_implies, not_true_eq_false, not_false_eq_true, and_true, true_and, implies_true])
  exact i2
theorem c9_write {N : Nat → Int64} (w8 : W ≤ 8) (hn : ∀ w, w < W → nameN (nm w)) (hg : ∀ w, w < W → (dgL (go w) 5).length ≤ 3) (g0 : ∀ w, w < W → 0 ≤ go w ∧ 0 ≤ md w) (hN : ∀ w, w < W → μ.2 (m + 6) (6 + w) = lN (cvN 6 (nm w))) (n2 : ∀ w, w < W → Q 2 (833 + w) = go w) (n3 : ∀ w, w < W → Q 2 (849 + w) = md w) (q1 : Q 2 1 = nI W) (r0 : Q 2 621 = nI 1) (hK : ∀ Q', frWt (u2 Q 0 0 (nI 0)) Q' → Tt (wrL nm go md W) (Q' 0 38) (Q' 18) → K (.inl (nI (wrL nm go md W).length)) (sb μ m 21 Q')) : mMet X (h + 5) m_X9_write [.inr (.inr (8, 0, m))] (sb μ m 21 Q) K := by
  (refine vc_met2 P2_ok ok_X9_write cm_X9_write [14,21,94] 8 t_X9_write_0 (Nat.le_of_ble_eq_true rfl) ?_; simp only [mArg_nil, mArg_I, mArg_L, mArg_A, Nat.reduceAdd])
  have ln := wrL_len (nm := nm) (md := md) hg
  have e2 : (u2 Q 0 0 (nI 0)) 2 = Q 2 := u2_row (by decide)
  generalize hQ0 : u2 Q 0 0 (nI 0) = Q0 at hK e2
  have main : ∀ i w Q', w + i = W → frWt Q0 Q' → Tt (wrL nm go md w) (Q' 0 38) (Q' 18) → bb X P2 m_X9_write (h + 4) K (vc X P2 m_X9_write (h + 4) K k_X9_write [14,21,94] 8) s_X9_write_21 [(1, .inl (nI w)), (0, .inr (.inr (8, 0, m)))] [] (sb μ m 21 Q') := by
    intro i
    induction i with
    | zero =>
      intro w Q' hw hf h1
      have ew : w = W := by omega
      subst ew
      have hK := hK Q' hf h1
      have e1 := h1.1
      have q1' : Q' 2 1 = nI w := by rw [hf.1 2 (by decide) (by decide) (by decide), e2]; exact q1
      have c1 : (nI w ≤ nI w) = True := eq_true (Int32.le_refl _)
      (try simp only [↓w_X9_write_0, ↓w_X9_write_14, ↓w_X9_write_21, ↓v_X9_write_14, ↓v_X9_write_21, ↓v_X9_write_94, ↓b_aload_n, ↓b_bipush, ↓b_callV1_1, ↓b_callV2_0, ↓b_getA, ↓b_getI, ↓b_goto, ↓b_iadd, ↓b_iaload, ↓b_ic_ge, ↓b_iconst, ↓b_if_ne, ↓n_iinc, ↓b_iload_n, ↓b_iret, ↓n_istore_n, ↓b_laload, ↓n_putI, ↓b_sipush, ↓ldI_hit, ↓ldI_skip, ↓ldL_hit, ↓ldL_skip, ↓ldA_hit, ↓ldA_skip, ↓ldelK_nil, ↓ldelK_hit, ↓ldelK_skipI, ↓ldelK_skipA, ↓ldelK_skipL, qP2_X9_isRun, qP2_X9_put, qP2_X9_putName, qP2_X9_putNumber, qP2_X9_works, ↓bI_b, bI_0, nnot, lget_hit, lget_skip, ldel_nil, ldel_hit, ldel_skipI, ldel_skipA, ldel_skipL, ldel2_nil, ldel2_hit, ldel2_hit2, ldel2_skipI, ldel2_skipA, ldel2_skipL, vc_0, mCat_nil, mCat_I, mCat_L, mCat_A, mRcv_A, mArg_nil, mArg_I, mArg_L, mArg_A, tsg, swt_nil, swt_cons, lkw_nil, lkw_cons, ↓reduceIte, Nat.reduceAdd, Nat.reduceEqDiff, Nat.reduceLeDiff, Nat.reduceMul, true_and, and_true, and_self, List.mem_cons, List.not_mem_nil, or_false, or_self, false_or, true_implies, false_implies, not_true_eq_false, not_false_eq_true, nI00, nI10, nI01, nI11, forall_const, implies_true])
      (try simp (disch := omega) only [ixq, ixz, sb_in, sb_in0, upI_sb, upI_sb0, sb_out, nI_add, nI_mul, nI_subq, Nat.zero_add, forall_eq, u2_at, u2_row, upd_at, upd_ne, nI0b, nI1b, nI00, nI10, nI01, nI11, true_implies, false_implies, not_true_eq_false, not_false_eq_true, and_true, true_and, implies_true, q1', c1])
      (refine vc_from P2_ok ok_X9_write [14,21,94] 8 ?_; rw [t_X9_write_94])
      (try simp only [↓w_X9_write_0, ↓w_X9_write_14, ↓w_X9_write_21, ↓w_X9_write_94, ↓v_X9_write_14, ↓v_X9_write_21, ↓v_X9_write_94, ↓b_aload_n, ↓b_bipush, ↓b_callV1_1, ↓b_callV2_0, ↓b_getA, ↓b_getI, ↓b_goto, ↓b_iadd, ↓b_iaload, ↓b_ic_ge, ↓b_iconst, ↓b_if_ne, ↓n_iinc, ↓b_iload_n, ↓b_iret, ↓n_istore_n, ↓b_laload, ↓n_putI, ↓b_sipush, ↓ldI_hit, ↓ldI_skip, ↓ldL_hit, ↓ldL_skip, ↓ldA_hit, ↓ldA_skip, ↓ldelK_nil, ↓ldelK_hit, ↓ldelK_skipI, ↓ldelK_skipA, ↓ldelK_skipL, qP2_X9_isRun, qP2_X9_put, qP2_X9_putName, qP2_X9_putNumber, qP2_X9_works, ↓bI_b, bI_0, nnot, lget_hit, lget_skip, ldel_nil, ldel_hit, ldel_skipI, ldel_skipA, ldel_skipL, ldel2_nil, ldel2_hit, ldel2_hit2, ldel2_skipI, ldel2_skipA, ldel2_skipL, vc_0, mCat_nil, mCat_I, mCat_L, mCat_A, mRcv_A, mArg_nil, mArg_I, mArg_L, mArg_A, tsg, swt_nil, swt_cons, lkw_nil, lkw_cons, ↓reduceIte, Nat.reduceAdd, Nat.reduceEqDiff, Nat.reduceLeDiff, Nat.reduceMul, true_and, and_true, and_self, List.mem_cons, List.not_mem_nil, or_false, or_self, false_or, true_implies, false_implies, not_true_eq_false, not_false_eq_true, nI00, nI10, nI01, nI11, forall_const, implies_true])
      (try simp (disch := omega) only [ixq, ixz, sb_in, sb_in0, upI_sb, upI_sb0, sb_out, nI_add, nI_mul, nI_subq, Nat.zero_add, forall_eq, u2_at, u2_row, upd_at, upd_ne, nI0b, nI1b, nI00, nI10, nI01, nI11, true_implies, false_implies, not_true_eq_false, not_false_eq_true, and_true, true_and, implies_true, e1])
      exact hK
    | succ i ih =>
      intro w Q' hw hf h1
      have i2 := fun Q2 f2 h2 => ih (w + 1) Q2 (by omega) f2 h2
      clear ih hK
      have l0 := ln w (by omega)
      have l1 := hg w (by omega)
      have l2 := nmL_len 6 (nm w)
      have l3 := dgL_len (md w) 5
      have m0 : (sb μ m 21 Q').2 (m + 6) (6 + w) = lN (cvN 6 (nm w)) := hN w (by omega)
      have gw := g0 w (by omega)
      have ha := hn w (by omega)
      have er : ∀ Q2, frWt Q0 Q2 → Q2 2 1 = nI W ∧ Q2 2 (833 + w) = go w ∧ Q2 2 (849 + w) = md w := fun Q2 f2 => by
        rw [f2.1 2 (by decide) (by decide) (by decide), e2]
        exact ⟨q1, n2 w (by omega), n3 w (by omega)⟩
      have q1' := (er Q' hf).1
      unfold wrL at i2
      generalize wrL nm go md w = L at h1 i2 l0
      have c1 : (nI W ≤ nI w) = False := by rw [nI_lq (by omega) (by omega)]; exact eq_false (by omega)
      (try simp only [↓w_X9_write_0, ↓w_X9_write_14, ↓w_X9_write_21, ↓v_X9_write_14, ↓v_X9_write_21, ↓v_X9_write_94, ↓b_aload_n, ↓b_bipush, ↓b_callV1_1, ↓b_callV2_0, ↓b_getA, ↓b_getI, ↓b_goto, ↓b_iadd, ↓b_iaload, ↓b_ic_ge, ↓b_iconst, ↓b_if_ne, ↓n_iinc, ↓b_iload_n, ↓b_iret, ↓n_istore_n, ↓b_laload, ↓n_putI, ↓b_sipush, ↓ldI_hit, ↓ldI_skip, ↓ldL_hit, ↓ldL_skip, ↓ldA_hit, ↓ldA_skip, ↓ldelK_nil, ↓ldelK_hit, ↓ldelK_skipI, ↓ldelK_skipA, ↓ldelK_skipL, qP2_X9_isRun, qP2_X9_put, qP2_X9_putName, qP2_X9_putNumber, qP2_X9_works, ↓bI_b, bI_0, nnot, lget_hit, lget_skip, ldel_nil, ldel_hit, ldel_skipI, ldel_skipA, ldel_skipL, ldel2_nil, ldel2_hit, ldel2_hit2, ldel2_skipI, ldel2_skipA, ldel2_skipL, vc_0, mCat_nil, mCat_I, mCat_L, mCat_A, mRcv_A, mArg_nil, mArg_I, mArg_L, mArg_A, tsg, swt_nil, swt_cons, lkw_nil, lkw_cons, ↓reduceIte, Nat.reduceAdd, Nat.reduceEqDiff, Nat.reduceLeDiff, Nat.reduceMul, true_and, and_true, and_self, List.mem_cons, List.not_mem_nil, or_false, or_self, false_or, true_implies, false_implies, not_true_eq_false, not_false_eq_true, nI00, nI10, nI01, nI11, forall_const, implies_true])
      (try simp (disch := omega) only [ixq, ixz, sb_in, sb_in0, upI_sb, upI_sb0, sb_out, nI_add, nI_mul, nI_subq, Nat.zero_add, forall_eq, u2_at, u2_row, upd_at, upd_ne, nI0b, nI1b, nI00, nI10, nI01, nI11, true_implies, false_implies, not_true_eq_false, not_false_eq_true, and_true, true_and, implies_true, q1', c1, m0])
      refine c_putNameR ha h1 (by omega) (fun Q1 f1 t1 => ?_)
      have f1 := frWt_t hf f1
      (try simp only [↓w_X9_write_0, ↓w_X9_write_14, ↓w_X9_write_21, ↓v_X9_write_14, ↓v_X9_write_21, ↓v_X9_write_94, ↓b_aload_n, ↓b_bipush, ↓b_callV1_1, ↓b_callV2_0, ↓b_getA, ↓b_getI, ↓b_goto, ↓b_iadd, ↓b_iaload, ↓b_ic_ge, ↓b_iconst, ↓b_if_ne, ↓n_iinc, ↓b_iload_n, ↓b_iret, ↓n_istore_n, ↓b_laload, ↓n_putI, ↓b_sipush, ↓ldI_hit, ↓ldI_skip, ↓ldL_hit, ↓ldL_skip, ↓ldA_hit, ↓ldA_skip, ↓ldelK_nil, ↓ldelK_hit, ↓ldelK_skipI, ↓ldelK_skipA, ↓ldelK_skipL, qP2_X9_isRun, qP2_X9_put, qP2_X9_putName, qP2_X9_putNumber, qP2_X9_works, ↓bI_b, bI_0, nnot, lget_hit, lget_skip, ldel_nil, ldel_hit, ldel_skipI, ldel_skipA, ldel_skipL, ldel2_nil, ldel2_hit, ldel2_hit2, ldel2_skipI, ldel2_skipA, ldel2_skipL, vc_0, mCat_nil, mCat_I, mCat_L, mCat_A, mRcv_A, mArg_nil, mArg_I, mArg_L, mArg_A, tsg, swt_nil, swt_cons, lkw_nil, lkw_cons, ↓reduceIte, Nat.reduceAdd, Nat.reduceEqDiff, Nat.reduceLeDiff, Nat.reduceMul, true_and, and_true, and_self, List.mem_cons, List.not_mem_nil, or_false, or_self, false_or, true_implies, false_implies, not_true_eq_false, not_false_eq_true, nI00, nI10, nI01, nI11, forall_const, implies_true])
      refine c_putR t1 (by rw [List.length_append]; omega) (fun Q2 f2 _ t2 => ?_)
      have f2 := frWt_t f1 f2
      have e := (er Q2 f2).2.1
      (try simp only [↓w_X9_write_0, ↓w_X9_write_14, ↓w_X9_write_21, ↓v_X9_write_14, ↓v_X9_write_21, ↓v_X9_write_94, ↓b_aload_n, ↓b_bipush, ↓b_callV1_1, ↓b_callV2_0, ↓b_getA, ↓b_getI, ↓b_goto, ↓b_iadd, ↓b_iaload, ↓b_ic_ge, ↓b_iconst, ↓b_if_ne, ↓n_iinc, ↓b_iload_n, ↓b_iret, ↓n_istore_n, ↓b_laload, ↓n_putI, ↓b_sipush, ↓ldI_hit, ↓ldI_skip, ↓ldL_hit, ↓ldL_skip, ↓ldA_hit, ↓ldA_skip, ↓ldelK_nil, ↓ldelK_hit, ↓ldelK_skipI, ↓ldelK_skipA, ↓ldelK_skipL, qP2_X9_isRun, qP2_X9_put, qP2_X9_putName, qP2_X9_putNumber, qP2_X9_works, ↓bI_b, bI_0, nnot, lget_hit, lget_skip, ldel_nil, ldel_hit, ldel_skipI, ldel_skipA, ldel_skipL, ldel2_nil, ldel2_hit, ldel2_hit2, ldel2_skipI, ldel2_skipA, ldel2_skipL, vc_0, mCat_nil, mCat_I, mCat_L, mCat_A, mRcv_A, mArg_nil, mArg_I, mArg_L, mArg_A, tsg, swt_nil, swt_cons, lkw_nil, lkw_cons, ↓reduceIte, Nat.reduceAdd, Nat.reduceEqDiff, Nat.reduceLeDiff, Nat.reduceMul, true_and, and_true, and_self, List.mem_cons, List.not_mem_nil, or_false, or_self, false_or, true_implies, false_implies, not_true_eq_false, not_false_eq_true, nI00, nI10, nI01, nI11, forall_const, implies_true])
      (try simp (disch := omega) only [ixq, ixz, sb_in, sb_in0, upI_sb, upI_sb0, sb_out, nI_add, nI_mul, nI_subq, Nat.zero_add, forall_eq, u2_at, u2_row, upd_at, upd_ne, nI0b, nI1b, nI00, nI10, nI01, nI11, true_implies, false_implies, not_true_eq_false, not_false_eq_true, and_true, true_and, implies_true, e])
      refine c_putNumR gw.1 t2 (by rw [List.length_append, List.length_append, List.length_singleton]; omega) (fun Q3 f3 t3 => ?_)
      have f3 := frWt_t f2 f3
      (try simp only [↓w_X9_write_0, ↓w_X9_write_14, ↓w_X9_write_21, ↓v_X9_write_14, ↓v_X9_write_21, ↓v_X9_write_94, ↓b_aload_n, ↓b_bipush, ↓b_callV1_1, ↓b_callV2_0, ↓b_getA, ↓b_getI, ↓b_goto, ↓b_iadd, ↓b_iaload, ↓b_ic_ge, ↓b_iconst, ↓b_if_ne, ↓n_iinc, ↓b_iload_n, ↓b_iret, ↓n_istore_n, ↓b_laload, ↓n_putI, ↓b_sipush, ↓ldI_hit, ↓ldI_skip, ↓ldL_hit, ↓ldL_skip, ↓ldA_hit, ↓ldA_skip, ↓ldelK_nil, ↓ldelK_hit, ↓ldelK_skipI, ↓ldelK_skipA, ↓ldelK_skipL, qP2_X9_isRun, qP2_X9_put, qP2_X9_putName, qP2_X9_putNumber, qP2_X9_works, ↓bI_b, bI_0, nnot, lget_hit, lget_skip, ldel_nil, ldel_hit, ldel_skipI, ldel_skipA, ldel_skipL, ldel2_nil, ldel2_hit, ldel2_hit2, ldel2_skipI, ldel2_skipA, ldel2_skipL, vc_0, mCat_nil, mCat_I, mCat_L, mCat_A, mRcv_A, mArg_nil, mArg_I, mArg_L, mArg_A, tsg, swt_nil, swt_cons, lkw_nil, lkw_cons, ↓reduceIte, Nat.reduceAdd, Nat.reduceEqDiff, Nat.reduceLeDiff, Nat.reduceMul, true_and, and_true, and_self, List.mem_cons, List.not_mem_nil, or_false, or_self, false_or, true_implies, false_implies, not_true_eq_false, not_false_eq_true, nI00, nI10, nI01, nI11, forall_const, implies_true])
      refine c_putR t3 (by rw [List.length_append, List.length_append, List.length_append, List.length_singleton]; omega) (fun Q4 f4 _ t4 => ?_)
      have f4 := frWt_t f3 f4
      have e := (er Q4 f4).2.2
      (try simp only [↓w_X9_write_0, ↓w_X9_write_14, ↓w_X9_write_21, ↓v_X9_write_14, ↓v_X9_write_21, ↓v_X9_write_94, ↓b_aload_n, ↓b_bipush, ↓b_callV1_1, ↓b_callV2_0, ↓b_getA, ↓b_getI, ↓b_goto, ↓b_iadd, ↓b_iaload, ↓b_ic_ge, ↓b_iconst, ↓b_if_ne, ↓n_iinc, ↓b_iload_n, ↓b_iret, ↓n_istore_n, ↓b_laload, ↓n_putI, ↓b_sipush, ↓ldI_hit, ↓ldI_skip, ↓ldL_hit, ↓ldL_skip, ↓ldA_hit, ↓ldA_skip, ↓ldelK_nil, ↓ldelK_hit, ↓ldelK_skipI, ↓ldelK_skipA, ↓ldelK_skipL, qP2_X9_isRun, qP2_X9_put, qP2_X9_putName, qP2_X9_putNumber, qP2_X9_works, ↓bI_b, bI_0, nnot, lget_hit, lget_skip, ldel_nil, ldel_hit, ldel_skipI, ldel_skipA, ldel_skipL, ldel2_nil, ldel2_hit, ldel2_hit2, ldel2_skipI, ldel2_skipA, ldel2_skipL, vc_0, mCat_nil, mCat_I, mCat_L, mCat_A, mRcv_A, mArg_nil, mArg_I, mArg_L, mArg_A, tsg, swt_nil, swt_cons, lkw_nil, lkw_cons, ↓reduceIte, Nat.reduceAdd, Nat.reduceEqDiff, Nat.reduceLeDiff, Nat.reduceMul, true_and, and_true, and_self, List.mem_cons, List.not_mem_nil, or_false, or_self, false_or, true_implies, false_implies, not_true_eq_false, not_false_eq_true, nI00, nI10, nI01, nI11, forall_const, implies_true])
      (try simp (disch := omega) only [ixq, ixz, sb_in, sb_in0, upI_sb, upI_sb0, sb_out, nI_add, nI_mul, nI_subq, Nat.zero_add, forall_eq, u2_at, u2_row, upd_at, upd_ne, nI0b, nI1b, nI00, nI10, nI01, nI11, true_implies, false_implies, not_true_eq_false, not_false_eq_true, and_true, true_and, implies_true, e])
      refine c_putNumR gw.2 t4 (by rw [List.length_append, List.length_append, List.length_append, List.length_append, List.length_singleton]; omega) (fun Q5 f5 t5 => ?_)
      have f5 := frWt_t f4 f5
      (try simp only [↓w_X9_write_0, ↓w_X9_write_14, ↓w_X9_write_21, ↓v_X9_write_14, ↓v_X9_write_21, ↓v_X9_write_94, ↓b_aload_n, ↓b_bipush, ↓b_callV1_1, ↓b_callV2_0, ↓b_getA, ↓b_getI, ↓b_goto, ↓b_iadd, ↓b_iaload, ↓b_ic_ge, ↓b_iconst, ↓b_if_ne, ↓n_iinc, ↓b_iload_n, ↓b_iret, ↓n_istore_n, ↓b_laload, ↓n_putI, ↓b_sipush, ↓ldI_hit, ↓ldI_skip, ↓ldL_hit, ↓ldL_skip, ↓ldA_hit, ↓ldA_skip, ↓ldelK_nil, ↓ldelK_hit, ↓ldelK_skipI, ↓ldelK_skipA, ↓ldelK_skipL, qP2_X9_isRun, qP2_X9_put, qP2_X9_putName, qP2_X9_putNumber, qP2_X9_works, ↓bI_b, bI_0, nnot, lget_hit, lget_skip, ldel_nil, ldel_hit, ldel_skipI, ldel_skipA, ldel_skipL, ldel2_nil, ldel2_hit, ldel2_hit2, ldel2_skipI, ldel2_skipA, ldel2_skipL, vc_0, mCat_nil, mCat_I, mCat_L, mCat_A, mRcv_A, mArg_nil, mArg_I, mArg_L, mArg_A, tsg, swt_nil, swt_cons, lkw_nil, lkw_cons, ↓reduceIte, Nat.reduceAdd, Nat.reduceEqDiff, Nat.reduceLeDiff, Nat.reduceMul, true_and, and_true, and_self, List.mem_cons, List.not_mem_nil, or_false, or_self, false_or, true_implies, false_implies, not_true_eq_false, not_false_eq_true, nI00, nI10, nI01, nI11, forall_const, implies_true])
      refine c_putR t5 (by rw [List.length_append, List.length_append, List.length_append, List.length_append, List.length_append, List.length_singleton]; omega) (fun Q6 f6 _ t6 => ?_)
      have i3 := i2 Q6 (frWt_t f5 f6) t6
      clear i2
      (try simp only [↓w_X9_write_0, ↓w_X9_write_14, ↓w_X9_write_21, ↓v_X9_write_14, ↓v_X9_write_21, ↓v_X9_write_94, ↓b_aload_n, ↓b_bipush, ↓b_callV1_1, ↓b_callV2_0, ↓b_getA, ↓b_getI, ↓b_goto, ↓b_iadd, ↓b_iaload, ↓b_ic_ge, ↓b_iconst, ↓b_if_ne, ↓n_iinc, ↓b_iload_n, ↓b_iret, ↓n_istore_n, ↓b_laload, ↓n_putI, ↓b_sipush, ↓ldI_hit, ↓ldI_skip, ↓ldL_hit, ↓ldL_skip, ↓ldA_hit, ↓ldA_skip, ↓ldelK_nil, ↓ldelK_hit, ↓ldelK_skipI, ↓ldelK_skipA, ↓ldelK_skipL, qP2_X9_isRun, qP2_X9_put, qP2_X9_putName, qP2_X9_putNumber, qP2_X9_works, ↓bI_b, bI_0, nnot, lget_hit, lget_skip, ldel_nil, ldel_hit, ldel_skipI, ldel_skipA, ldel_skipL, ldel2_nil, ldel2_hit, ldel2_hit2, ldel2_skipI, ldel2_skipA, ldel2_skipL, vc_0, mCat_nil, mCat_I, mCat_L, mCat_A, mRcv_A, mArg_nil, mArg_I, mArg_L, mArg_A, tsg, swt_nil, swt_cons, lkw_nil, lkw_cons, ↓reduceIte, Nat.reduceAdd, Nat.reduceEqDiff, Nat.reduceLeDiff, Nat.reduceMul, true_and, and_true, and_self, List.mem_cons, List.not_mem_nil, or_false, or_self, false_or, true_implies, false_implies, not_true_eq_false, not_false_eq_true, nI00, nI10, nI01, nI11, forall_const, implies_true])
      (try simp (disch := omega) only [ixq, ixz, sb_in, sb_in0, upI_sb, upI_sb0, sb_out, nI_add, nI_mul, nI_subq, Nat.zero_add, forall_eq, u2_at, u2_row, upd_at, upd_ne, nI0b, nI1b, nI00, nI10, nI01, nI11, true_implies, false_implies, not_true_eq_false, not_false_eq_true, and_true, true_and, implies_true])
      exact vc_back P2_ok ok_X9_write [14,21,94] 8 t_X9_write_21 (i3) (by simp) (rfl)
  have i2 := main W 0 (u2 Q0 0 38 (nI 0)) (by omega) (frWt_u (Or.inr (Or.inr ⟨rfl, rfl⟩))) ⟨by rw [u2_at, upd_at]; rfl, fun j hj => absurd hj (Nat.not_lt_zero j)⟩
  clear main
  have r1 : Q0 2 621 = nI 1 := by rw [e2]; exact r0
  have z1 : (0 < nI 1) = True := eq_true (by decide)
  (try simp only [↓w_X9_write_0, ↓w_X9_write_94, ↓v_X9_write_14, ↓v_X9_write_21, ↓v_X9_write_94, ↓b_aload_n, ↓b_bipush, ↓b_callV1_1, ↓b_callV2_0, ↓b_getA, ↓b_getI, ↓b_goto, ↓b_iadd, ↓b_iaload, ↓b_ic_ge, ↓b_iconst, ↓b_if_ne, ↓n_iinc, ↓b_iload_n, ↓b_iret, ↓n_istore_n, ↓b_laload, ↓n_putI, ↓b_sipush, ↓ldI_hit, ↓ldI_skip, ↓ldL_hit, ↓ldL_skip, ↓ldA_hit, ↓ldA_skip, ↓ldelK_nil, ↓ldelK_hit, ↓ldelK_skipI, ↓ldelK_skipA, ↓ldelK_skipL, qP2_X9_isRun, qP2_X9_put, qP2_X9_putName, qP2_X9_putNumber, qP2_X9_works, ↓bI_b, bI_0, nnot, lget_hit, lget_skip, ldel_nil, ldel_hit, ldel_skipI, ldel_skipA, ldel_skipL, ldel2_nil, ldel2_hit, ldel2_hit2, ldel2_skipI, ldel2_skipA, ldel2_skipL, vc_0, mCat_nil, mCat_I, mCat_L, mCat_A, mRcv_A, mArg_nil, mArg_I, mArg_L, mArg_A, tsg, swt_nil, swt_cons, lkw_nil, lkw_cons, ↓reduceIte, Nat.reduceAdd, Nat.reduceEqDiff, Nat.reduceLeDiff, Nat.reduceMul, true_and, and_true, and_self, List.mem_cons, List.not_mem_nil, or_false, or_self, false_or, true_implies, false_implies, not_true_eq_false, not_false_eq_true, nI00, nI10, nI01, nI11, forall_const, implies_true])
  (try simp (disch := omega) only [ixq, ixz, sb_in, sb_in0, upI_sb, upI_sb0, sb_out, nI_add, nI_mul, nI_subq, Nat.zero_add, forall_eq, upd_at, upd_ne, nI0b, nI1b, nI00, nI10, nI01, nI11, true_implies, false_implies, not_true_eq_false, not_false_eq_true, and_true, true_and, implies_true, hQ0, r1, z1])
  (refine vc_from P2_ok ok_X9_write [14,21,94] 8 ?_; rw [t_X9_write_14])
  (try simp only [↓w_X9_write_0, ↓w_X9_write_14, ↓w_X9_write_94, ↓v_X9_write_14, ↓v_X9_write_21, ↓v_X9_write_94, ↓b_aload_n, ↓b_bipush, ↓b_callV1_1, ↓b_callV2_0, ↓b_getA, ↓b_getI, ↓b_goto, ↓b_iadd, ↓b_iaload, ↓b_ic_ge, ↓b_iconst, ↓b_if_ne, ↓n_iinc, ↓b_iload_n, ↓b_iret, ↓n_istore_n, ↓b_laload, ↓n_putI, ↓b_sipush, ↓ldI_hit, ↓ldI_skip, ↓ldL_hit, ↓ldL_skip, ↓ldA_hit, ↓ldA_skip, ↓ldelK_nil, ↓ldelK_hit, ↓ldelK_skipI, ↓ldelK_skipA, ↓ldelK_skipL, qP2_X9_isRun, qP2_X9_put, qP2_X9_putName, qP2_X9_putNumber, qP2_X9_works, ↓bI_b, bI_0, nnot, lget_hit, lget_skip, ldel_nil, ldel_hit, ldel_skipI, ldel_skipA, ldel_skipL, ldel2_nil, ldel2_hit, ldel2_hit2, ldel2_skipI, ldel2_skipA, ldel2_skipL, vc_0, mCat_nil, mCat_I, mCat_L, mCat_A, mRcv_A, mArg_nil, mArg_I, mArg_L, mArg_A, tsg, swt_nil, swt_cons, lkw_nil, lkw_cons, ↓reduceIte, Nat.reduceAdd, Nat.reduceEqDiff, Nat.reduceLeDiff, Nat.reduceMul, true_and, and_true, and_self, List.mem_cons, List.not_mem_nil, or_false, or_self, false_or, true_implies, false_implies, not_true_eq_false, not_false_eq_true, nI00, nI10, nI01, nI11, forall_const, implies_true])
  (try simp (disch := omega) only [ixq, ixz, sb_in, sb_in0, upI_sb, upI_sb0, sb_out, nI_add, nI_mul, nI_subq, Nat.zero_add, forall_eq, upd_at, upd_ne, nI0b, nI1b, nI00, nI10, nI01, nI11, true_implies, false_implies, not_true_eq_false, not_false_eq_true, and_true, true_and, implies_true])
  exact i2
theorem Rel_tx {Q' T' : Bk} {L : List Int32} (hx : x + 164 = m) (hr : Rel x m μ) (hL : L.length ≤ 136) (t1 : Tt L (T' 0 1) (T' 1)) (t2 : Tt L (Q' 0 38) (Q' 18)) (h1 : ∀ k, k = 1 ∨ k = 2 ∨ k = 5 ∨ k = 9 → Q' k = μ.1 (m + k)) (h0 : ∀ j, j = 2 ∨ j = 10 ∨ j = 33 ∨ j = 35 → Q' 0 j = μ.1 m j) : Rel x m (sb (sb μ (x + 159) 2 T') m 21 Q') := by
  have e : ∀ k, k < 21 → (sb (sb μ (x + 159) 2 T') m 21 Q').1 (m + k) = Q' k := fun k hk => sb_in hk
  have e0 : (sb (sb μ (x + 159) 2 T') m 21 Q').1 m = Q' 0 := e 0 (by omega)
  have o : ∀ i, i < 159 ∨ i = 161 → (sb (sb μ (x + 159) 2 T') m 21 Q').1 (x + i) = μ.1 (x + i) := fun i h1 => by
    rw [sb_out (by omega), sb_out (by omega)]
  have ox : (sb (sb μ (x + 159) 2 T') m 21 Q').1 x = μ.1 x := o 0 (by omega)
  have e9 : (sb (sb μ (x + 159) 2 T') m 21 Q').1 (x + 159) = T' 0 := by rw [sb_out (by omega)]; exact sb_in (k := 0) (by omega)
  have e60 : (sb (sb μ (x + 159) 2 T') m 21 Q').1 (x + 160) = T' 1 := by rw [sb_out (by omega)]; exact sb_in (k := 1) (by omega)
  have l : (sb (sb μ (x + 159) 2 T') m 21 Q').2 = μ.2 := rfl
  generalize sb (sb μ (x + 159) 2 T') m 21 Q' = μ' at e e0 o ox e9 e60 l ⊢
  obtain ⟨s1, s2, s3, s4, s5, s6, s7, s8⟩ := hr
  refine ⟨RTp_k s1 (by rw [o 1 (by omega)]) (by rw [e0]; exact h0 2 (by omega)) (by rw [e 1 (by omega)]; exact h1 1 (by omega)) (o 2 (by omega)), RKw_k s2 (o 3 (by omega)), RSt_k s3 (fun i hi => o i (by omega)) (by rw [e 2 (by omega)]; exact h1 2 (by omega)) (by rw [l]), fun k hk => RIm_k hk (s4 k hk) (fun i _ hi => o i (by omega)) (by rw [e 5 (by omega)]; exact h1 5 (by omega)) (by rw [l]) (by rw [e 9 (by omega)]; exact h1 9 (by omega)), ⟨L.length, hL, by rw [e9]; exact t1.1, by rw [e0]; exact t2.1, fun j hj => by rw [e60, e 18 (by omega), t1.2 j hj, t2.2 j hj]⟩, RWo_k s6 (by rw [ox]) (by rw [e0]; exact h0 33 (by omega)) (by rw [l]) (by rw [l]) (by rw [l]) (by rw [l]), ?_, ?_⟩
  · rw [ox, e0, h0 35 (by omega)]; exact s7
  · rw [ox, e0, h0 10 (by omega)]; exact s8
theorem f_write (hx : x + 164 = m) (hr : Rel x m μ) : PAIR X (h + 5) m_X8_write m_X9_write x m [] μ := by
  obtain ⟨G, W, rb, pl, sn, rn⟩ := id hr.2.2.1
  have b1 : μ.1 (x + 4) 1 = nI W := rb.b1
  have q1 : bk μ m 2 1 = nI W := rb.q1
  have g6 := rb.g6
  have w8 := rb.w8
  rcases rn with ⟨e1, e2⟩ | ⟨n, n1, n2, n3, n4⟩
  · have e1' : μ.1 (x + 50) 0 = -1 := e1
    have e2' : bk μ m 2 621 = nI 0 := e2
    refine get (.inl (-1)) hx hr (fun K hK => ?_) (fun K hK => ?_)
    · (refine vc_met2 P2_ok ok_X8_write cm_X8_write [9,19] 8 t_X8_write_0 (Nat.le_of_ble_eq_true rfl) ?_; simp only [mArg_nil, mArg_I, mArg_L, mArg_A, Nat.reduceAdd])
      (try simp only [↓w_X8_write_0, ↓w_X8_write_121, ↓v_X8_write_9, ↓v_X8_write_19, ↓v_X8_write_121, ↓b_aload_n, ↓b_bipush, ↓b_callV1_1, ↓b_callV2_0, ↓b_getA, ↓b_getI, ↓b_goto, ↓b_iaload, ↓b_ic_ge, ↓b_iconst, ↓b_if_ne, ↓n_iinc, ↓b_iload_n, ↓b_imul, ↓b_iret, ↓n_istore_n, ↓n_putI, ↓ldI_hit, ↓ldI_skip, ↓ldL_hit, ↓ldL_skip, ↓ldA_hit, ↓ldA_skip, ↓ldelK_nil, ↓ldelK_hit, ↓ldelK_skipI, ↓ldelK_skipA, ↓ldelK_skipL, qP2_X7_putByte, qP2_X7_putName, qP2_X7_putNumber, qP2_X8_isRunning, ↓bI_b, bI_0, nnot, lget_hit, lget_skip, ldel_nil, ldel_hit, ldel_skipI, ldel_skipA, ldel_skipL, ldel2_nil, ldel2_hit, ldel2_hit2, ldel2_skipI, ldel2_skipA, ldel2_skipL, vc_0, mCat_nil, mCat_I, mCat_L, mCat_A, mRcv_A, mArg_nil, mArg_I, mArg_L, mArg_A, tsg, swt_nil, swt_cons, lkw_nil, lkw_cons, ↓reduceIte, Nat.reduceAdd, Nat.reduceEqDiff, Nat.reduceLeDiff, Nat.reduceMul, true_and, and_true, and_self, List.mem_cons, List.not_mem_nil, or_false, or_self, false_or, true_implies, false_implies, not_true_eq_false, not_false_eq_true, nI00, nI10, nI01, nI11, forall_const, implies_true])
      (try simp (disch := omega) only [ixq, ixz, sb_in, sb_in0, upI_sb, upI_sb0, sb_out, nI_add, nI_mul, nI_subq, Nat.zero_add, forall_eq, u2_at, u2_row, upd_at, upd_ne, nI0b, nI1b, nI00, nI10, nI01, nI11, true_implies, false_implies, not_true_eq_false, not_false_eq_true, and_true, true_and, implies_true, e1'])
      exact hK
    · (refine vc_met2 P2_ok ok_X9_write cm_X9_write [14,21] 8 t_X9_write_0 (Nat.le_of_ble_eq_true rfl) ?_; simp only [mArg_nil, mArg_I, mArg_L, mArg_A, Nat.reduceAdd])
      (try simp only [↓w_X9_write_0, ↓w_X9_write_94, ↓v_X9_write_14, ↓v_X9_write_21, ↓v_X9_write_94, ↓b_aload_n, ↓b_bipush, ↓b_callV1_1, ↓b_callV2_0, ↓b_getA, ↓b_getI, ↓b_goto, ↓b_iadd, ↓b_iaload, ↓b_ic_ge, ↓b_iconst, ↓b_if_ne, ↓n_iinc, ↓b_iload_n, ↓b_iret, ↓n_istore_n, ↓b_laload, ↓n_putI, ↓b_sipush, ↓ldI_hit, ↓ldI_skip, ↓ldL_hit, ↓ldL_skip, ↓ldA_hit, ↓ldA_skip, ↓ldelK_nil, ↓ldelK_hit, ↓ldelK_skipI, ↓ldelK_skipA, ↓ldelK_skipL, qP2_X9_isRun, qP2_X9_put, qP2_X9_putName, qP2_X9_putNumber, qP2_X9_works, ↓bI_b, bI_0, nnot, lget_hit, lget_skip, ldel_nil, ldel_hit, ldel_skipI, ldel_skipA, ldel_skipL, ldel2_nil, ldel2_hit, ldel2_hit2, ldel2_skipI, ldel2_skipA, ldel2_skipL, vc_0, mCat_nil, mCat_I, mCat_L, mCat_A, mRcv_A, mArg_nil, mArg_I, mArg_L, mArg_A, tsg, swt_nil, swt_cons, lkw_nil, lkw_cons, ↓reduceIte, Nat.reduceAdd, Nat.reduceEqDiff, Nat.reduceLeDiff, Nat.reduceMul, true_and, and_true, and_self, List.mem_cons, List.not_mem_nil, or_false, or_self, false_or, true_implies, false_implies, not_true_eq_false, not_false_eq_true, nI00, nI10, nI01, nI11, forall_const, implies_true])
      (try simp (disch := omega) only [ixq, ixz, sb_in, sb_in0, upI_sb, upI_sb0, sb_out, nI_add, nI_mul, nI_subq, Nat.zero_add, forall_eq, u2_at, u2_row, upd_at, upd_ne, nI0b, nI1b, nI00, nI10, nI01, nI11, true_implies, false_implies, not_true_eq_false, not_false_eq_true, and_true, true_and, implies_true, e2', z0])
      exact hK
  · have e1' : μ.1 (x + 50) 0 = nI n := n4.2.2.2.2.1
    have e1n : (μ.1 (x + 50) 0 = -1) = False := by rw [e1', nI_m1 (by omega)]
    have e2' : μ.1 (m + 2) 621 = nI 1 := n3
    obtain ⟨nm, hnm⟩ : ∃ nm : Nat → Nat, ∀ w, w < W → nameN (nm w) ∧ bk μ (x + 4) 2 w = nI (nm w) ∧ μ.2 (m + 6) (6 + w) = lN (cvN 6 (nm w)) := by
      refine ⟨fun w => if hw : w < W then Classical.choose (rb.n2 w hw) else 0, fun w hw => ?_⟩
      dsimp only
      rw [dif_pos hw]
      exact Classical.choose_spec (rb.n2 w hw)
    have hw : ∀ w, w < W → ∃ k j, k ≤ 200 ∧ j ≤ 19800 ∧ μ.1 (x + 58) w = nI k ∧ μ.1 (x + 58) w * μ.1 (x + 10) w = nI j ∧ μ.1 (m + 2) (833 + w) = nI k ∧ μ.1 (m + 2) (849 + w) = nI j := fun w hw => by
      obtain ⟨hb1, k, k1, k2, _⟩ := n4.2.2.2.2.2.2.2.2 w hw
      obtain ⟨_, l, l1, l2, _⟩ := rb.mk w (by omega)
      have a1 : μ.1 (x + 58) w = nI k := k2
      have a2 : μ.1 (x + 10) w = nI l := l2
      have a3 : μ.1 (m + 2) (833 + w) = μ.1 (x + 58) w := by
        rw [show 833 + w = 621 + (212 + w) by omega]
        exact n4.1 8 w (by omega) (by rw [show szR 6 8 = 8 by decide]; omega)
      have a4 : μ.1 (m + 2) (849 + w) = μ.1 (x + 58) w * μ.1 (x + 10) w := by
        rw [show 849 + w = 621 + (228 + w) by omega]
        exact hb1
      have kl : k * l ≤ 200 * 99 := Nat.mul_le_mul (by omega) l1
      exact ⟨k, k * l, by omega, by omega, a1, by rw [a1, a2, nI_mul], by rw [a3, a1], by rw [a4, a1, a2, nI_mul]⟩
    have sm : ∀ w, w < W → (dgL (μ.1 (x + 58) w) 5).length ≤ 3 := fun w hw' => by
      obtain ⟨k, j, k1, _, a, _⟩ := hw w hw'
      rw [a]
      exact dgL_3 (by omega)
    have nz : ∀ w, w < W → 0 ≤ μ.1 (x + 58) w ∧ 0 ≤ μ.1 (x + 58) w * μ.1 (x + 10) w := fun w hw' => by
      obtain ⟨k, j, k1, j1, a, b, _⟩ := hw w hw'
      rw [b, a]
      exact ⟨of_eq_true (nI_zl (by omega)), of_eq_true (nI_zl (by omega))⟩
    have lt : ∀ w, w < W → nm w < 2 ^ 30 := fun w hw' => by
      obtain ⟨k, k1, k6, z⟩ := (hnm w hw').1
      exact Nat.lt_of_lt_of_le (wl_lt k _ z) (Nat.le_trans (Nat.pow_le_pow_right (by decide) k6) (by decide))
    have len := wrL_len (nm := nm) (md := fun w => μ.1 (x + 58) w * μ.1 (x + 10) w) sm W (Nat.le_refl W)
    refine cls_in (i := x + 159) (n := 2) (c8_write (nm := nm) (go := μ.1 (x + 58)) (md := fun w => μ.1 (x + 58) w * μ.1 (x + 10) w) (h := h + 1) w8 lt sm (fun w hw' => (hnm w hw').2.1) (fun _ _ => rfl) (fun _ _ => rfl) b1 e1n (fun T' t1 => ?_))
    have e : ∀ k, k < 21 → bk (sb μ (x + 159) 2 T') m k = μ.1 (m + k) := fun k _ => by
      show (sb μ (x + 159) 2 T').1 (m + k) = _
      rw [sb_out (by omega)]
    refine ref_in (m := m) (c9_write (N := μ.2 (m + 6)) (nm := nm) (go := μ.1 (x + 58)) (md := fun w => μ.1 (x + 58) w * μ.1 (x + 10) w) w8 (fun w hw' => (hnm w hw').1) sm nz (fun w hw' => (hnm w hw').2.2) (fun w hw' => ?_) (fun w hw' => ?_) ?_ ?_ (fun Q' f' t2 => ⟨rfl, Rel_tx hx hr (by omega) t1 t2 (fun k hk => ?_) (fun j hj => ?_)⟩))
    · obtain ⟨k, j, _, _, a, _, b, _⟩ := hw w hw'
      rw [e 2 (by omega), a, b]
    · obtain ⟨k, j, _, _, _, a, _, b⟩ := hw w hw'
      rw [e 2 (by omega), b]
      exact a.symm
    · rw [e 2 (by omega)]; exact q1
    · rw [e 2 (by omega)]; exact e2'
    · rw [f'.1 k (by omega) (by omega) (by omega), u2_row (by omega), e k (by omega)]
    · rw [f'.2 j (by omega), u2_at, upd_ne (by omega), e 0 (by omega)]; rfl
end MWt
