section MGr
variable {X : mC} {h m : Nat} {K : MV → Mem → Prop} {μ : Mem} {Q T B : Bk} {w : Int64} {N : Nat → Int64} {G W : Nat}
theorem TK_kw7 {k : Nat} (ht : TK Q w T) (hk : k < 19) (h8 : T 0 8 = nI k) : ¬ Q 0 7 = nI 1 := by
  rw [((TK_word ht (k := k) hk).mpr h8).1]
  decide
theorem c_readGoodR (hR : RBB G W (Q 3) N B) (ht : TK Q w T) (h8 : T 0 8 = nI 0) (hO : OUTL K μ m Q (rGoodF G W T B)) : mMet X (h + 6) m_X9_readGood [.inr (.inr (8, 0, m))] (sb (upL (rL μ (m + 7) N) m 12 w) m 21 Q) K := by
  have g6 := hR.g6
  have w8 := hR.w8
  have q0 := hR.q0
  have ra : ∀ p, newF G W B (advF T) = p → rGoodF G W T B = (if G = 6 then (nI 0, failF (nI 4) T, B) else
      if p.1 = 0 then (nI 0, p.2, B) else
      if numP (nI 0) (nI 9) (advF p.2) then (nI 1, numF (advF p.2), u2 (u2 (u2 B 1 G (p.2 0 7)) 3 G (advF p.2 0 7)) 0 0 (nI (G + 1))) else (nI 0, failF (numE (advF p.2)) (advF p.2), u2 B 1 G (p.2 0 7))) := fun p hp => by
    subst hp
    rfl
  (refine vc_met2 P0_ok ok_X9_readGood cm_X9_readGood [] 6 t_X9_readGood_0 (Nat.le_of_ble_eq_true rfl) ?_; simp only [mArg_nil, mArg_I, mArg_L, mArg_A, Nat.reduceAdd])
  simp only [↓w_X9_readGood_0, ↓w_X9_readGood_19, ↓w_X9_readGood_41, ↓w_X9_readGood_43, ↓v_X9_readGood_19, ↓v_X9_readGood_41, ↓v_X9_readGood_43, ↓b_aload_n, ↓b_bipush, ↓b_callV1_0, ↓b_callV2_1, ↓b_callV3_1, ↓b_dup2, ↓b_getA, ↓b_getI, ↓b_iadd, ↓b_iaload, ↓n_iastore, ↓b_ic_ne, ↓b_iconst, ↓b_if_eq, ↓b_if_ne, ↓b_iload_n, ↓n_istore_n, ↓b_zret, ↓ldI_hit, ↓ldI_skip, ↓ldL_hit, ↓ldL_skip, ↓ldA_hit, ↓ldA_skip, ↓ldelK_nil, ↓ldelK_hit, ↓ldelK_skipI, ↓ldelK_skipA, ↓ldelK_skipL, lget_hit, lget_skip, ldel_nil, ldel_hit, ldel_skipI, ldel_skipA, ldel_skipL, ldel2_nil, ldel2_hit, ldel2_hit2, ldel2_skipI, ldel2_skipA, ldel2_skipL, vc_0, mCall_P0, mCat_nil, mCat_I, mCat_L, mCat_A, mRcv_A, mArg_nil, mArg_I, mArg_L, mArg_A, tsg, swt_nil, swt_cons, lkw_nil, lkw_cons, ↓reduceIte, Nat.reduceAdd, Nat.reduceEqDiff, Nat.reduceLeDiff, Nat.reduceMul, true_and, and_true, and_self, List.mem_cons, List.not_mem_nil, or_false, or_self, false_or, true_implies, false_implies, not_true_eq_false, not_false_eq_true, nI00, nI10, nI01, nI11, forall_const, implies_true]
  simp (disch := omega) only [ixq, ixz, sb_in, sb_in0, upI_sb, upI_sb0, sb_out, nI_add, nI_mul, nI_subq, Nat.zero_add, forall_eq, u2_at, u2_row, upd_at, upd_ne, nI0b, nI1b, nI00, nI10, nI01, nI11, true_implies, false_implies, not_true_eq_false, not_false_eq_true, and_true, true_and, implies_true, q0, nI_eqq]
  refine ⟨fun h6 => ?_, fun h6 => ?_⟩
  · simp only [if_neg h6] at ra
    refine c_goT ht.1 ht.2.1 (fun Q1 w1 t1 f1 => ?_)
    have q1 := frG_q f1
    have hq1 : Q1 3 = Q 3 := q1.1 3 (by decide)
    refine c_readNewR (μ := rL μ (m + 7) N) (slot := G) (G := G) (W := W) (B := B) t1 (by omega) (by rw [hq1]; exact hR.q0) g6 (by rw [hq1]; exact hR.q1) w8 (by rw [rL_at]; exact hR.n1) (by rw [rL_at]; exact hR.n2) (fun nf c hc ec Q2 w2 t2 f2 => ?_) (fun e nf Q2 f2 e10 e11 => ?_)
    · have rf := ra _ nf
      dsimp only at rf
      rw [if_neg (by decide)] at rf
      rw [rL_up]
      simp only [↓w_X9_readGood_0, ↓w_X9_readGood_19, ↓w_X9_readGood_41, ↓w_X9_readGood_43, ↓v_X9_readGood_19, ↓v_X9_readGood_41, ↓v_X9_readGood_43, ↓b_aload_n, ↓b_bipush, ↓b_callV1_0, ↓b_callV2_1, ↓b_callV3_1, ↓b_dup2, ↓b_getA, ↓b_getI, ↓b_iadd, ↓b_iaload, ↓n_iastore, ↓b_ic_ne, ↓b_iconst, ↓b_if_eq, ↓b_if_ne, ↓b_iload_n, ↓n_istore_n, ↓b_zret, ↓ldI_hit, ↓ldI_skip, ↓ldL_hit, ↓ldL_skip, ↓ldA_hit, ↓ldA_skip, ↓ldelK_nil, ↓ldelK_hit, ↓ldelK_skipI, ↓ldelK_skipA, ↓ldelK_skipL, lget_hit, lget_skip, ldel_nil, ldel_hit, ldel_skipI, ldel_skipA, ldel_skipL, ldel2_nil, ldel2_hit, ldel2_hit2, ldel2_skipI, ldel2_skipA, ldel2_skipL, vc_0, mCall_P0, mCat_nil, mCat_I, mCat_L, mCat_A, mRcv_A, mArg_nil, mArg_I, mArg_L, mArg_A, tsg, swt_nil, swt_cons, lkw_nil, lkw_cons, ↓reduceIte, Nat.reduceAdd, Nat.reduceEqDiff, Nat.reduceLeDiff, Nat.reduceMul, true_and, and_true, and_self, List.mem_cons, List.not_mem_nil, or_false, or_self, false_or, true_implies, false_implies, not_true_eq_false, not_false_eq_true, nI00, nI10, nI01, nI11, forall_const, implies_true]
      refine c_readNumR t2 (fun hnum Q3 w3 t3 f3 e13 => ?_) (fun hnum Q3 f3 e10 e11 => ?_)
      · rw [if_pos hnum] at rf
        have q3 := frG_t q1 (frG_t f2 f3)
        have hq3 : Q3 3 = Q 3 := q3.1 3 (by decide)
        (try simp only [↓w_X9_readGood_0, ↓w_X9_readGood_19, ↓w_X9_readGood_41, ↓w_X9_readGood_43, ↓v_X9_readGood_19, ↓v_X9_readGood_41, ↓v_X9_readGood_43, ↓b_aload_n, ↓b_bipush, ↓b_callV1_0, ↓b_callV2_1, ↓b_callV3_1, ↓b_dup2, ↓b_getA, ↓b_getI, ↓b_iadd, ↓b_iaload, ↓n_iastore, ↓b_ic_ne, ↓b_iconst, ↓b_if_eq, ↓b_if_ne, ↓b_iload_n, ↓n_istore_n, ↓b_zret, ↓ldI_hit, ↓ldI_skip, ↓ldL_hit, ↓ldL_skip, ↓ldA_hit, ↓ldA_skip, ↓ldelK_nil, ↓ldelK_hit, ↓ldelK_skipI, ↓ldelK_skipA, ↓ldelK_skipL, lget_hit, lget_skip, ldel_nil, ldel_hit, ldel_skipI, ldel_skipA, ldel_skipL, ldel2_nil, ldel2_hit, ldel2_hit2, ldel2_skipI, ldel2_skipA, ldel2_skipL, vc_0, mCall_P0, mCat_nil, mCat_I, mCat_L, mCat_A, mRcv_A, mArg_nil, mArg_I, mArg_L, mArg_A, tsg, swt_nil, swt_cons, lkw_nil, lkw_cons, ↓reduceIte, Nat.reduceAdd, Nat.reduceEqDiff, Nat.reduceLeDiff, Nat.reduceMul, true_and, and_true, and_self, List.mem_cons, List.not_mem_nil, or_false, or_self, false_or, true_implies, false_implies, not_true_eq_false, not_false_eq_true, nI00, nI10, nI01, nI11, forall_const, implies_true]); (try simp (disch := omega) only [ixq, ixz, sb_in, sb_in0, upI_sb, upI_sb0, sb_out, nI_add, nI_mul, nI_subq, Nat.zero_add, forall_eq, u2_at, u2_row, upd_at, upd_ne, nI0b, nI1b, nI00, nI10, nI01, nI11, true_implies, false_implies, not_true_eq_false, not_false_eq_true, and_true, true_and, implies_true, e13, hq3, q0])
        obtain ⟨l, l1, l2, l3⟩ := numN (by decide) (by decide) hnum.2.1 hnum.2.2
        rw [l3, ec] at rf
        rw [l3]
        refine OUT_1 (G' := G + 1) (W' := W) hO rf (frL_t (frL_G q3) (frL_t frL_u frL_u)) ?_ (TK_3 (TK_3 t3))
        rw [u2_at, u2_at, hq3]
        exact RBB_good hR (by omega) hc l2
      · rw [if_neg hnum] at rf
        (try simp only [↓w_X9_readGood_0, ↓w_X9_readGood_19, ↓w_X9_readGood_41, ↓w_X9_readGood_43, ↓v_X9_readGood_19, ↓v_X9_readGood_41, ↓v_X9_readGood_43, ↓b_aload_n, ↓b_bipush, ↓b_callV1_0, ↓b_callV2_1, ↓b_callV3_1, ↓b_dup2, ↓b_getA, ↓b_getI, ↓b_iadd, ↓b_iaload, ↓n_iastore, ↓b_ic_ne, ↓b_iconst, ↓b_if_eq, ↓b_if_ne, ↓b_iload_n, ↓n_istore_n, ↓b_zret, ↓ldI_hit, ↓ldI_skip, ↓ldL_hit, ↓ldL_skip, ↓ldA_hit, ↓ldA_skip, ↓ldelK_nil, ↓ldelK_hit, ↓ldelK_skipI, ↓ldelK_skipA, ↓ldelK_skipL, lget_hit, lget_skip, ldel_nil, ldel_hit, ldel_skipI, ldel_skipA, ldel_skipL, ldel2_nil, ldel2_hit, ldel2_hit2, ldel2_skipI, ldel2_skipA, ldel2_skipL, vc_0, mCall_P0, mCat_nil, mCat_I, mCat_L, mCat_A, mRcv_A, mArg_nil, mArg_I, mArg_L, mArg_A, tsg, swt_nil, swt_cons, lkw_nil, lkw_cons, ↓reduceIte, Nat.reduceAdd, Nat.reduceEqDiff, Nat.reduceLeDiff, Nat.reduceMul, true_and, and_true, and_self, List.mem_cons, List.not_mem_nil, or_false, or_self, false_or, true_implies, false_implies, not_true_eq_false, not_false_eq_true, nI00, nI10, nI01, nI11, forall_const, implies_true]); (try simp (disch := omega) only [ixq, ixz, sb_in, sb_in0, upI_sb, upI_sb0, sb_out, nI_add, nI_mul, nI_subq, Nat.zero_add, forall_eq, u2_at, u2_row, upd_at, upd_ne, nI0b, nI1b, nI00, nI10, nI01, nI11, true_implies, false_implies, not_true_eq_false, not_false_eq_true, and_true, true_and, implies_true])
        exact OUT_0 hO rf (frM_P (frP_g q1 (frP_g f2 f3))) e10 e11
    · have rf := ra _ nf
      dsimp only at rf
      rw [if_pos (show nI 0 = 0 from rfl)] at rf
      (try simp only [↓w_X9_readGood_0, ↓w_X9_readGood_19, ↓w_X9_readGood_41, ↓w_X9_readGood_43, ↓v_X9_readGood_19, ↓v_X9_readGood_41, ↓v_X9_readGood_43, ↓b_aload_n, ↓b_bipush, ↓b_callV1_0, ↓b_callV2_1, ↓b_callV3_1, ↓b_dup2, ↓b_getA, ↓b_getI, ↓b_iadd, ↓b_iaload, ↓n_iastore, ↓b_ic_ne, ↓b_iconst, ↓b_if_eq, ↓b_if_ne, ↓b_iload_n, ↓n_istore_n, ↓b_zret, ↓ldI_hit, ↓ldI_skip, ↓ldL_hit, ↓ldL_skip, ↓ldA_hit, ↓ldA_skip, ↓ldelK_nil, ↓ldelK_hit, ↓ldelK_skipI, ↓ldelK_skipA, ↓ldelK_skipL, lget_hit, lget_skip, ldel_nil, ldel_hit, ldel_skipI, ldel_skipA, ldel_skipL, ldel2_nil, ldel2_hit, ldel2_hit2, ldel2_skipI, ldel2_skipA, ldel2_skipL, vc_0, mCall_P0, mCat_nil, mCat_I, mCat_L, mCat_A, mRcv_A, mArg_nil, mArg_I, mArg_L, mArg_A, tsg, swt_nil, swt_cons, lkw_nil, lkw_cons, ↓reduceIte, Nat.reduceAdd, Nat.reduceEqDiff, Nat.reduceLeDiff, Nat.reduceMul, true_and, and_true, and_self, List.mem_cons, List.not_mem_nil, or_false, or_self, false_or, true_implies, false_implies, not_true_eq_false, not_false_eq_true, nI00, nI10, nI01, nI11, forall_const, implies_true]); (try simp (disch := omega) only [ixq, ixz, sb_in, sb_in0, upI_sb, upI_sb0, sb_out, nI_add, nI_mul, nI_subq, Nat.zero_add, forall_eq, u2_at, u2_row, upd_at, upd_ne, nI0b, nI1b, nI00, nI10, nI01, nI11, true_implies, false_implies, not_true_eq_false, not_false_eq_true, and_true, true_and, implies_true])
      exact OUT_0 hO rf (frM_P (frP_g q1 f2)) e10 e11
  · have rf := ra _ rfl
    rw [if_pos h6] at rf
    refine c_badT ht (Or.inl (TK_kw7 ht (by decide) h8)) (fun Q' f1 e10 e11 => ?_)
    (try simp only [↓w_X9_readGood_0, ↓w_X9_readGood_19, ↓w_X9_readGood_41, ↓w_X9_readGood_43, ↓v_X9_readGood_19, ↓v_X9_readGood_41, ↓v_X9_readGood_43, ↓b_aload_n, ↓b_bipush, ↓b_callV1_0, ↓b_callV2_1, ↓b_callV3_1, ↓b_dup2, ↓b_getA, ↓b_getI, ↓b_iadd, ↓b_iaload, ↓n_iastore, ↓b_ic_ne, ↓b_iconst, ↓b_if_eq, ↓b_if_ne, ↓b_iload_n, ↓n_istore_n, ↓b_zret, ↓ldI_hit, ↓ldI_skip, ↓ldL_hit, ↓ldL_skip, ↓ldA_hit, ↓ldA_skip, ↓ldelK_nil, ↓ldelK_hit, ↓ldelK_skipI, ↓ldelK_skipA, ↓ldelK_skipL, lget_hit, lget_skip, ldel_nil, ldel_hit, ldel_skipI, ldel_skipA, ldel_skipL, ldel2_nil, ldel2_hit, ldel2_hit2, ldel2_skipI, ldel2_skipA, ldel2_skipL, vc_0, mCall_P0, mCat_nil, mCat_I, mCat_L, mCat_A, mRcv_A, mArg_nil, mArg_I, mArg_L, mArg_A, tsg, swt_nil, swt_cons, lkw_nil, lkw_cons, ↓reduceIte, Nat.reduceAdd, Nat.reduceEqDiff, Nat.reduceLeDiff, Nat.reduceMul, true_and, and_true, and_self, List.mem_cons, List.not_mem_nil, or_false, or_self, false_or, true_implies, false_implies, not_true_eq_false, not_false_eq_true, nI00, nI10, nI01, nI11, forall_const, implies_true]); (try simp (disch := omega) only [ixq, ixz, sb_in, sb_in0, upI_sb, upI_sb0, sb_out, nI_add, nI_mul, nI_subq, Nat.zero_add, forall_eq, u2_at, u2_row, upd_at, upd_ne, nI0b, nI1b, nI00, nI10, nI01, nI11, true_implies, false_implies, not_true_eq_false, not_false_eq_true, and_true, true_and, implies_true])
    exact OUT_0 hO rf (frM_P f1) e10 e11
end MGr
