section MBh
variable {X : mC} {h x m : Nat} {μ : Mem} {K : MV → Mem → Prop}
theorem c_startNow {Q : Bk} (hK : ∀ V, K (.inl 0) (sb μ m 21 (rb 2 621 Q (startV (Q 10) V)))) : mMet X (h + 1) m_X9_start [.inr (.inr (8, 0, m)), .inr (.inr (16, 925, m + 2)), .inl (nI 621)] (sb μ m 21 Q) K := by
  have e : rb 2 621 Q (vw 2 621 Q) = Q := rb_self (by decide)
  have key := c_startR (X := X) (h := h) (m := m) (r := 2) (base := 621) (n := 925) (μ := μ) (Q := Q) (V := vw 2 621 Q) (K := K) (Or.inl rfl) (by omega) (by omega)
  have hk := hK (vw 2 621 Q)
  generalize startV (Q 10) (vw 2 621 Q) = S at key hk
  have key2 := key hk
  rw [e] at key2
  exact key2
theorem f_begin (hx : x + 164 = m) (hr : Rel x m μ) : PAIR X (h + 4) m_X8_begin m_X9_begin_ x m [] μ := by
  obtain ⟨G, W, rb', pl, sn, rn⟩ := id hr.2.2.1
  have b0 : μ.1 (x + 4) 0 = nI G := rb'.b0
  have b1 : μ.1 (x + 4) 1 = nI W := rb'.b1
  have q0 : bk μ m 2 0 = nI G := rb'.q0
  have q1 : bk μ m 2 1 = nI W := rb'.q1
  have g6 := rb'.g6
  have w8 := rb'.w8
  by_cases hW : W = 0
  · refine get (.inl (nI 0)) hx hr (fun K hK => ?_) (fun K hK => ?_)
    · (refine vc_met2 P2_ok ok_X8_begin cm_X8_begin [] 6 t_X8_begin_0 (Nat.le_of_ble_eq_true rfl) ?_; simp only [mArg_nil, mArg_I, mArg_L, mArg_A, Nat.reduceAdd])
      simp only [↓w_X8_begin_0, ↓w_X8_begin_12, ↓v_X8_begin_12, ↓b_aload_n, ↓b_callV2_0, ↓b_getA, ↓b_getI, ↓b_iconst, ↓b_if_ne, ↓b_zret, ↓ldI_hit, ↓ldI_skip, ↓ldL_hit, ↓ldL_skip, ↓ldA_hit, ↓ldA_skip, ↓ldelK_nil, ↓ldelK_hit, ↓ldelK_skipI, ↓ldelK_skipA, ↓ldelK_skipL, qP2_X4_startAsTold, ↓bI_b, bI_0, nnot, lget_hit, lget_skip, ldel_nil, ldel_hit, ldel_skipI, ldel_skipA, ldel_skipL, ldel2_nil, ldel2_hit, ldel2_hit2, ldel2_skipI, ldel2_skipA, ldel2_skipL, vc_0, mCat_nil, mCat_I, mCat_L, mCat_A, mRcv_A, mArg_nil, mArg_I, mArg_L, mArg_A, tsg, swt_nil, swt_cons, lkw_nil, lkw_cons, ↓reduceIte, Nat.reduceAdd, Nat.reduceEqDiff, Nat.reduceLeDiff, Nat.reduceMul, true_and, and_true, and_self, List.mem_cons, List.not_mem_nil, or_false, or_self, false_or, true_implies, false_implies, not_true_eq_false, not_false_eq_true, nI00, nI10, nI01, nI11, forall_const, implies_true]
      simp (disch := omega) only [ixq, ixz, sb_in, sb_in0, upI_sb, upI_sb0, sb_out, nI_add, nI_mul, nI_subq, Nat.zero_add, forall_eq, u2_at, u2_row, upd_at, upd_ne, nI0b, nI1b, nI00, nI10, nI01, nI11, true_implies, false_implies, not_true_eq_false, not_false_eq_true, and_true, true_and, implies_true, b1, nI_ez, hW]
      exact hK
    · (refine vc_met2 P2_ok ok_X9_begin_ cm_X9_begin_ [] 6 t_X9_begin__0 (Nat.le_of_ble_eq_true rfl) ?_; simp only [mArg_nil, mArg_I, mArg_L, mArg_A, Nat.reduceAdd])
      simp only [↓w_X9_begin__0, ↓w_X9_begin__14, ↓v_X9_begin__14, ↓b_aload_n, ↓b_callV1_0, ↓b_callV1_1, ↓b_callV3_0, ↓b_getA, ↓b_iconst, ↓b_if_ne, ↓n_putI, ↓b_sipush, ↓b_zret, ↓ldI_hit, ↓ldI_skip, ↓ldL_hit, ↓ldL_skip, ↓ldA_hit, ↓ldA_skip, ↓ldelK_nil, ↓ldelK_hit, ↓ldelK_skipI, ↓ldelK_skipA, ↓ldelK_skipL, qP2_X9_layRule, qP2_X9_start, qP2_X9_works, ↓bI_b, bI_0, nnot, lget_hit, lget_skip, ldel_nil, ldel_hit, ldel_skipI, ldel_skipA, ldel_skipL, ldel2_nil, ldel2_hit, ldel2_hit2, ldel2_skipI, ldel2_skipA, ldel2_skipL, vc_0, mCat_nil, mCat_I, mCat_L, mCat_A, mRcv_A, mArg_nil, mArg_I, mArg_L, mArg_A, tsg, swt_nil, swt_cons, lkw_nil, lkw_cons, ↓reduceIte, Nat.reduceAdd, Nat.reduceEqDiff, Nat.reduceLeDiff, Nat.reduceMul, true_and, and_true, and_self, List.mem_cons, List.not_mem_nil, or_false, or_self, false_or, true_implies, false_implies, not_true_eq_false, not_false_eq_true, nI00, nI10, nI01, nI11, forall_const, implies_true]
      simp (disch := omega) only [ixq, ixz, sb_in, sb_in0, upI_sb, upI_sb0, sb_out, nI_add, nI_mul, nI_subq, Nat.zero_add, forall_eq, u2_at, u2_row, upd_at, upd_ne, nI0b, nI1b, nI00, nI10, nI01, nI11, true_implies, false_implies, not_true_eq_false, not_false_eq_true, and_true, true_and, implies_true, q1, nI_ez, hW]
      exact hK
  · refine cls_in (i := x + 50) (n := 12) ?_
    generalize hK : (fun (a' : MV) (μ1 : Mem) => mMet X (h + 4) m_X9_begin_ [.inr (.inr (8, 0, m))] μ1 (fun b μ2 => a' = b ∧ Rel x m μ2)) = K
    (refine vc_met2 P2_ok ok_X8_begin cm_X8_begin [] 6 t_X8_begin_0 (Nat.le_of_ble_eq_true rfl) ?_; simp only [mArg_nil, mArg_I, mArg_L, mArg_A, Nat.reduceAdd])
    simp only [↓w_X8_begin_0, ↓w_X8_begin_12, ↓v_X8_begin_12, ↓b_aload_n, ↓b_callV2_0, ↓b_getA, ↓b_getI, ↓b_iconst, ↓b_if_ne, ↓b_zret, ↓ldI_hit, ↓ldI_skip, ↓ldL_hit, ↓ldL_skip, ↓ldA_hit, ↓ldA_skip, ↓ldelK_nil, ↓ldelK_hit, ↓ldelK_skipI, ↓ldelK_skipA, ↓ldelK_skipL, qP2_X4_startAsTold, ↓bI_b, bI_0, nnot, lget_hit, lget_skip, ldel_nil, ldel_hit, ldel_skipI, ldel_skipA, ldel_skipL, ldel2_nil, ldel2_hit, ldel2_hit2, ldel2_skipI, ldel2_skipA, ldel2_skipL, vc_0, mCat_nil, mCat_I, mCat_L, mCat_A, mRcv_A, mArg_nil, mArg_I, mArg_L, mArg_A, tsg, swt_nil, swt_cons, lkw_nil, lkw_cons, ↓reduceIte, Nat.reduceAdd, Nat.reduceEqDiff, Nat.reduceLeDiff, Nat.reduceMul, true_and, and_true, and_self, List.mem_cons, List.not_mem_nil, or_false, or_self, false_or, true_implies, false_implies, not_true_eq_false, not_false_eq_true, nI00, nI10, nI01, nI11, forall_const, implies_true]
    simp (disch := omega) only [ixq, ixz, sb_in, sb_in0, upI_sb, upI_sb0, sb_out, nI_add, nI_mul, nI_subq, Nat.zero_add, forall_eq, u2_at, u2_row, upd_at, upd_ne, nI0b, nI1b, nI00, nI10, nI01, nI11, true_implies, false_implies, not_true_eq_false, not_false_eq_true, and_true, true_and, implies_true, b1, nI_ez, hW]
    refine c_startAsTold (B := bk μ (x + 4)) (fun k hk => rfl) (by omega) ?_
    (try simp only [↓w_X8_begin_0, ↓w_X8_begin_12, ↓v_X8_begin_12, ↓b_aload_n, ↓b_callV2_0, ↓b_getA, ↓b_getI, ↓b_iconst, ↓b_if_ne, ↓b_zret, ↓ldI_hit, ↓ldI_skip, ↓ldL_hit, ↓ldL_skip, ↓ldA_hit, ↓ldA_skip, ↓ldelK_nil, ↓ldelK_hit, ↓ldelK_skipI, ↓ldelK_skipA, ↓ldelK_skipL, qP2_X4_startAsTold, ↓bI_b, bI_0, nnot, lget_hit, lget_skip, ldel_nil, ldel_hit, ldel_skipI, ldel_skipA, ldel_skipL, ldel2_nil, ldel2_hit, ldel2_hit2, ldel2_skipI, ldel2_skipA, ldel2_skipL, vc_0, mCat_nil, mCat_I, mCat_L, mCat_A, mRcv_A, mArg_nil, mArg_I, mArg_L, mArg_A, tsg, swt_nil, swt_cons, lkw_nil, lkw_cons, ↓reduceIte, Nat.reduceAdd, Nat.reduceEqDiff, Nat.reduceLeDiff, Nat.reduceMul, true_and, and_true, and_self, List.mem_cons, List.not_mem_nil, or_false, or_self, false_or, true_implies, false_implies, not_true_eq_false, not_false_eq_true, nI00, nI10, nI01, nI11, forall_const, implies_true]); (try simp (disch := omega) only [ixq, ixz, sb_in, sb_in0, upI_sb, upI_sb0, sb_out, nI_add, nI_mul, nI_subq, Nat.zero_add, forall_eq, u2_at, u2_row, upd_at, upd_ne, nI0b, nI1b, nI00, nI10, nI01, nI11, true_implies, false_implies, not_true_eq_false, not_false_eq_true, and_true, true_and, implies_true])
    rw [← hK, sb_bk (j := m) (by omega)]
    generalize hK2 : (fun (b' : MV) (μ2 : Mem) => (.inl (nI 1) : MV) = b' ∧ Rel x m μ2) = K2
    (refine vc_met2 P2_ok ok_X9_begin_ cm_X9_begin_ [] 6 t_X9_begin__0 (Nat.le_of_ble_eq_true rfl) ?_; simp only [mArg_nil, mArg_I, mArg_L, mArg_A, Nat.reduceAdd])
    simp only [↓w_X9_begin__0, ↓w_X9_begin__14, ↓v_X9_begin__14, ↓b_aload_n, ↓b_callV1_0, ↓b_callV1_1, ↓b_callV3_0, ↓b_getA, ↓b_iconst, ↓b_if_ne, ↓n_putI, ↓b_sipush, ↓b_zret, ↓ldI_hit, ↓ldI_skip, ↓ldL_hit, ↓ldL_skip, ↓ldA_hit, ↓ldA_skip, ↓ldelK_nil, ↓ldelK_hit, ↓ldelK_skipI, ↓ldelK_skipA, ↓ldelK_skipL, qP2_X9_layRule, qP2_X9_start, qP2_X9_works, ↓bI_b, bI_0, nnot, lget_hit, lget_skip, ldel_nil, ldel_hit, ldel_skipI, ldel_skipA, ldel_skipL, ldel2_nil, ldel2_hit, ldel2_hit2, ldel2_skipI, ldel2_skipA, ldel2_skipL, vc_0, mCat_nil, mCat_I, mCat_L, mCat_A, mRcv_A, mArg_nil, mArg_I, mArg_L, mArg_A, tsg, swt_nil, swt_cons, lkw_nil, lkw_cons, ↓reduceIte, Nat.reduceAdd, Nat.reduceEqDiff, Nat.reduceLeDiff, Nat.reduceMul, true_and, and_true, and_self, List.mem_cons, List.not_mem_nil, or_false, or_self, false_or, true_implies, false_implies, not_true_eq_false, not_false_eq_true, nI00, nI10, nI01, nI11, forall_const, implies_true]
    simp (disch := omega) only [ixq, ixz, sb_in, sb_in0, upI_sb, upI_sb0, sb_out, nI_add, nI_mul, nI_subq, Nat.zero_add, forall_eq, u2_at, u2_row, upd_at, upd_ne, nI0b, nI1b, nI00, nI10, nI01, nI11, true_implies, false_implies, not_true_eq_false, not_false_eq_true, and_true, true_and, implies_true, q1, nI_ez, hW]
    refine c_layRule ?_
    refine c_startNow (fun V => ?_)
    have hF : FB G W (layF (u2 (bk μ m) 0 0 (nI 0)) 10) (bk μ (x + 4)) := RBB_FB (RBB_eq rb' eqB_r (fun j hj => by rw [lay_10 hj, u2_row (by decide)]; rfl) (fun _ _ => rfl))
    have hS := start_rel (V := V) (R := bk μ (x + 50)) hF g6 w8
    generalize startV (layF (u2 (bk μ m) 0 0 (nI 0)) 10) V = S at hS ⊢
    have hb := HB_rb (Q := layF (u2 (bk μ m) 0 0 (nI 0))) w8 g6 hS
    (try simp only [↓w_X9_begin__0, ↓w_X9_begin__14, ↓v_X9_begin__14, ↓b_aload_n, ↓b_callV1_0, ↓b_callV1_1, ↓b_callV3_0, ↓b_getA, ↓b_iconst, ↓b_if_ne, ↓n_putI, ↓b_sipush, ↓b_zret, ↓ldI_hit, ↓ldI_skip, ↓ldL_hit, ↓ldL_skip, ↓ldA_hit, ↓ldA_skip, ↓ldelK_nil, ↓ldelK_hit, ↓ldelK_skipI, ↓ldelK_skipA, ↓ldelK_skipL, qP2_X9_layRule, qP2_X9_start, qP2_X9_works, ↓bI_b, bI_0, nnot, lget_hit, lget_skip, ldel_nil, ldel_hit, ldel_skipI, ldel_skipA, ldel_skipL, ldel2_nil, ldel2_hit, ldel2_hit2, ldel2_skipI, ldel2_skipA, ldel2_skipL, vc_0, mCat_nil, mCat_I, mCat_L, mCat_A, mRcv_A, mArg_nil, mArg_I, mArg_L, mArg_A, tsg, swt_nil, swt_cons, lkw_nil, lkw_cons, ↓reduceIte, Nat.reduceAdd, Nat.reduceEqDiff, Nat.reduceLeDiff, Nat.reduceMul, true_and, and_true, and_self, List.mem_cons, List.not_mem_nil, or_false, or_self, false_or, true_implies, false_implies, not_true_eq_false, not_false_eq_true, nI00, nI10, nI01, nI11, forall_const, implies_true]); (try simp (disch := omega) only [ixq, ixz, sb_in, sb_in0, upI_sb, upI_sb0, sb_out, nI_add, nI_mul, nI_subq, Nat.zero_add, forall_eq, u2_at, u2_row, upd_at, upd_ne, nI0b, nI1b, nI00, nI10, nI01, nI11, true_implies, false_implies, not_true_eq_false, not_false_eq_true, and_true, true_and, implies_true])
    refine Rel_run hx hr rb' pl sn (Or.inr ⟨0, by omega, by omega, ?_, hb⟩) (fun j hj => ?_) (fun k hk => ?_) (fun j hj => ?_)
    · exact hb.2.2.2.2.2.2.1
    · rw [rb_lo hj, lay_k (by decide) (by decide), u2_row (by decide)]; rfl
    · rw [rb_else (by omega) (by omega) (by omega) (by omega), lay_k (by omega) (by omega), u2_row (by omega)]; rfl
    · rw [rb_else (by decide) (by decide) (by decide) (by decide), lay_0 (by omega), u2_at, upd_ne (by omega)]; rfl
end MBh
