section MWr
variable {X : mC} {h x m : Nat} {μ : Mem}
theorem f_worth {t : Int32} (hx : x + 164 = m) (hr : Rel x m μ) : PAIR X (h + 10) m_X8_worth m_X9_worth x m [.inl t] μ := by
  obtain ⟨G, W, rb, pl, sn, rn⟩ := id hr.2.2.1
  have b1 : μ.1 (x + 4) 1 = nI W := rb.b1
  have g6 := rb.g6
  have w8 := rb.w8
  obtain ⟨T, T1, T256, eT, hT⟩ := sets_n w8
  have hF0 := RBB_FB rb
  by_cases hn : ∃ k, 1 ≤ k ∧ k ≤ 200 ∧ t = nI k
  · obtain ⟨k, k1, k2, rfl⟩ := hn
    by_cases W0 : W = 0
    · have c1 : (nI W = 0) = True := by rw [nI_ez (by omega)]; exact eq_true W0
      refine pairC (.inl (-1)) hx hr (fun K hK => ?_) (fun μ1 Q e K hK => ?_)
      · have hK := hK μ frZ_r
        (refine vc_met2 P2_ok ok_X8_worth cm_X8_worth [19,29] 8 t_X8_worth_0 (Nat.le_of_ble_eq_true rfl) ?_; simp only [mArg_nil, mArg_I, mArg_L, mArg_A, Nat.reduceAdd])
        (try simp only [↓w_X8_worth_0, ↓w_X8_worth_17, ↓w_X8_worth_56, ↓w_X8_worth_69, ↓w_X8_worth_88, ↓v_X8_worth_17, ↓v_X8_worth_19, ↓v_X8_worth_29, ↓v_X8_worth_56, ↓v_X8_worth_69, ↓v_X8_worth_88, ↓b_aload_n, ↓b_callS1_1, ↓b_callV1_1, ↓b_callV2_0, ↓b_callV4_1, ↓b_getA, ↓b_getI, ↓b_goto, ↓b_iaload, ↓n_iastore, ↓b_ic_ge, ↓b_ic_gt, ↓b_iconst, ↓b_if_eq, ↓b_if_ne, ↓n_iinc, ↓b_iload_n, ↓b_iret, ↓n_istore_n, ↓n_putI, ↓ldI_hit, ↓ldI_skip, ↓ldL_hit, ↓ldL_skip, ↓ldA_hit, ↓ldA_skip, ↓ldelK_nil, ↓ldelK_hit, ↓ldelK_skipI, ↓ldelK_skipA, ↓ldelK_skipL, qP2_X0_allWorks, qP2_X8_areHours, qP2_X8_madeAlone, qP2_X8_setWorth, ↓bI_b, bI_0, nnot, lget_hit, lget_skip, ldel_nil, ldel_hit, ldel_skipI, ldel_skipA, ldel_skipL, ldel2_nil, ldel2_hit, ldel2_hit2, ldel2_skipI, ldel2_skipA, ldel2_skipL, vc_0, mCat_nil, mCat_I, mCat_L, mCat_A, mRcv_A, mArg_nil, mArg_I, mArg_L, mArg_A, tsg, swt_nil, swt_cons, lkw_nil, lkw_cons, ↓reduceIte, Nat.reduceAdd, Nat.reduceEqDiff, Nat.reduceLeDiff, Nat.reduceMul, true_and, and_true, and_self, List.mem_cons, List.not_mem_nil, or_false, or_self, false_or, true_implies, false_implies, not_true_eq_false, not_false_eq_true, nI00, nI10, nI01, nI11, forall_const, implies_true])
        (try simp (disch := omega) only [ixq, ixz, sb_in, sb_in0, upI_sb, upI_sb0, sb_out, nI_add, nI_mul, nI_subq, Nat.zero_add, forall_eq, u2_at, u2_row, upd_at, upd_ne, nI0b, nI1b, nI00, nI10, nI01, nI11, true_implies, false_implies, not_true_eq_false, not_false_eq_true, and_true, true_and, implies_true, b1, c1])
        exact hK
      · have hK := hK _ frK_r
        have q1 : (u2 Q 0 0 (nI 0)) 2 1 = nI W := by rw [u2_row (by decide), e]; exact rb.q1
        generalize hQ0 : u2 Q 0 0 (nI 0) = Q0 at hK q1
        (refine vc_met2 P2_ok ok_X9_worth cm_X9_worth [21,47] 8 t_X9_worth_0 (Nat.le_of_ble_eq_true rfl) ?_; simp only [mArg_nil, mArg_I, mArg_L, mArg_A, Nat.reduceAdd])
        (try simp only [↓w_X9_worth_0, ↓w_X9_worth_19, ↓w_X9_worth_64, ↓w_X9_worth_83, ↓w_X9_worth_135, ↓w_X9_worth_141, ↓w_X9_worth_147, ↓v_X9_worth_19, ↓v_X9_worth_21, ↓v_X9_worth_47, ↓v_X9_worth_64, ↓v_X9_worth_83, ↓v_X9_worth_135, ↓v_X9_worth_141, ↓v_X9_worth_147, ↓b_aload_n, ↓b_callS1_1, ↓b_callS1_2, ↓b_callS2_1, ↓b_callV1_1, ↓b_callV2_0, ↓b_callV2_1, ↓b_dup2, ↓b_getA, ↓b_getI, ↓b_goto, ↓b_i2l, ↓b_iaload, ↓b_ic_ge, ↓b_iconst, ↓b_if_eq, ↓b_if_ne, ↓n_iinc, ↓b_iload, ↓b_iload_n, ↓b_ior, ↓b_iret, ↓b_ishl, ↓n_istore, ↓n_istore_n, ↓n_isub, ↓b_ladd, ↓b_laload, ↓n_lastore, ↓b_lconst, ↓b_lmul, ↓n_putI, ↓n_putL, ↓ldI_hit, ↓ldI_skip, ↓ldL_hit, ↓ldL_skip, ↓ldA_hit, ↓ldA_skip, ↓ldelK_nil, ↓ldelK_hit, ↓ldelK_skipI, ↓ldelK_skipA, ↓ldelK_skipL, qP2_X9_all, qP2_X9_bits, qP2_X9_has, qP2_X9_isHours, qP2_X9_isSet, qP2_X9_layValues, qP2_X9_orders, qP2_X9_works, ↓bI_b, bI_0, nnot, lget_hit, lget_skip, ldel_nil, ldel_hit, ldel_skipI, ldel_skipA, ldel_skipL, ldel2_nil, ldel2_hit, ldel2_hit2, ldel2_skipI, ldel2_skipA, ldel2_skipL, vc_0, mCat_nil, mCat_I, mCat_L, mCat_A, mRcv_A, mArg_nil, mArg_I, mArg_L, mArg_A, tsg, swt_nil, swt_cons, lkw_nil, lkw_cons, ↓reduceIte, Nat.reduceAdd, Nat.reduceEqDiff, Nat.reduceLeDiff, Nat.reduceMul, true_and, and_true, and_self, List.mem_cons, List.not_mem_nil, or_false, or_self, false_or, true_implies, false_implies, not_true_eq_false, not_false_eq_true, nI00, nI10, nI01, nI11, forall_const, implies_true])
        (try simp (disch := omega) only [ixq, ixz, sb_in, sb_in0, upI_sb, upI_sb0, sb_out, nI_add, nI_mul, nI_subq, Nat.zero_add, forall_eq, upd_at, upd_ne, nI0b, nI1b, nI00, nI10, nI01, nI11, true_implies, false_implies, not_true_eq_false, not_false_eq_true, and_true, true_and, implies_true, hQ0, q1, c1, hin, hik])
        exact hK
    · obtain ⟨tot, htot⟩ : ∃ tot : Nat → Int32, ∀ s, totF W (bk μ (x + 4)) (runC G W (bk μ (x + 4)) (fun _ => nI s) (fun _ _ => nI 0) k) = tot s := ⟨_, fun _ => rfl⟩
      have hb : ∀ s, s < 256 → ∃ k, k ≤ 158400 ∧ tot s = nI k := fun s _ => by
        rw [← htot s]
        exact tot_small hF0 g6 w8 (fun w hw => by
          obtain ⟨_, k, k1, k2, _⟩ := rb.mk w (by omega)
          exact ⟨k, k1, k2⟩) k2
      refine c8_worth (N := μ.2 (m + 6)) (tot := tot) rb k1 k2 W0 eT hT T256 htot hb (fun ν hν => ?_)
      have hm : ∀ j, ν.1 (m + j) = μ.1 (m + j) := fun j => by
        obtain ⟨⟨μ2, hf, e1⟩, _⟩ := id hν
        rw [e1, frZ_m hx hf j, upI_out (by omega)]
      refine ref_in (m := m) ?_
      have e2 : bk ν m 2 = μ.1 (m + 2) := hm 2
      refine c9_worth (B := bk μ (x + 4)) (P := bk μ (x + 28)) (N := μ.2 (m + 6)) (G := G) (W := W) (T := T) (tot := tot) k2 T1 T256 eT hT (by rw [e2]; exact rb) (by rw [e2]; exact pl) htot k1 W0 (fun Q' N' f' hN => ⟨rfl, Rel_wo hx hr w8 hν (fun j hj => ?_) (fun j hj => ?_) ?_ hN⟩)
      · rw [u2_row (by omega), f'.1 j (by omega) (by omega) (by omega), u2_row (by omega)]
        exact hm j
      · rw [u2_at, upd_ne (by omega), f'.2 j (by omega), u2_at, upd_ne (by omega)]
        exact congrFun (hm 0) j
      · rw [u2_at, upd_at]
  · refine pairC (.inl (-1)) hx hr (fun K hK => ?_) (fun μ1 Q e K hK => ?_)
    · have hK := hK μ frZ_r
      (refine vc_met2 P2_ok ok_X8_worth cm_X8_worth [19,29] 8 t_X8_worth_0 (Nat.le_of_ble_eq_true rfl) ?_; simp only [mArg_nil, mArg_I, mArg_L, mArg_A, Nat.reduceAdd])
      (try simp only [↓w_X8_worth_0, ↓w_X8_worth_17, ↓w_X8_worth_56, ↓w_X8_worth_69, ↓w_X8_worth_88, ↓v_X8_worth_17, ↓v_X8_worth_19, ↓v_X8_worth_29, ↓v_X8_worth_56, ↓v_X8_worth_69, ↓v_X8_worth_88, ↓b_aload_n, ↓b_callS1_1, ↓b_callV1_1, ↓b_callV2_0, ↓b_callV4_1, ↓b_getA, ↓b_getI, ↓b_goto, ↓b_iaload, ↓n_iastore, ↓b_ic_ge, ↓b_ic_gt, ↓b_iconst, ↓b_if_eq, ↓b_if_ne, ↓n_iinc, ↓b_iload_n, ↓b_iret, ↓n_istore_n, ↓n_putI, ↓ldI_hit, ↓ldI_skip, ↓ldL_hit, ↓ldL_skip, ↓ldA_hit, ↓ldA_skip, ↓ldelK_nil, ↓ldelK_hit, ↓ldelK_skipI, ↓ldelK_skipA, ↓ldelK_skipL, qP2_X0_allWorks, qP2_X8_areHours, qP2_X8_madeAlone, qP2_X8_setWorth, ↓bI_b, bI_0, nnot, lget_hit, lget_skip, ldel_nil, ldel_hit, ldel_skipI, ldel_skipA, ldel_skipL, ldel2_nil, ldel2_hit, ldel2_hit2, ldel2_skipI, ldel2_skipA, ldel2_skipL, vc_0, mCat_nil, mCat_I, mCat_L, mCat_A, mRcv_A, mArg_nil, mArg_I, mArg_L, mArg_A, tsg, swt_nil, swt_cons, lkw_nil, lkw_cons, ↓reduceIte, Nat.reduceAdd, Nat.reduceEqDiff, Nat.reduceLeDiff, Nat.reduceMul, true_and, and_true, and_self, List.mem_cons, List.not_mem_nil, or_false, or_self, false_or, true_implies, false_implies, not_true_eq_false, not_false_eq_true, nI00, nI10, nI01, nI11, forall_const, implies_true])
      (try simp (disch := omega) only [ixq, ixz, sb_in, sb_in0, upI_sb, upI_sb0, sb_out, nI_add, nI_mul, nI_subq, Nat.zero_add, forall_eq, u2_at, u2_row, upd_at, upd_ne, nI0b, nI1b, nI00, nI10, nI01, nI11, true_implies, false_implies, not_true_eq_false, not_false_eq_true, and_true, true_and, implies_true, hin, hn])
      exact ⟨fun _ => hK, fun _ => hK⟩
    · have hK := hK _ frK_r
      (refine vc_met2 P2_ok ok_X9_worth cm_X9_worth [21,47] 8 t_X9_worth_0 (Nat.le_of_ble_eq_true rfl) ?_; simp only [mArg_nil, mArg_I, mArg_L, mArg_A, Nat.reduceAdd])
      (try simp only [↓w_X9_worth_0, ↓w_X9_worth_19, ↓w_X9_worth_64, ↓w_X9_worth_83, ↓w_X9_worth_135, ↓w_X9_worth_141, ↓w_X9_worth_147, ↓v_X9_worth_19, ↓v_X9_worth_21, ↓v_X9_worth_47, ↓v_X9_worth_64, ↓v_X9_worth_83, ↓v_X9_worth_135, ↓v_X9_worth_141, ↓v_X9_worth_147, ↓b_aload_n, ↓b_callS1_1, ↓b_callS1_2, ↓b_callS2_1, ↓b_callV1_1, ↓b_callV2_0, ↓b_callV2_1, ↓b_dup2, ↓b_getA, ↓b_getI, ↓b_goto, ↓b_i2l, ↓b_iaload, ↓b_ic_ge, ↓b_iconst, ↓b_if_eq, ↓b_if_ne, ↓n_iinc, ↓b_iload, ↓b_iload_n, ↓b_ior, ↓b_iret, ↓b_ishl, ↓n_istore, ↓n_istore_n, ↓n_isub, ↓b_ladd, ↓b_laload, ↓n_lastore, ↓b_lconst, ↓b_lmul, ↓n_putI, ↓n_putL, ↓ldI_hit, ↓ldI_skip, ↓ldL_hit, ↓ldL_skip, ↓ldA_hit, ↓ldA_skip, ↓ldelK_nil, ↓ldelK_hit, ↓ldelK_skipI, ↓ldelK_skipA, ↓ldelK_skipL, qP2_X9_all, qP2_X9_bits, qP2_X9_has, qP2_X9_isHours, qP2_X9_isSet, qP2_X9_layValues, qP2_X9_orders, qP2_X9_works, ↓bI_b, bI_0, nnot, lget_hit, lget_skip, ldel_nil, ldel_hit, ldel_skipI, ldel_skipA, ldel_skipL, ldel2_nil, ldel2_hit, ldel2_hit2, ldel2_skipI, ldel2_skipA, ldel2_skipL, vc_0, mCat_nil, mCat_I, mCat_L, mCat_A, mRcv_A, mArg_nil, mArg_I, mArg_L, mArg_A, tsg, swt_nil, swt_cons, lkw_nil, lkw_cons, ↓reduceIte, Nat.reduceAdd, Nat.reduceEqDiff, Nat.reduceLeDiff, Nat.reduceMul, true_and, and_true, and_self, List.mem_cons, List.not_mem_nil, or_false, or_self, false_or, true_implies, false_implies, not_true_eq_false, not_false_eq_true, nI00, nI10, nI01, nI11, forall_const, implies_true])
      (try simp (disch := omega) only [ixq, ixz, sb_in, sb_in0, upI_sb, upI_sb0, sb_out, nI_add, nI_mul, nI_subq, Nat.zero_add, forall_eq, upd_at, upd_ne, nI0b, nI1b, nI00, nI10, nI01, nI11, true_implies, false_implies, not_true_eq_false, not_false_eq_true, and_true, true_and, implies_true, hin, hn])
      exact hK
end MWr
