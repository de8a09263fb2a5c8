section MSz
variable {X : mC} {h x m : Nat} {μ μ' : Mem} {K : MV → Mem → Prop}
/-- the class reads a SENTENCE, and shuts the tape -/
theorem c8_sent {G W L : Nat} {B T P : Bk} (hL : L ≤ 940) (hT : T 0 2 = nI L) (hB : ∀ k, k < 12 → μ.1 (x + 4 + k) = B k) (b0 : B 0 0 = nI G) (g6 : G ≤ 6) (b1 : B 0 1 = nI W) (w8 : W ≤ 8)
    (h1 : (sFromF G W B T P).1 = nI 1 → ∀ A, K (.inl ((sFromF G W B T P).2.2 0 0)) (sb (sb (upI (sb μ (x + 46) 4 (sFromF G W B T P).2.2) x 17 ((sFromF G W B T P).2.1 0 10)) (x + 1) 3 (u2 (sFromF G W B T P).2.1 0 2 (nI 0))) (x + 42) 4 (copySF A (sFromF G W B T P).2.2)))
    (h0 : (sFromF G W B T P).1 = nI 0 → K (.inl (-1 - (sFromF G W B T P).2.1 0 11)) (sb (upI (sb μ (x + 46) 4 (sFromF G W B T P).2.2) x 17 ((sFromF G W B T P).2.1 0 10)) (x + 1) 3 (u2 (sFromF G W B T P).2.1 0 2 (nI 0)))) (hb : (sFromF G W B T P).1 = nI 0 ∨ (sFromF G W B T P).1 = nI 1) : mMet X (h + 50) m_X8_sentence [.inr (.inr (7, 0, x))] (sb (sb μ (x + 46) 4 P) (x + 1) 3 T) K := by
  (refine vc_met2 P0_ok ok_X8_sentence cm_X8_sentence [] 6 t_X8_sentence_0 (Nat.le_of_ble_eq_true rfl) ?_; simp only [mArg_nil, mArg_I, mArg_L, mArg_A, Nat.reduceAdd])
  simp only [↓w_X8_sentence_0, ↓w_X8_sentence_34, ↓v_X8_sentence_34, ↓b_aload_n, ↓b_callV1_0, ↓b_callV2_0, ↓b_callV3_1, ↓b_getA, ↓b_getI, ↓b_iconst, ↓b_if_ne, ↓b_iload_n, ↓b_iret, ↓n_istore_n, ↓n_isub, ↓ldI_hit, ↓ldI_skip, ↓ldL_hit, ↓ldL_skip, ↓ldA_hit, ↓ldA_skip, ↓ldelK_nil, ↓ldelK_hit, ↓ldelK_skipI, ↓ldelK_skipA, ↓ldelK_skipL, lget_hit, lget_skip, ldel_nil, ldel_hit, ldel_skipI, ldel_skipA, ldel_skipL, ldel2_nil, ldel2_hit, ldel2_hit2, ldel2_skipI, ldel2_skipA, ldel2_skipL, vc_0, mCall_P0, mCat_nil, mCat_I, mCat_L, mCat_A, mRcv_A, mArg_nil, mArg_I, mArg_L, mArg_A, tsg, swt_nil, swt_cons, lkw_nil, lkw_cons, ↓reduceIte, Nat.reduceAdd, Nat.reduceEqDiff, Nat.reduceLeDiff, Nat.reduceMul, true_and, and_true, and_self, List.mem_cons, List.not_mem_nil, or_false, or_self, false_or, true_implies, false_implies, not_true_eq_false, not_false_eq_true, nI00, nI10, nI01, nI11, forall_const, implies_true]
  refine c_readSent (h := h + 16) (b := x + 4) (G := G) (W := W) ⟨L, hL, hT⟩ hB b0 g6 b1 w8 (by omega) (by omega) ?_
  generalize sFromF G W B T P = p at h1 h0 hb ⊢
  rcases hb with z | z
  · rw [z]
    have h0 := h0 z
    simp only [↓w_X8_sentence_0, ↓w_X8_sentence_34, ↓v_X8_sentence_34, ↓b_aload_n, ↓b_callV1_0, ↓b_callV2_0, ↓b_callV3_1, ↓b_getA, ↓b_getI, ↓b_iconst, ↓b_if_ne, ↓b_iload_n, ↓b_iret, ↓n_istore_n, ↓n_isub, ↓ldI_hit, ↓ldI_skip, ↓ldL_hit, ↓ldL_skip, ↓ldA_hit, ↓ldA_skip, ↓ldelK_nil, ↓ldelK_hit, ↓ldelK_skipI, ↓ldelK_skipA, ↓ldelK_skipL, lget_hit, lget_skip, ldel_nil, ldel_hit, ldel_skipI, ldel_skipA, ldel_skipL, ldel2_nil, ldel2_hit, ldel2_hit2, ldel2_skipI, ldel2_skipA, ldel2_skipL, vc_0, mCall_P0, mCat_nil, mCat_I, mCat_L, mCat_A, mRcv_A, mArg_nil, mArg_I, mArg_L, mArg_A, tsg, swt_nil, swt_cons, lkw_nil, lkw_cons, ↓reduceIte, Nat.reduceAdd, Nat.reduceEqDiff, Nat.reduceLeDiff, Nat.reduceMul, true_and, and_true, and_self, List.mem_cons, List.not_mem_nil, or_false, or_self, false_or, true_implies, false_implies, not_true_eq_false, not_false_eq_true, nI00, nI10, nI01, nI11, forall_const, implies_true]
    simp (disch := omega) only [ixq, ixz, sb_in, sb_in0, upI_sb, upI_sb0, sb_out, nI_add, nI_mul, nI_subq, Nat.zero_add, forall_eq, u2_at, u2_row, upd_at, upd_ne, nI0b, nI1b, nI00, nI10, nI01, nI11, true_implies, false_implies, not_true_eq_false, not_false_eq_true, and_true, true_and, implies_true]
    refine c_closeTape ?_
    (try simp only [↓w_X8_sentence_0, ↓w_X8_sentence_34, ↓v_X8_sentence_34, ↓b_aload_n, ↓b_callV1_0, ↓b_callV2_0, ↓b_callV3_1, ↓b_getA, ↓b_getI, ↓b_iconst, ↓b_if_ne, ↓b_iload_n, ↓b_iret, ↓n_istore_n, ↓n_isub, ↓ldI_hit, ↓ldI_skip, ↓ldL_hit, ↓ldL_skip, ↓ldA_hit, ↓ldA_skip, ↓ldelK_nil, ↓ldelK_hit, ↓ldelK_skipI, ↓ldelK_skipA, ↓ldelK_skipL, lget_hit, lget_skip, ldel_nil, ldel_hit, ldel_skipI, ldel_skipA, ldel_skipL, ldel2_nil, ldel2_hit, ldel2_hit2, ldel2_skipI, ldel2_skipA, ldel2_skipL, vc_0, mCall_P0, mCat_nil, mCat_I, mCat_L, mCat_A, mRcv_A, mArg_nil, mArg_I, mArg_L, mArg_A, tsg, swt_nil, swt_cons, lkw_nil, lkw_cons, ↓reduceIte, Nat.reduceAdd, Nat.reduceEqDiff, Nat.reduceLeDiff, Nat.reduceMul, true_and, and_true, and_self, List.mem_cons, List.not_mem_nil, or_false, or_self, false_or, true_implies, false_implies, not_true_eq_false, not_false_eq_true, nI00, nI10, nI01, nI11, forall_const, implies_true]); (try simp (disch := omega) only [ixq, ixz, sb_in, sb_in0, upI_sb, upI_sb0, sb_out, nI_add, nI_mul, nI_subq, Nat.zero_add, forall_eq, u2_at, u2_row, upd_at, upd_ne, nI0b, nI1b, nI00, nI10, nI01, nI11, true_implies, false_implies, not_true_eq_false, not_false_eq_true, and_true, true_and, implies_true])
    exact h0
  · rw [z]
    have h1 := h1 z
    simp only [↓w_X8_sentence_0, ↓w_X8_sentence_34, ↓v_X8_sentence_34, ↓b_aload_n, ↓b_callV1_0, ↓b_callV2_0, ↓b_callV3_1, ↓b_getA, ↓b_getI, ↓b_iconst, ↓b_if_ne, ↓b_iload_n, ↓b_iret, ↓n_istore_n, ↓n_isub, ↓ldI_hit, ↓ldI_skip, ↓ldL_hit, ↓ldL_skip, ↓ldA_hit, ↓ldA_skip, ↓ldelK_nil, ↓ldelK_hit, ↓ldelK_skipI, ↓ldelK_skipA, ↓ldelK_skipL, lget_hit, lget_skip, ldel_nil, ldel_hit, ldel_skipI, ldel_skipA, ldel_skipL, ldel2_nil, ldel2_hit, ldel2_hit2, ldel2_skipI, ldel2_skipA, ldel2_skipL, vc_0, mCall_P0, mCat_nil, mCat_I, mCat_L, mCat_A, mRcv_A, mArg_nil, mArg_I, mArg_L, mArg_A, tsg, swt_nil, swt_cons, lkw_nil, lkw_cons, ↓reduceIte, Nat.reduceAdd, Nat.reduceEqDiff, Nat.reduceLeDiff, Nat.reduceMul, true_and, and_true, and_self, List.mem_cons, List.not_mem_nil, or_false, or_self, false_or, true_implies, false_implies, not_true_eq_false, not_false_eq_true, nI00, nI10, nI01, nI11, forall_const, implies_true]
    simp (disch := omega) only [ixq, ixz, sb_in, sb_in0, upI_sb, upI_sb0, sb_out, nI_add, nI_mul, nI_subq, Nat.zero_add, forall_eq, u2_at, u2_row, upd_at, upd_ne, nI0b, nI1b, nI00, nI10, nI01, nI11, true_implies, false_implies, not_true_eq_false, not_false_eq_true, and_true, true_and, implies_true]
    refine c_closeTape ?_
    (try simp only [↓w_X8_sentence_0, ↓w_X8_sentence_34, ↓v_X8_sentence_34, ↓b_aload_n, ↓b_callV1_0, ↓b_callV2_0, ↓b_callV3_1, ↓b_getA, ↓b_getI, ↓b_iconst, ↓b_if_ne, ↓b_iload_n, ↓b_iret, ↓n_istore_n, ↓n_isub, ↓ldI_hit, ↓ldI_skip, ↓ldL_hit, ↓ldL_skip, ↓ldA_hit, ↓ldA_skip, ↓ldelK_nil, ↓ldelK_hit, ↓ldelK_skipI, ↓ldelK_skipA, ↓ldelK_skipL, lget_hit, lget_skip, ldel_nil, ldel_hit, ldel_skipI, ldel_skipA, ldel_skipL, ldel2_nil, ldel2_hit, ldel2_hit2, ldel2_skipI, ldel2_skipA, ldel2_skipL, vc_0, mCall_P0, mCat_nil, mCat_I, mCat_L, mCat_A, mRcv_A, mArg_nil, mArg_I, mArg_L, mArg_A, tsg, swt_nil, swt_cons, lkw_nil, lkw_cons, ↓reduceIte, Nat.reduceAdd, Nat.reduceEqDiff, Nat.reduceLeDiff, Nat.reduceMul, true_and, and_true, and_self, List.mem_cons, List.not_mem_nil, or_false, or_self, false_or, true_implies, false_implies, not_true_eq_false, not_false_eq_true, nI00, nI10, nI01, nI11, forall_const, implies_true]); (try simp (disch := omega) only [ixq, ixz, sb_in, sb_in0, upI_sb, upI_sb0, sb_out, nI_add, nI_mul, nI_subq, Nat.zero_add, forall_eq, u2_at, u2_row, upd_at, upd_ne, nI0b, nI1b, nI00, nI10, nI01, nI11, true_implies, false_implies, not_true_eq_false, not_false_eq_true, and_true, true_and, implies_true])
    refine cls_in (i := x + 42) (n := 4) ?_
    refine c_copySent (s2 := x + 46) (S2 := p.2.2) (by omega) (fun k hk => by rw [sb_out (by omega), upI_out (by omega), sb_in hk]) ?_
    (try simp only [↓w_X8_sentence_0, ↓w_X8_sentence_34, ↓v_X8_sentence_34, ↓b_aload_n, ↓b_callV1_0, ↓b_callV2_0, ↓b_callV3_1, ↓b_getA, ↓b_getI, ↓b_iconst, ↓b_if_ne, ↓b_iload_n, ↓b_iret, ↓n_istore_n, ↓n_isub, ↓ldI_hit, ↓ldI_skip, ↓ldL_hit, ↓ldL_skip, ↓ldA_hit, ↓ldA_skip, ↓ldelK_nil, ↓ldelK_hit, ↓ldelK_skipI, ↓ldelK_skipA, ↓ldelK_skipL, lget_hit, lget_skip, ldel_nil, ldel_hit, ldel_skipI, ldel_skipA, ldel_skipL, ldel2_nil, ldel2_hit, ldel2_hit2, ldel2_skipI, ldel2_skipA, ldel2_skipL, vc_0, mCall_P0, mCat_nil, mCat_I, mCat_L, mCat_A, mRcv_A, mArg_nil, mArg_I, mArg_L, mArg_A, tsg, swt_nil, swt_cons, lkw_nil, lkw_cons, ↓reduceIte, Nat.reduceAdd, Nat.reduceEqDiff, Nat.reduceLeDiff, Nat.reduceMul, true_and, and_true, and_self, List.mem_cons, List.not_mem_nil, or_false, or_self, false_or, true_implies, false_implies, not_true_eq_false, not_false_eq_true, nI00, nI10, nI01, nI11, forall_const, implies_true]); (try simp (disch := omega) only [ixq, ixz, sb_in, sb_in0, upI_sb, upI_sb0, sb_out, nI_add, nI_mul, nI_subq, Nat.zero_add, forall_eq, u2_at, u2_row, upd_at, upd_ne, nI0b, nI1b, nI00, nI10, nI01, nI11, true_implies, false_implies, not_true_eq_false, not_false_eq_true, and_true, true_and, implies_true])
    rw [cpSe_eq.1]
    exact h1 _
theorem f_sentence (hx : x + 164 = m) (hr : Rel x m μ) : PAIR X (h + 50) m_X8_sentence m_X9_sentence x m [] μ := by
  obtain ⟨G, W, rb, pl, sn, rn⟩ := id hr.2.2.1
  have b0 : μ.1 (x + 4) 0 = nI G := rb.b0
  have b1 : μ.1 (x + 4) 1 = nI W := rb.b1
  have q0 : bk μ m 2 0 = nI G := rb.q0
  have q1 : bk μ m 2 1 = nI W := rb.q1
  have g6 := rb.g6
  have w8 := rb.w8
  obtain ⟨L, l1, l2, l3, l4⟩ := id hr.1
  have p10' := sFrom_b (T := bk μ (x + 1)) (B := bk μ (x + 4)) (S := bk μ (x + 46)) g6 w8
  have p10 := And.intro p10'.1 p10'.2.1
  have pr := p10'.2.2
  have e : sb (sb μ (x + 46) 4 (bk μ (x + 46))) (x + 1) 3 (bk μ (x + 1)) = μ := by rw [sb_self, sb_self]
  have key : mMet X (h + 50) m_X8_sentence [.inr (.inr (7, 0, x))] (sb (sb μ (x + 46) 4 (bk μ (x + 46))) (x + 1) 3 (bk μ (x + 1))) (fun a μ1 => mMet X (h + 50) m_X9_sentence [.inr (.inr (8, 0, m))] μ1 (fun b μ2 => a = b ∧ Rel x m μ2)) := by
    refine c8_sent (B := bk μ (x + 4)) (G := G) (W := W) (L := L) l1 l2 (fun k hk => rfl) rb.b0 g6 rb.b1 w8 (fun z A => ?_) (fun z => ?_) p10.1
    · have om : ∀ j, (sb (sb (upI (sb μ (x + 46) 4 (sFromF G W (bk μ (x + 4)) (bk μ (x + 1)) (bk μ (x + 46))).2.2) x 17 ((sFromF G W (bk μ (x + 4)) (bk μ (x + 1)) (bk μ (x + 46))).2.1 0 10)) (x + 1) 3 (u2 (sFromF G W (bk μ (x + 4)) (bk μ (x + 1)) (bk μ (x + 46))).2.1 0 2 (nI 0))) (x + 42) 4 (copySF A (sFromF G W (bk μ (x + 4)) (bk μ (x + 1)) (bk μ (x + 46))).2.2)).1 (m + j) = μ.1 (m + j) := fun j => by rw [sb_out (by omega), sb_out (by omega), upI_out (by omega), sb_out (by omega)]
      have ox : ∀ i, (4 ≤ i ∧ i < 42) ∨ (50 ≤ i ∧ i < 164) → (sb (sb (upI (sb μ (x + 46) 4 (sFromF G W (bk μ (x + 4)) (bk μ (x + 1)) (bk μ (x + 46))).2.2) x 17 ((sFromF G W (bk μ (x + 4)) (bk μ (x + 1)) (bk μ (x + 46))).2.1 0 10)) (x + 1) 3 (u2 (sFromF G W (bk μ (x + 4)) (bk μ (x + 1)) (bk μ (x + 46))).2.1 0 2 (nI 0))) (x + 42) 4 (copySF A (sFromF G W (bk μ (x + 4)) (bk μ (x + 1)) (bk μ (x + 46))).2.2)).1 (x + i) = μ.1 (x + i) := fun i hi => by rw [sb_out (by omega), sb_out (by omega), upI_out (by omega), sb_out (by omega)]
      have ot : ∀ k, k < 3 → (sb (sb (upI (sb μ (x + 46) 4 (sFromF G W (bk μ (x + 4)) (bk μ (x + 1)) (bk μ (x + 46))).2.2) x 17 ((sFromF G W (bk μ (x + 4)) (bk μ (x + 1)) (bk μ (x + 46))).2.1 0 10)) (x + 1) 3 (u2 (sFromF G W (bk μ (x + 4)) (bk μ (x + 1)) (bk μ (x + 46))).2.1 0 2 (nI 0))) (x + 42) 4 (copySF A (sFromF G W (bk μ (x + 4)) (bk μ (x + 1)) (bk μ (x + 46))).2.2)).1 (x + 1 + k) = (u2 (sFromF G W (bk μ (x + 4)) (bk μ (x + 1)) (bk μ (x + 46))).2.1 0 2 (nI 0)) k := fun k hk => by rw [sb_out (by omega), sb_in hk]
      have op : ∀ k, k < 4 → (sb (sb (upI (sb μ (x + 46) 4 (sFromF G W (bk μ (x + 4)) (bk μ (x + 1)) (bk μ (x + 46))).2.2) x 17 ((sFromF G W (bk μ (x + 4)) (bk μ (x + 1)) (bk μ (x + 46))).2.1 0 10)) (x + 1) 3 (u2 (sFromF G W (bk μ (x + 4)) (bk μ (x + 1)) (bk μ (x + 46))).2.1 0 2 (nI 0))) (x + 42) 4 (copySF A (sFromF G W (bk μ (x + 4)) (bk μ (x + 1)) (bk μ (x + 46))).2.2)).1 (x + 42 + k) = (copySF A (sFromF G W (bk μ (x + 4)) (bk μ (x + 1)) (bk μ (x + 46))).2.2) k := fun k hk => sb_in hk
      have o17 : (sb (sb (upI (sb μ (x + 46) 4 (sFromF G W (bk μ (x + 4)) (bk μ (x + 1)) (bk μ (x + 46))).2.2) x 17 ((sFromF G W (bk μ (x + 4)) (bk μ (x + 1)) (bk μ (x + 46))).2.1 0 10)) (x + 1) 3 (u2 (sFromF G W (bk μ (x + 4)) (bk μ (x + 1)) (bk μ (x + 46))).2.1 0 2 (nI 0))) (x + 42) 4 (copySF A (sFromF G W (bk μ (x + 4)) (bk μ (x + 1)) (bk μ (x + 46))).2.2)).1 x 17 = nI 0 := by
        rw [sb_out (by omega), sb_out (by omega), upI_fld]
        exact p10.2 z
      have o15 : ∀ j, j ≠ 17 → (sb (sb (upI (sb μ (x + 46) 4 (sFromF G W (bk μ (x + 4)) (bk μ (x + 1)) (bk μ (x + 46))).2.2) x 17 ((sFromF G W (bk μ (x + 4)) (bk μ (x + 1)) (bk μ (x + 46))).2.1 0 10)) (x + 1) 3 (u2 (sFromF G W (bk μ (x + 4)) (bk μ (x + 1)) (bk μ (x + 46))).2.1 0 2 (nI 0))) (x + 42) 4 (copySF A (sFromF G W (bk μ (x + 4)) (bk μ (x + 1)) (bk μ (x + 46))).2.2)).1 x j = μ.1 x j := fun j hj => by rw [sb_out (by omega), sb_out (by omega), upI_oth hj, sb_out (by omega)]
      have o2 : (sb (sb (upI (sb μ (x + 46) 4 (sFromF G W (bk μ (x + 4)) (bk μ (x + 1)) (bk μ (x + 46))).2.2) x 17 ((sFromF G W (bk μ (x + 4)) (bk μ (x + 1)) (bk μ (x + 46))).2.1 0 10)) (x + 1) 3 (u2 (sFromF G W (bk μ (x + 4)) (bk μ (x + 1)) (bk μ (x + 46))).2.1 0 2 (nI 0))) (x + 42) 4 (copySF A (sFromF G W (bk μ (x + 4)) (bk μ (x + 1)) (bk μ (x + 46))).2.2)).2 = μ.2 := rfl
      generalize (sb (sb (upI (sb μ (x + 46) 4 (sFromF G W (bk μ (x + 4)) (bk μ (x + 1)) (bk μ (x + 46))).2.2) x 17 ((sFromF G W (bk μ (x + 4)) (bk μ (x + 1)) (bk μ (x + 46))).2.1 0 10)) (x + 1) 3 (u2 (sFromF G W (bk μ (x + 4)) (bk μ (x + 1)) (bk μ (x + 46))).2.1 0 2 (nI 0))) (x + 42) 4 (copySF A (sFromF G W (bk μ (x + 4)) (bk μ (x + 1)) (bk μ (x + 46))).2.2)) = μ1 at om ox ot op o17 o15 o2 ⊢
      have om0 : μ1.1 m = μ.1 m := om 0
      refine ref_in2 (m := m) ?_
      refine c_sentenceR (h := h + 9) (G := G) (W := W) (L := L) (T := bk μ (x + 1)) (B := bk μ (x + 4)) (S := bk μ (x + 46)) l1 l2 (by show μ1.1 m 2 = _; rw [om0]; exact l3) (fun j hj => by show μ1.1 (m + 1) j = _; rw [om 1]; exact l4 j hj) hr.2.1 (by show RBB G W (μ1.1 (m + 2)) (μ1.2 (m + 6)) _; rw [om 2, o2]; exact rb) (fun z1 kn s' o' l Q' w' f1 h10 pl0 ps o1 o20 s40 ks l20 nd => ⟨by rw [pl0], ?_⟩) (fun z1 => absurd (z.symm.trans z1) (by decide))
      have e' : ∀ k, k < 21 → (sb (upL μ1 m 12 w') m 21 (nowS kn Q')).1 (m + k) = nowS kn Q' k := fun k hk => sb_in hk
      have e0 : (sb (upL μ1 m 12 w') m 21 (nowS kn Q')).1 m = nowS kn Q' 0 := e' 0 (by omega)
      have nk : ∀ k, k ≠ 2 → nowS kn Q' k = Q' k := fun k hk => by
        unfold nowS
        rw [up_row hk]
      have xx : ∀ i, i < 164 → (sb (upL μ1 m 12 w') m 21 (nowS kn Q')).1 (x + i) = μ1.1 (x + i) := fun i hi => sb_out (by omega)
      have x0 : (sb (upL μ1 m 12 w') m 21 (nowS kn Q')).1 x = μ1.1 x := sb_out (by omega)
      have q2 : Q' 2 = μ.1 (m + 2) := (f1.1 2 (by decide) (by decide)).trans (om 2)
      have n2 : ∀ j, j < 379 ∨ 621 ≤ j → nowS kn Q' 2 j = μ.1 (m + 2) j := fun j hj => by
        unfold nowS
        rw [up_at, cpS_out (by omega), upd_ne (by omega), upd_ne (by omega), q2]
      have bb : ∀ a n, ((4 ≤ a ∧ a + n ≤ 42) ∨ (50 ≤ a ∧ a + n ≤ 164)) → ∀ k, k < n → bk (sb (upL μ1 m 12 w') m 21 (nowS kn Q')) (x + a) k = bk μ (x + a) k := fun a n ha k hk => by
        show (sb (upL μ1 m 12 w') m 21 (nowS kn Q')).1 (x + a + k) = μ.1 (x + a + k)
        rw [Nat.add_assoc, xx _ (by omega), ox _ (by omega)]
      have bp : ∀ k, k < 4 → bk (sb (upL μ1 m 12 w') m 21 (nowS kn Q')) (x + 42) k = copySF A (sFromF G W (bk μ (x + 4)) (bk μ (x + 1)) (bk μ (x + 46))).2.2 k := fun k hk => by
        show (sb (upL μ1 m 12 w') m 21 (nowS kn Q')).1 (x + 42 + k) = _
        rw [Nat.add_assoc, xx _ (by omega), ← Nat.add_assoc]
        exact op k hk
      have l2' : ∀ i, i ≠ m → (sb (upL μ1 m 12 w') m 21 (nowS kn Q')).2 i = μ.2 i := fun i hi => by
        show (upL μ1 m 12 w').2 i = _
        rw [upL_o hi, o2]
      have tk0 : μ1.1 (x + 1) = (u2 (sFromF G W (bk μ (x + 4)) (bk μ (x + 1)) (bk μ (x + 46))).2.1 0 2 (nI 0)) 0 := ot 0 (by omega)
      have tk2 : μ1.1 (x + 3) = (u2 (sFromF G W (bk μ (x + 4)) (bk μ (x + 1)) (bk μ (x + 46))).2.1 0 2 (nI 0)) 2 := ot 2 (by omega)
      have eB := eqB_k (bb 4 12 (by omega))
      obtain ⟨pn, p1, p2, p3, p4⟩ := pl
      refine Rel_mk hr ⟨0, by omega, ?_, ?_, fun j hj => absurd hj (Nat.not_lt_zero j)⟩ ?_ ⟨G, W, RBB_eq rb eB (fun j hj => ?_) (fun j _ => ?_), ⟨pn, p1, ?_, ?_, fun i hi => ?_⟩, Or.inr ⟨o', s', kn, l, o1, o20, s40, ks, l20, ?_, ?_, ?_, ?_, ?_⟩, RN_eq rn g6 w8 eB (eqR_k (bb 50 12 (by omega))) (fun j h3 _ => ?_)⟩ (fun i a b => (xx i (by omega)).trans (ox i (by omega))) ?_ ?_ ?_ (l2' _ (by omega)) (l2' _ (by omega)) (l2' _ (by omega)) (l2' _ (by omega)) ?_ ?_ ?_ ?_ ?_ ?_ ?_
      · rw [xx 1 (by omega), tk0, u2_at, upd_at]
      · rw [e0, nk 0 (by decide)]; exact f1.2.2
      · rw [xx 3 (by omega), tk2, u2_row (by decide), pr]; rfl
      · rw [e' 2 (by omega)]; exact n2 j (by omega)
      · rw [l2' _ (by omega)]
      · rw [bb 28 7 (by omega) 0 (by omega)]; exact p2
      · rw [e' 2 (by omega), n2 278 (by omega)]; exact p3
      · refine ACT_ext (p4 i hi) (fun r r1 r2 => ?_) (fun j hj => ?_)
        · rw [bb 28 7 (by omega) r (by omega)]
        · rw [e' 2 (by omega)]; exact n2 _ (by omega)
      · rw [bp 0 (by omega), cpSe_eq.1]; exact pl0
      · rw [bp 0 (by omega), cpSe_eq.2.1]; exact ps
      · rw [e' 2 (by omega)]
        unfold nowS
        rw [up_at, cpS_out (by omega), upd_ne (by decide), upd_at]
      · rw [e' 2 (by omega)]
        unfold nowS
        rw [up_at, cpS_out (by omega), upd_at]
      · refine ND_ext _ _ _ _ _ nd (fun j hj => ?_) (fun i hi => ?_)
        · rw [e' 2 (by omega)]
          unfold nowS
          rw [up_at, cpS_in (by omega)]
        · rw [bp 1 (by omega), bp 2 (by omega), bp 3 (by omega)]
          exact cpSe_eq.2.2 i (by omega)
      · rw [e' 2 (by omega)]; exact n2 j (by omega)
      · rw [e' 5 (by omega), nk 5 (by decide), f1.1 5 (by decide) (by decide)]; exact om 5
      · rw [e' 9 (by omega), nk 9 (by decide), f1.1 9 (by decide) (by decide)]; exact om 9
      · rw [e' 18 (by omega), nk 18 (by decide), f1.1 18 (by decide) (by decide)]; exact om 18
      · show (upL μ1 m 12 w').2 m 34 = _
        rw [← o2]
        show va_up μ1.2 m (vp_updL (μ1.2 m) 12 w') m 34 = _
        rw [up_at, vpL_ne (by decide)]
      · rw [x0]; exact o15 15 (by decide)
      · rw [x0]; exact o15 16 (by decide)
      · rw [e0, nk 0 (by decide), f1.2.1 33 (by omega)]; exact congrFun om0 33
      · rw [e0, nk 0 (by decide), f1.2.1 35 (by omega)]; exact congrFun om0 35
      · rw [e0, nk 0 (by decide), f1.2.1 38 (by omega)]; exact congrFun om0 38
      · rw [x0, e0, nk 0 (by decide), o17, h10]
    · have om : ∀ j, (sb (upI (sb μ (x + 46) 4 (sFromF G W (bk μ (x + 4)) (bk μ (x + 1)) (bk μ (x + 46))).2.2) x 17 ((sFromF G W (bk μ (x + 4)) (bk μ (x + 1)) (bk μ (x + 46))).2.1 0 10)) (x + 1) 3 (u2 (sFromF G W (bk μ (x + 4)) (bk μ (x + 1)) (bk μ (x + 46))).2.1 0 2 (nI 0))).1 (m + j) = μ.1 (m + j) := fun j => by rw [sb_out (by omega), upI_out (by omega), sb_out (by omega)]
      have ox : ∀ i, (4 ≤ i ∧ i < 46) ∨ (50 ≤ i ∧ i < 164) → (sb (upI (sb μ (x + 46) 4 (sFromF G W (bk μ (x + 4)) (bk μ (x + 1)) (bk μ (x + 46))).2.2) x 17 ((sFromF G W (bk μ (x + 4)) (bk μ (x + 1)) (bk μ (x + 46))).2.1 0 10)) (x + 1) 3 (u2 (sFromF G W (bk μ (x + 4)) (bk μ (x + 1)) (bk μ (x + 46))).2.1 0 2 (nI 0))).1 (x + i) = μ.1 (x + i) := fun i hi => by rw [sb_out (by omega), upI_out (by omega), sb_out (by omega)]
      have ot : ∀ k, k < 3 → (sb (upI (sb μ (x + 46) 4 (sFromF G W (bk μ (x + 4)) (bk μ (x + 1)) (bk μ (x + 46))).2.2) x 17 ((sFromF G W (bk μ (x + 4)) (bk μ (x + 1)) (bk μ (x + 46))).2.1 0 10)) (x + 1) 3 (u2 (sFromF G W (bk μ (x + 4)) (bk μ (x + 1)) (bk μ (x + 46))).2.1 0 2 (nI 0))).1 (x + 1 + k) = (u2 (sFromF G W (bk μ (x + 4)) (bk μ (x + 1)) (bk μ (x + 46))).2.1 0 2 (nI 0)) k := fun k hk => sb_in hk
      have o17 : (sb (upI (sb μ (x + 46) 4 (sFromF G W (bk μ (x + 4)) (bk μ (x + 1)) (bk μ (x + 46))).2.2) x 17 ((sFromF G W (bk μ (x + 4)) (bk μ (x + 1)) (bk μ (x + 46))).2.1 0 10)) (x + 1) 3 (u2 (sFromF G W (bk μ (x + 4)) (bk μ (x + 1)) (bk μ (x + 46))).2.1 0 2 (nI 0))).1 x 17 = (sFromF G W (bk μ (x + 4)) (bk μ (x + 1)) (bk μ (x + 46))).2.1 0 10 := by
        rw [sb_out (by omega), upI_fld]
      have o15 : ∀ j, j ≠ 17 → (sb (upI (sb μ (x + 46) 4 (sFromF G W (bk μ (x + 4)) (bk μ (x + 1)) (bk μ (x + 46))).2.2) x 17 ((sFromF G W (bk μ (x + 4)) (bk μ (x + 1)) (bk μ (x + 46))).2.1 0 10)) (x + 1) 3 (u2 (sFromF G W (bk μ (x + 4)) (bk μ (x + 1)) (bk μ (x + 46))).2.1 0 2 (nI 0))).1 x j = μ.1 x j := fun j hj => by rw [sb_out (by omega), upI_oth hj, sb_out (by omega)]
      have o2 : (sb (upI (sb μ (x + 46) 4 (sFromF G W (bk μ (x + 4)) (bk μ (x + 1)) (bk μ (x + 46))).2.2) x 17 ((sFromF G W (bk μ (x + 4)) (bk μ (x + 1)) (bk μ (x + 46))).2.1 0 10)) (x + 1) 3 (u2 (sFromF G W (bk μ (x + 4)) (bk μ (x + 1)) (bk μ (x + 46))).2.1 0 2 (nI 0))).2 = μ.2 := rfl
      generalize (sb (upI (sb μ (x + 46) 4 (sFromF G W (bk μ (x + 4)) (bk μ (x + 1)) (bk μ (x + 46))).2.2) x 17 ((sFromF G W (bk μ (x + 4)) (bk μ (x + 1)) (bk μ (x + 46))).2.1 0 10)) (x + 1) 3 (u2 (sFromF G W (bk μ (x + 4)) (bk μ (x + 1)) (bk μ (x + 46))).2.1 0 2 (nI 0))) = μ1 at om ox ot o17 o15 o2 ⊢
      have om0 : μ1.1 m = μ.1 m := om 0
      refine ref_in2 (m := m) ?_
      refine c_sentenceR (h := h + 9) (G := G) (W := W) (L := L) (T := bk μ (x + 1)) (B := bk μ (x + 4)) (S := bk μ (x + 46)) l1 l2 (by show μ1.1 m 2 = _; rw [om0]; exact l3) (fun j hj => by show μ1.1 (m + 1) j = _; rw [om 1]; exact l4 j hj) hr.2.1 (by show RBB G W (μ1.1 (m + 2)) (μ1.2 (m + 6)) _; rw [om 2, o2]; exact rb) (fun z1 => absurd (z.symm.trans z1) (by decide)) (fun z1 Q' w' f1 h10 => ⟨rfl, ?_⟩)
      have e' : ∀ k, k < 21 → (sb (upL μ1 m 12 w') m 21 Q').1 (m + k) = Q' k := fun k hk => sb_in hk
      have e0 : (sb (upL μ1 m 12 w') m 21 Q').1 m = Q' 0 := e' 0 (by omega)
      have xx : ∀ i, i < 164 → (sb (upL μ1 m 12 w') m 21 Q').1 (x + i) = μ1.1 (x + i) := fun i hi => sb_out (by omega)
      have x0 : (sb (upL μ1 m 12 w') m 21 Q').1 x = μ1.1 x := sb_out (by omega)
      have q2 : Q' 2 = μ.1 (m + 2) := (f1.1 2 (by decide) (by decide)).trans (om 2)
      have l2' : ∀ i, i ≠ m → (sb (upL μ1 m 12 w') m 21 Q').2 i = μ.2 i := fun i hi => by
        show (upL μ1 m 12 w').2 i = _
        rw [upL_o hi, o2]
      have tk0 : μ1.1 (x + 1) = (u2 (sFromF G W (bk μ (x + 4)) (bk μ (x + 1)) (bk μ (x + 46))).2.1 0 2 (nI 0)) 0 := ot 0 (by omega)
      have tk2 : μ1.1 (x + 3) = (u2 (sFromF G W (bk μ (x + 4)) (bk μ (x + 1)) (bk μ (x + 46))).2.1 0 2 (nI 0)) 2 := ot 2 (by omega)
      refine Rel_mk hr ⟨0, by omega, ?_, ?_, fun j hj => absurd hj (Nat.not_lt_zero j)⟩ ?_ (RSt_k hr.2.2.1 (fun i hi => (xx i (by omega)).trans (ox i (by omega))) (by rw [e' 2 (by omega)]; exact q2) (l2' _ (by omega))) (fun i a b => (xx i (by omega)).trans (ox i (by omega))) ?_ ?_ ?_ (l2' _ (by omega)) (l2' _ (by omega)) (l2' _ (by omega)) (l2' _ (by omega)) ?_ ?_ ?_ ?_ ?_ ?_ ?_
      · rw [xx 1 (by omega), tk0, u2_at, upd_at]
      · rw [e0]; exact f1.2.2
      · rw [xx 3 (by omega), tk2, u2_row (by decide), pr]; rfl
      · rw [e' 5 (by omega), f1.1 5 (by decide) (by decide)]; exact om 5
      · rw [e' 9 (by omega), f1.1 9 (by decide) (by decide)]; exact om 9
      · rw [e' 18 (by omega), f1.1 18 (by decide) (by decide)]; exact om 18
      · show (upL μ1 m 12 w').2 m 34 = _
        rw [← o2]
        show va_up μ1.2 m (vp_updL (μ1.2 m) 12 w') m 34 = _
        rw [up_at, vpL_ne (by decide)]
      · rw [x0]; exact o15 15 (by decide)
      · rw [x0]; exact o15 16 (by decide)
      · rw [e0, f1.2.1 33 (by omega)]; exact congrFun om0 33
      · rw [e0, f1.2.1 35 (by omega)]; exact congrFun om0 35
      · rw [e0, f1.2.1 38 (by omega)]; exact congrFun om0 38
      · rw [x0, e0, o17, h10]
  rw [e] at key
  exact key
end MSz
