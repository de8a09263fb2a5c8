def frV (Q Q' : Bk) : Prop := (∀ k, k ≠ 0 → k ≠ 20 → Q' k = Q k) ∧ (∀ j, j = 1 ∨ (13 < j ∧ (j < 41 ∨ 44 < j)) → Q' 0 j = Q 0 j) ∧ Q' 0 2 = nI 0
theorem frV_T {Q Q1 Q2 : Bk} (h : frV Q Q1) (h2 : frT Q1 Q2) : frV Q Q2 := ⟨fun k a b => (h2.1 k a b).trans (h.1 k a b), fun j hj => (h2.2 j (by omega)).trans (h.2.1 j hj), (h2.2 2 (by omega)).trans h.2.2⟩
theorem frV_U {Q Q1 Q2 : Bk} (h : frV Q Q1) (h2 : frU Q1 Q2) : frV Q Q2 := ⟨fun k a b => (h2.1 k a b).trans (h.1 k a b), fun j hj => (h2.2 j (by omega)).trans (h.2.1 j hj), (h2.2 2 (by omega)).trans h.2.2⟩
def nowS (k : Nat) (Q : Bk) : Bk := va_up Q 2 (cpS 381 240 (Q 20) (upd (upd (Q 2) 379 (nI 1)) 380 (nI k)))
section MSy
variable {X : mC} {h m : Nat} {K : MV → Mem → Prop} {μ : Mem} {Q T B S : Bk} {w : Int64} {G W : Nat}
theorem sent_tail {k o : Nat} (h44 : Q 0 44 = nI k) (h42 : Q 0 42 = nI o) (hK : K (.inl (nI o)) (sb (upL μ m 12 w) m 21 (nowS k Q))) : mAt X m_X9_sentence (h + 5) K 56 [(0, .inr (.inr (8, 0, m)))] [] (sb (upL μ m 12 w) m 21 Q) := by
  (skip)
  (refine vc_from P0_ok ok_X9_sentence [36,56,79] 6 ?_; rw [t_X9_sentence_56])
  simp only [↓w_X9_sentence_0, ↓w_X9_sentence_36, ↓w_X9_sentence_56, ↓w_X9_sentence_108, ↓v_X9_sentence_36, ↓v_X9_sentence_56, ↓v_X9_sentence_79, ↓v_X9_sentence_108, ↓b_aload_n, ↓b_callV1_1, ↓b_callV2_0, ↓b_callV2_1, ↓b_getA, ↓b_getI, ↓b_goto, ↓b_iadd, ↓b_iaload, ↓n_iastore, ↓b_ic_ge, ↓b_iconst, ↓b_if_eq, ↓b_if_ne, ↓n_iinc, ↓b_iload_n, ↓b_iret, ↓n_istore_n, ↓n_isub, ↓b_popA, ↓b_popI, ↓n_putI, ↓b_sipush, ↓ldI_hit, ↓ldI_skip, ↓ldL_hit, ↓ldL_skip, ↓ldA_hit, ↓ldA_skip, ↓ldelK_nil, ↓ldelK_hit, ↓ldelK_skipI, ↓ldelK_skipA, ↓ldelK_skipL, lget_hit, lget_skip, ldel_nil, ldel_hit, ldel_skipI, ldel_skipA, ldel_skipL, ldel2_nil, ldel2_hit, ldel2_hit2, ldel2_skipI, ldel2_skipA, ldel2_skipL, vc_0, mCall_P0, mCat_nil, mCat_I, mCat_L, mCat_A, mRcv_A, mArg_nil, mArg_I, mArg_L, mArg_A, tsg, swt_nil, swt_cons, lkw_nil, lkw_cons, ↓reduceIte, Nat.reduceAdd, Nat.reduceEqDiff, Nat.reduceLeDiff, Nat.reduceMul, true_and, and_true, and_self, List.mem_cons, List.not_mem_nil, or_false, or_self, false_or, true_implies, false_implies, not_true_eq_false, not_false_eq_true, nI00, nI10, nI01, nI11, forall_const, implies_true]
  simp (disch := omega) only [ixq, ixz, sb_in, sb_in0, upI_sb, upI_sb0, sb_out, nI_add, nI_mul, nI_subq, Nat.zero_add, forall_eq, u2_at, u2_row, upd_at, upd_ne, nI0b, nI1b, nI00, nI10, nI01, nI11, true_implies, false_implies, not_true_eq_false, not_false_eq_true, and_true, true_and, implies_true, h44]
  have key := loop_up (fun j => bb X P0 m_X9_sentence (h + 5) K (vc X P0 m_X9_sentence (h + 5) K k_X9_sentence [36,56,79] 6) s_X9_sentence_79 [(1, .inl (nI j)), (0, .inr (.inr (8, 0, m)))] [] (sb (upL μ m 12 w) m 21 (va_up Q 2 (cpS 381 j (Q 20) (upd (upd (Q 2) 379 (nI 1)) 380 (nI k)))))) 240 ?_ ?_
  · rw [cpS_0] at key
    have e : u2 (u2 Q 2 379 (nI 1)) 2 380 (nI k) = va_up Q 2 (upd (upd (Q 2) 379 (nI 1)) 380 (nI k)) := by
      funext a
      by_cases ha : a = 2
      · subst ha; rw [u2_at, u2_at, up_at]
      · rw [u2_row ha, u2_row ha, up_row ha]
    rw [e]
    exact key
  · simp only [↓w_X9_sentence_0, ↓w_X9_sentence_36, ↓w_X9_sentence_56, ↓w_X9_sentence_79, ↓w_X9_sentence_108, ↓v_X9_sentence_36, ↓v_X9_sentence_56, ↓v_X9_sentence_79, ↓v_X9_sentence_108, ↓b_aload_n, ↓b_callV1_1, ↓b_callV2_0, ↓b_callV2_1, ↓b_getA, ↓b_getI, ↓b_goto, ↓b_iadd, ↓b_iaload, ↓n_iastore, ↓b_ic_ge, ↓b_iconst, ↓b_if_eq, ↓b_if_ne, ↓n_iinc, ↓b_iload_n, ↓b_iret, ↓n_istore_n, ↓n_isub, ↓b_popA, ↓b_popI, ↓n_putI, ↓b_sipush, ↓ldI_hit, ↓ldI_skip, ↓ldL_hit, ↓ldL_skip, ↓ldA_hit, ↓ldA_skip, ↓ldelK_nil, ↓ldelK_hit, ↓ldelK_skipI, ↓ldelK_skipA, ↓ldelK_skipL, lget_hit, lget_skip, ldel_nil, ldel_hit, ldel_skipI, ldel_skipA, ldel_skipL, ldel2_nil, ldel2_hit, ldel2_hit2, ldel2_skipI, ldel2_skipA, ldel2_skipL, vc_0, mCall_P0, mCat_nil, mCat_I, mCat_L, mCat_A, mRcv_A, mArg_nil, mArg_I, mArg_L, mArg_A, tsg, swt_nil, swt_cons, lkw_nil, lkw_cons, ↓reduceIte, Nat.reduceAdd, Nat.reduceEqDiff, Nat.reduceLeDiff, Nat.reduceMul, true_and, and_true, and_self, List.mem_cons, List.not_mem_nil, or_false, or_self, false_or, true_implies, false_implies, not_true_eq_false, not_false_eq_true, nI00, nI10, nI01, nI11, forall_const, implies_true]
    simp (disch := omega) only [ixq, ixz, sb_in, sb_in0, upI_sb, upI_sb0, sb_out, nI_add, nI_mul, nI_subq, Nat.zero_add, forall_eq, u2_at, u2_row, upd_at, upd_ne, nI0b, nI1b, nI00, nI10, nI01, nI11, true_implies, false_implies, not_true_eq_false, not_false_eq_true, and_true, true_and, implies_true, nI_lq, up_row, h42]
    exact ⟨fun _ => hK, fun hc => absurd (Nat.le_refl _) hc⟩
  · intro j hj ih
    rw [← cpS_s] at ih
    simp only [↓w_X9_sentence_0, ↓w_X9_sentence_36, ↓w_X9_sentence_56, ↓w_X9_sentence_79, ↓w_X9_sentence_108, ↓v_X9_sentence_36, ↓v_X9_sentence_56, ↓v_X9_sentence_79, ↓v_X9_sentence_108, ↓b_aload_n, ↓b_callV1_1, ↓b_callV2_0, ↓b_callV2_1, ↓b_getA, ↓b_getI, ↓b_goto, ↓b_iadd, ↓b_iaload, ↓n_iastore, ↓b_ic_ge, ↓b_iconst, ↓b_if_eq, ↓b_if_ne, ↓n_iinc, ↓b_iload_n, ↓b_iret, ↓n_istore_n, ↓n_isub, ↓b_popA, ↓b_popI, ↓n_putI, ↓b_sipush, ↓ldI_hit, ↓ldI_skip, ↓ldL_hit, ↓ldL_skip, ↓ldA_hit, ↓ldA_skip, ↓ldelK_nil, ↓ldelK_hit, ↓ldelK_skipI, ↓ldelK_skipA, ↓ldelK_skipL, lget_hit, lget_skip, ldel_nil, ldel_hit, ldel_skipI, ldel_skipA, ldel_skipL, ldel2_nil, ldel2_hit, ldel2_hit2, ldel2_skipI, ldel2_skipA, ldel2_skipL, vc_0, mCall_P0, mCat_nil, mCat_I, mCat_L, mCat_A, mRcv_A, mArg_nil, mArg_I, mArg_L, mArg_A, tsg, swt_nil, swt_cons, lkw_nil, lkw_cons, ↓reduceIte, Nat.reduceAdd, Nat.reduceEqDiff, Nat.reduceLeDiff, Nat.reduceMul, true_and, and_true, and_self, List.mem_cons, List.not_mem_nil, or_false, or_self, false_or, true_implies, false_implies, not_true_eq_false, not_false_eq_true, nI00, nI10, nI01, nI11, forall_const, implies_true]
    simp (disch := omega) only [ixq, ixz, sb_in, sb_in0, upI_sb, upI_sb0, sb_out, nI_add, nI_mul, nI_subq, Nat.zero_add, forall_eq, u2_at, u2_row, upd_at, upd_ne, nI0b, nI1b, nI00, nI10, nI01, nI11, true_implies, false_implies, not_true_eq_false, not_false_eq_true, and_true, true_and, implies_true, nI_lq, u2_vup, up_row, up_at]
    refine ⟨fun hc => absurd hc (by omega), fun _ => ?_⟩
    exact vc_back P0_ok ok_X9_sentence [36,56,79] 6 t_X9_sentence_79 (ih) (by simp) (rfl)
theorem c_sentenceR {L : Nat} (hL : L ≤ 940) (hT : T 0 2 = nI L) (hQ : Q 0 2 = nI L) (hj : ∀ j, j < L → Q 1 j = T 1 j) (hk : kwT T) (hR : RBB G W (Q 2) (μ.2 (m + 6)) B)
    (h1 : (sFromF G W B T S).1 = nI 1 → ∀ k s' o' l Q' w', frV Q Q' → Q' 0 10 = nI 0 → (sFromF G W B T S).2.2 0 0 = nI o' → (sFromF G W B T S).2.2 0 1 = nI s' → 1 ≤ o' → o' ≤ 20 → s' ≤ 40 → k < s' → l ≤ 20 → ND (Q' 20) (sFromF G W B T S).2.2 40 k 0 s' l → K (.inl (nI o')) (sb (upL μ m 12 w') m 21 (nowS k Q')))
    (h0 : (sFromF G W B T S).1 = nI 0 → ∀ Q' w', frV Q Q' → Q' 0 10 = (sFromF G W B T S).2.1 0 10 → K (.inl (-1 - (sFromF G W B T S).2.1 0 11)) (sb (upL μ m 12 w') m 21 Q')) : mMet X (h + 41) m_X9_sentence [.inr (.inr (8, 0, m))] (sb (upL μ m 12 w) m 21 Q) K := by
  have rA : RDR X (h + 39) m_X9_readAnd μ m G W 0 B (allF (sOneF G W B 8)) := by
    intro K Q S T w s o a b c d e
    exact c_readAndR (h := h + 35) (c_readOneR 8 (by omega) _ (by omega)) a b c d (by unfold allF at e; exact e)
  have rO : RDR X (h + 40) m_X9_readOr μ m G W 0 B (condF (sOneF G W B 8)) := by
    intro K Q S T w s o a b c d e
    exact c_readOrR (h := h + 36) rA a b c d (by unfold condF at e; exact e)
  clear rA
  have ra : ∀ p, condF (sOneF G W B 8) (openF (nI 200) T) (u2 (u2 S 0 0 (nI 0)) 0 1 (nI 0)) = p → sFromF G W B T S = if p.1 = 0 then (nI 0, p.2) else if p.2.1 0 5 = 0 then (nI 1, p.2) else (nI 0, failF (nI 1) p.2.1, p.2.2) := fun p hp => by
    subst hp
    rfl
  (refine vc_met2 P0_ok ok_X9_sentence cm_X9_sentence [36,56,79] 6 t_X9_sentence_0 (Nat.le_of_ble_eq_true rfl) ?_; simp only [mArg_nil, mArg_I, mArg_L, mArg_A, Nat.reduceAdd])
  simp only [↓w_X9_sentence_0, ↓w_X9_sentence_36, ↓w_X9_sentence_56, ↓w_X9_sentence_79, ↓w_X9_sentence_108, ↓v_X9_sentence_36, ↓v_X9_sentence_56, ↓v_X9_sentence_79, ↓v_X9_sentence_108, ↓b_aload_n, ↓b_callV1_1, ↓b_callV2_0, ↓b_callV2_1, ↓b_getA, ↓b_getI, ↓b_goto, ↓b_iadd, ↓b_iaload, ↓n_iastore, ↓b_ic_ge, ↓b_iconst, ↓b_if_eq, ↓b_if_ne, ↓n_iinc, ↓b_iload_n, ↓b_iret, ↓n_istore_n, ↓n_isub, ↓b_popA, ↓b_popI, ↓n_putI, ↓b_sipush, ↓ldI_hit, ↓ldI_skip, ↓ldL_hit, ↓ldL_skip, ↓ldA_hit, ↓ldA_skip, ↓ldelK_nil, ↓ldelK_hit, ↓ldelK_skipI, ↓ldelK_skipA, ↓ldelK_skipL, lget_hit, lget_skip, ldel_nil, ldel_hit, ldel_skipI, ldel_skipA, ldel_skipL, ldel2_nil, ldel2_hit, ldel2_hit2, ldel2_skipI, ldel2_skipA, ldel2_skipL, vc_0, mCall_P0, mCat_nil, mCat_I, mCat_L, mCat_A, mRcv_A, mArg_nil, mArg_I, mArg_L, mArg_A, tsg, swt_nil, swt_cons, lkw_nil, lkw_cons, ↓reduceIte, Nat.reduceAdd, Nat.reduceEqDiff, Nat.reduceLeDiff, Nat.reduceMul, true_and, and_true, and_self, List.mem_cons, List.not_mem_nil, or_false, or_self, false_or, true_implies, false_implies, not_true_eq_false, not_false_eq_true, nI00, nI10, nI01, nI11, forall_const, implies_true]
  refine c_beginR hL hT hQ hj hk (fun Q1 w1 t1 f1 => ?_)
  simp (disch := omega) only [ixq, ixz, sb_in, sb_in0, upI_sb, upI_sb0, sb_out, nI_add, nI_mul, nI_subq, Nat.zero_add, forall_eq, u2_at, u2_row, upd_at, upd_ne, nI0b, nI1b, nI00, nI10, nI01, nI11, true_implies, false_implies, not_true_eq_false, not_false_eq_true, and_true, true_and, implies_true]
  have fr : frV Q (u2 (u2 (u2 Q1 0 41 (nI 0)) 0 42 (nI 0)) 0 43 (nI 0)) := by
    refine ⟨fun k k0 k20 => ?_, fun j hj => ?_, ?_⟩
    · rw [u2_row k0, u2_row k0, u2_row k0]; exact f1.1 k k0
    · rw [u2_at, upd_ne (by omega), u2_at, upd_ne (by omega), u2_at, upd_ne (by omega)]; exact f1.2.1 j (by omega)
    · rw [u2_at, upd_ne (by omega), u2_at, upd_ne (by omega), u2_at, upd_ne (by omega)]; exact f1.2.2.1
  have f10 : (u2 (u2 (u2 Q1 0 41 (nI 0)) 0 42 (nI 0)) 0 43 (nI 0)) 0 10 = nI 0 := by
    rw [u2_at, upd_ne (by omega), u2_at, upd_ne (by omega), u2_at, upd_ne (by omega)]; exact f1.2.2.2
  have sr : SR (u2 (u2 (u2 Q1 0 41 (nI 0)) 0 42 (nI 0)) 0 43 (nI 0)) (u2 (u2 S 0 0 (nI 0)) 0 1 (nI 0)) 0 0 := by
    refine ⟨?_, ?_, ?_, ?_, by omega, by omega⟩ <;> simp (disch := omega) only [u2_at, upd_at, upd_ne]
  have t2 := TK_13 (j := 43) (x := nI 0) (TK_13 (j := 42) (x := nI 0) (TK_13 (j := 41) (x := nI 0) t1 (by decide)) (by decide)) (by decide)
  have r2 : RBB G W ((u2 (u2 (u2 Q1 0 41 (nI 0)) 0 42 (nI 0)) 0 43 (nI 0)) 2) (μ.2 (m + 6)) B := by rw [fr.1 2 (by decide) (by decide)]; exact hR
  have h43 : (u2 (u2 (u2 Q1 0 41 (nI 0)) 0 42 (nI 0)) 0 43 (nI 0)) 0 43 = nI 0 := by rw [u2_at, upd_at]
  generalize (u2 (u2 (u2 Q1 0 41 (nI 0)) 0 42 (nI 0)) 0 43 (nI 0)) = Q2 at fr f10 sr t2 r2 h43 ⊢
  refine rO _ Q2 _ _ w1 0 0 r2 t2 sr h43 ?_
  clear rO
  have rf := ra _ rfl
  generalize condF (sOneF G W B 8) (openF (nI 200) T) (u2 (u2 S 0 0 (nI 0)) 0 1 (nI 0)) = p at rf ⊢
  generalize sFromF G W B T S = F at rf h1 h0
  refine ⟨fun z Q3 w3 k s3 o3 d l f3 e43 e44 r3 g3 lo ls lk nd ll t3 => ?_, fun z Q3 w3 f3 e10 e11 => ?_⟩
  · rw [if_neg (by rw [z]; decide)] at rf
    have ek : (Q3 0 7 = 0) = (p.2.1 0 5 = 0) := TK_k t3 (k := 0) (by decide) (by decide)
    have o20 := r3.2.2.2.2.1
    (try simp only [↓w_X9_sentence_0, ↓w_X9_sentence_36, ↓w_X9_sentence_56, ↓w_X9_sentence_79, ↓w_X9_sentence_108, ↓v_X9_sentence_36, ↓v_X9_sentence_56, ↓v_X9_sentence_79, ↓v_X9_sentence_108, ↓b_aload_n, ↓b_callV1_1, ↓b_callV2_0, ↓b_callV2_1, ↓b_getA, ↓b_getI, ↓b_goto, ↓b_iadd, ↓b_iaload, ↓n_iastore, ↓b_ic_ge, ↓b_iconst, ↓b_if_eq, ↓b_if_ne, ↓n_iinc, ↓b_iload_n, ↓b_iret, ↓n_istore_n, ↓n_isub, ↓b_popA, ↓b_popI, ↓n_putI, ↓b_sipush, ↓ldI_hit, ↓ldI_skip, ↓ldL_hit, ↓ldL_skip, ↓ldA_hit, ↓ldA_skip, ↓ldelK_nil, ↓ldelK_hit, ↓ldelK_skipI, ↓ldelK_skipA, ↓ldelK_skipL, lget_hit, lget_skip, ldel_nil, ldel_hit, ldel_skipI, ldel_skipA, ldel_skipL, ldel2_nil, ldel2_hit, ldel2_hit2, ldel2_skipI, ldel2_skipA, ldel2_skipL, vc_0, mCall_P0, mCat_nil, mCat_I, mCat_L, mCat_A, mRcv_A, mArg_nil, mArg_I, mArg_L, mArg_A, tsg, swt_nil, swt_cons, lkw_nil, lkw_cons, ↓reduceIte, Nat.reduceAdd, Nat.reduceEqDiff, Nat.reduceLeDiff, Nat.reduceMul, true_and, and_true, and_self, List.mem_cons, List.not_mem_nil, or_false, or_self, false_or, true_implies, false_implies, not_true_eq_false, not_false_eq_true, nI00, nI10, nI01, nI11, forall_const, implies_true]); (try simp (disch := omega) only [ixq, ixz, sb_in, sb_in0, upI_sb, upI_sb0, sb_out, nI_add, nI_mul, nI_subq, Nat.zero_add, forall_eq, u2_at, u2_row, upd_at, upd_ne, nI0b, nI1b, nI00, nI10, nI01, nI11, true_implies, false_implies, not_true_eq_false, not_false_eq_true, and_true, true_and, implies_true])
    (refine vc_from P0_ok ok_X9_sentence [36,56,79] 6 ?_; rw [t_X9_sentence_36])
    simp only [↓w_X9_sentence_0, ↓w_X9_sentence_36, ↓w_X9_sentence_56, ↓w_X9_sentence_79, ↓w_X9_sentence_108, ↓v_X9_sentence_36, ↓v_X9_sentence_56, ↓v_X9_sentence_79, ↓v_X9_sentence_108, ↓b_aload_n, ↓b_callV1_1, ↓b_callV2_0, ↓b_callV2_1, ↓b_getA, ↓b_getI, ↓b_goto, ↓b_iadd, ↓b_iaload, ↓n_iastore, ↓b_ic_ge, ↓b_iconst, ↓b_if_eq, ↓b_if_ne, ↓n_iinc, ↓b_iload_n, ↓b_iret, ↓n_istore_n, ↓n_isub, ↓b_popA, ↓b_popI, ↓n_putI, ↓b_sipush, ↓ldI_hit, ↓ldI_skip, ↓ldL_hit, ↓ldL_skip, ↓ldA_hit, ↓ldA_skip, ↓ldelK_nil, ↓ldelK_hit, ↓ldelK_skipI, ↓ldelK_skipA, ↓ldelK_skipL, lget_hit, lget_skip, ldel_nil, ldel_hit, ldel_skipI, ldel_skipA, ldel_skipL, ldel2_nil, ldel2_hit, ldel2_hit2, ldel2_skipI, ldel2_skipA, ldel2_skipL, vc_0, mCall_P0, mCat_nil, mCat_I, mCat_L, mCat_A, mRcv_A, mArg_nil, mArg_I, mArg_L, mArg_A, tsg, swt_nil, swt_cons, lkw_nil, lkw_cons, ↓reduceIte, Nat.reduceAdd, Nat.reduceEqDiff, Nat.reduceLeDiff, Nat.reduceMul, true_and, and_true, and_self, List.mem_cons, List.not_mem_nil, or_false, or_self, false_or, true_implies, false_implies, not_true_eq_false, not_false_eq_true, nI00, nI10, nI01, nI11, forall_const, implies_true]
    simp (disch := omega) only [ixq, ixz, sb_in, sb_in0, upI_sb, upI_sb0, sb_out, nI_add, nI_mul, nI_subq, Nat.zero_add, forall_eq, u2_at, u2_row, upd_at, upd_ne, nI0b, nI1b, nI00, nI10, nI01, nI11, true_implies, false_implies, not_true_eq_false, not_false_eq_true, and_true, true_and, implies_true, ek]
    refine ⟨fun h5 => ?_, fun h5 => ?_⟩
    · rw [if_pos h5] at rf
      subst rf
      dsimp only at h1
      refine sent_tail (h := h + 35) e44 r3.2.1 (h1 rfl k s3 o3 l Q3 w3 (frV_T fr f3) ?_ r3.2.2.1 r3.2.2.2.1 (by omega) o20 (by omega) lk (by omega) ?_)
      · rw [f3.2 10 (by omega)]; exact f10
      · have := ND_sz _ _ _ _ _ nd
        exact ND_le this (by omega)
    · rw [if_neg h5] at rf
      subst rf
      dsimp only at h0
      refine c_badT t3 (Or.inr rfl) (fun Q4 f4 e10 e11 => ?_)
      rw [failF_10, failF_11] at h0
      (try simp only [↓w_X9_sentence_0, ↓w_X9_sentence_36, ↓w_X9_sentence_56, ↓w_X9_sentence_79, ↓w_X9_sentence_108, ↓v_X9_sentence_36, ↓v_X9_sentence_56, ↓v_X9_sentence_79, ↓v_X9_sentence_108, ↓b_aload_n, ↓b_callV1_1, ↓b_callV2_0, ↓b_callV2_1, ↓b_getA, ↓b_getI, ↓b_goto, ↓b_iadd, ↓b_iaload, ↓n_iastore, ↓b_ic_ge, ↓b_iconst, ↓b_if_eq, ↓b_if_ne, ↓n_iinc, ↓b_iload_n, ↓b_iret, ↓n_istore_n, ↓n_isub, ↓b_popA, ↓b_popI, ↓n_putI, ↓b_sipush, ↓ldI_hit, ↓ldI_skip, ↓ldL_hit, ↓ldL_skip, ↓ldA_hit, ↓ldA_skip, ↓ldelK_nil, ↓ldelK_hit, ↓ldelK_skipI, ↓ldelK_skipA, ↓ldelK_skipL, lget_hit, lget_skip, ldel_nil, ldel_hit, ldel_skipI, ldel_skipA, ldel_skipL, ldel2_nil, ldel2_hit, ldel2_hit2, ldel2_skipI, ldel2_skipA, ldel2_skipL, vc_0, mCall_P0, mCat_nil, mCat_I, mCat_L, mCat_A, mRcv_A, mArg_nil, mArg_I, mArg_L, mArg_A, tsg, swt_nil, swt_cons, lkw_nil, lkw_cons, ↓reduceIte, Nat.reduceAdd, Nat.reduceEqDiff, Nat.reduceLeDiff, Nat.reduceMul, true_and, and_true, and_self, List.mem_cons, List.not_mem_nil, or_false, or_self, false_or, true_implies, false_implies, not_true_eq_false, not_false_eq_true, nI00, nI10, nI01, nI11, forall_const, implies_true]); (try simp (disch := omega) only [ixq, ixz, sb_in, sb_in0, upI_sb, upI_sb0, sb_out, nI_add, nI_mul, nI_subq, Nat.zero_add, forall_eq, u2_at, u2_row, upd_at, upd_ne, nI0b, nI1b, nI00, nI10, nI01, nI11, true_implies, false_implies, not_true_eq_false, not_false_eq_true, and_true, true_and, implies_true, e11])
      exact h0 rfl Q4 w3 (frV_U fr (frU_t f3 (frU_P f4))) e10
  · rw [if_pos (show p.1 = 0 from z)] at rf
    subst rf
    dsimp only at h0
    (try simp only [↓w_X9_sentence_0, ↓w_X9_sentence_36, ↓w_X9_sentence_56, ↓w_X9_sentence_79, ↓w_X9_sentence_108, ↓v_X9_sentence_36, ↓v_X9_sentence_56, ↓v_X9_sentence_79, ↓v_X9_sentence_108, ↓b_aload_n, ↓b_callV1_1, ↓b_callV2_0, ↓b_callV2_1, ↓b_getA, ↓b_getI, ↓b_goto, ↓b_iadd, ↓b_iaload, ↓n_iastore, ↓b_ic_ge, ↓b_iconst, ↓b_if_eq, ↓b_if_ne, ↓n_iinc, ↓b_iload_n, ↓b_iret, ↓n_istore_n, ↓n_isub, ↓b_popA, ↓b_popI, ↓n_putI, ↓b_sipush, ↓ldI_hit, ↓ldI_skip, ↓ldL_hit, ↓ldL_skip, ↓ldA_hit, ↓ldA_skip, ↓ldelK_nil, ↓ldelK_hit, ↓ldelK_skipI, ↓ldelK_skipA, ↓ldelK_skipL, lget_hit, lget_skip, ldel_nil, ldel_hit, ldel_skipI, ldel_skipA, ldel_skipL, ldel2_nil, ldel2_hit, ldel2_hit2, ldel2_skipI, ldel2_skipA, ldel2_skipL, vc_0, mCall_P0, mCat_nil, mCat_I, mCat_L, mCat_A, mRcv_A, mArg_nil, mArg_I, mArg_L, mArg_A, tsg, swt_nil, swt_cons, lkw_nil, lkw_cons, ↓reduceIte, Nat.reduceAdd, Nat.reduceEqDiff, Nat.reduceLeDiff, Nat.reduceMul, true_and, and_true, and_self, List.mem_cons, List.not_mem_nil, or_false, or_self, false_or, true_implies, false_implies, not_true_eq_false, not_false_eq_true, nI00, nI10, nI01, nI11, forall_const, implies_true]); (try simp (disch := omega) only [ixq, ixz, sb_in, sb_in0, upI_sb, upI_sb0, sb_out, nI_add, nI_mul, nI_subq, Nat.zero_add, forall_eq, u2_at, u2_row, upd_at, upd_ne, nI0b, nI1b, nI00, nI10, nI01, nI11, true_implies, false_implies, not_true_eq_false, not_false_eq_true, and_true, true_and, implies_true, e11])
    exact h0 rfl Q3 w3 (frV_U fr f3) e10
end MSy
