/-! the reference's LINES of a BROOK: row 3 is what is read -/
def frS (Q Q' : Bk) (q : Nat → Int32) : Prop := Q' 3 = q ∧ (∀ k, k ≠ 0 → k ≠ 3 → Q' k = Q k) ∧ ∀ j, j < 5 ∨ j = 10 ∨ 13 < j → Q' 0 j = Q 0 j
theorem frS_p {Q Q' : Bk} (h : frG Q Q') : frS Q Q' (Q 3) := ⟨h.1 3 (by decide), fun k h1 _ => h.1 k h1, h.2⟩
theorem frS_t {Q Q1 Q2 : Bk} {q q2 : Nat → Int32} (h : frS Q Q1 q) (h2 : frS Q1 Q2 q2) : frS Q Q2 q2 := ⟨h2.1, fun k k0 k3 => (h2.2.1 k k0 k3).trans (h.2.1 k k0 k3), fun j hj => (h2.2.2 j hj).trans (h.2.2 j hj)⟩
theorem frS_u {Q : Bk} {j : Nat} {x : Int32} : frS Q (u2 Q 3 j x) (upd (Q 3) j x) := ⟨u2_at, fun k _ h3 => u2_row h3, fun i _ => by rw [u2_row (by decide)]⟩
theorem TKb_3 {Q T : Bk} {j : Nat} {x : Int32} (h : TKb Q T) : TKb (u2 Q 3 j x) T := by
  obtain ⟨L, N, h1, h2, h3, h4, h5, h6, h7, h8⟩ := h
  refine ⟨L, N, h1, h2, h3, h4, ?_, ?_, ?_, fun i hi => ?_⟩
  · rw [u2_row (by decide)]; exact h5
  · rw [u2_row (by decide)]; exact h6
  · rw [u2_row (by decide)]; exact h7
  · rw [u2_row (by decide)]; exact h8 i hi
section MLr
variable {X : mC} {h m : Nat} {K : MV → Mem → Prop} {μ : Mem} {Q T B : Bk} {w : Int64}
theorem c_readJoinR (ht : TK Q w T) (k7 : ¬ Q 0 7 = nI 1) (hj : Q 3 2 = B 0 3) (hj2 : B 0 3 = 0 ∨ B 0 3 = 1)
    (h1 : B 0 3 = 0 → ∀ Q' w', TK Q' w' (advF T) → frS Q Q' (upd (Q 3) 2 (nI 1)) → K (.inl (nI 1)) (sb (upL μ m 12 w') m 21 Q'))
    (h0 : ¬ B 0 3 = 0 → ∀ Q', frP Q Q' → Q' 0 10 = nI 3 → Q' 0 11 = T 0 6 → K (.inl (nI 0)) (sb (upL μ m 12 w) m 21 Q')) : mMet X (h + 3) m_X9_readJoined [.inr (.inr (8, 0, m))] (sb (upL μ m 12 w) m 21 Q) K := by
  (refine vc_met2 P0_ok ok_X9_readJoined cm_X9_readJoined [] 6 t_X9_readJoined_0 (Nat.le_of_ble_eq_true rfl) ?_; simp only [mArg_nil, mArg_I, mArg_L, mArg_A, Nat.reduceAdd])
  simp only [↓w_X9_readJoined_0, ↓w_X9_readJoined_15, ↓v_X9_readJoined_15, ↓b_aload_n, ↓b_callV1_0, ↓b_callV2_1, ↓b_getA, ↓b_iaload, ↓n_iastore, ↓b_iconst, ↓b_if_le, ↓b_zret, ↓ldI_hit, ↓ldI_skip, ↓ldL_hit, ↓ldL_skip, ↓ldA_hit, ↓ldA_skip, ↓ldelK_nil, ↓ldelK_hit, ↓ldelK_skipI, ↓ldelK_skipA, ↓ldelK_skipL, lget_hit, lget_skip, ldel_nil, ldel_hit, ldel_skipI, ldel_skipA, ldel_skipL, ldel2_nil, ldel2_hit, ldel2_hit2, ldel2_skipI, ldel2_skipA, ldel2_skipL, vc_0, mCall_P0, mCat_nil, mCat_I, mCat_L, mCat_A, mRcv_A, mArg_nil, mArg_I, mArg_L, mArg_A, tsg, swt_nil, swt_cons, lkw_nil, lkw_cons, ↓reduceIte, Nat.reduceAdd, Nat.reduceEqDiff, Nat.reduceLeDiff, Nat.reduceMul, true_and, and_true, and_self, List.mem_cons, List.not_mem_nil, or_false, or_self, false_or, true_implies, false_implies, not_true_eq_false, not_false_eq_true, nI00, nI10, nI01, nI11, forall_const, implies_true]
  simp (disch := omega) only [ixq, ixz, sb_in, sb_in0, upI_sb, upI_sb0, sb_out, nI_add, nI_mul, nI_subq, Nat.zero_add, forall_eq, u2_at, u2_row, upd_at, upd_ne, nI0b, nI1b, nI00, nI10, nI01, nI11, true_implies, false_implies, not_true_eq_false, not_false_eq_true, and_true, true_and, implies_true, hj]
  refine ⟨fun hc => ?_, fun hc => ?_⟩
  · have e0 : B 0 3 = 0 := by
      rcases hj2 with e | e
      · exact e
      · rw [e] at hc; exact absurd hc (by decide)
    refine c_goT (TKb_3 ht.1) ht.2.1 (fun Q' w' ht' hf => ?_)
    (try simp only [↓w_X9_readJoined_0, ↓w_X9_readJoined_15, ↓v_X9_readJoined_15, ↓b_aload_n, ↓b_callV1_0, ↓b_callV2_1, ↓b_getA, ↓b_iaload, ↓n_iastore, ↓b_iconst, ↓b_if_le, ↓b_zret, ↓ldI_hit, ↓ldI_skip, ↓ldL_hit, ↓ldL_skip, ↓ldA_hit, ↓ldA_skip, ↓ldelK_nil, ↓ldelK_hit, ↓ldelK_skipI, ↓ldelK_skipA, ↓ldelK_skipL, lget_hit, lget_skip, ldel_nil, ldel_hit, ldel_skipI, ldel_skipA, ldel_skipL, ldel2_nil, ldel2_hit, ldel2_hit2, ldel2_skipI, ldel2_skipA, ldel2_skipL, vc_0, mCall_P0, mCat_nil, mCat_I, mCat_L, mCat_A, mRcv_A, mArg_nil, mArg_I, mArg_L, mArg_A, tsg, swt_nil, swt_cons, lkw_nil, lkw_cons, ↓reduceIte, Nat.reduceAdd, Nat.reduceEqDiff, Nat.reduceLeDiff, Nat.reduceMul, true_and, and_true, and_self, List.mem_cons, List.not_mem_nil, or_false, or_self, false_or, true_implies, false_implies, not_true_eq_false, not_false_eq_true, nI00, nI10, nI01, nI11, forall_const, implies_true]); (try simp (disch := omega) only [ixq, ixz, sb_in, sb_in0, upI_sb, upI_sb0, sb_out, nI_add, nI_mul, nI_subq, Nat.zero_add, forall_eq, u2_at, u2_row, upd_at, upd_ne, nI0b, nI1b, nI00, nI10, nI01, nI11, true_implies, false_implies, not_true_eq_false, not_false_eq_true, and_true, true_and, implies_true])
    exact h1 e0 Q' w' ht' (frS_t frS_u (by have := frS_p (frG_q hf); rw [u2_at] at this; exact this))
  · refine c_badT ht (Or.inl k7) (fun Q' f1 f2 f3 => ?_)
    (try simp only [↓w_X9_readJoined_0, ↓w_X9_readJoined_15, ↓v_X9_readJoined_15, ↓b_aload_n, ↓b_callV1_0, ↓b_callV2_1, ↓b_getA, ↓b_iaload, ↓n_iastore, ↓b_iconst, ↓b_if_le, ↓b_zret, ↓ldI_hit, ↓ldI_skip, ↓ldL_hit, ↓ldL_skip, ↓ldA_hit, ↓ldA_skip, ↓ldelK_nil, ↓ldelK_hit, ↓ldelK_skipI, ↓ldelK_skipA, ↓ldelK_skipL, lget_hit, lget_skip, ldel_nil, ldel_hit, ldel_skipI, ldel_skipA, ldel_skipL, ldel2_nil, ldel2_hit, ldel2_hit2, ldel2_skipI, ldel2_skipA, ldel2_skipL, vc_0, mCall_P0, mCat_nil, mCat_I, mCat_L, mCat_A, mRcv_A, mArg_nil, mArg_I, mArg_L, mArg_A, tsg, swt_nil, swt_cons, lkw_nil, lkw_cons, ↓reduceIte, Nat.reduceAdd, Nat.reduceEqDiff, Nat.reduceLeDiff, Nat.reduceMul, true_and, and_true, and_self, List.mem_cons, List.not_mem_nil, or_false, or_self, false_or, true_implies, false_implies, not_true_eq_false, not_false_eq_true, nI00, nI10, nI01, nI11, forall_const, implies_true]); (try simp (disch := omega) only [ixq, ixz, sb_in, sb_in0, upI_sb, upI_sb0, sb_out, nI_add, nI_mul, nI_subq, Nat.zero_add, forall_eq, u2_at, u2_row, upd_at, upd_ne, nI0b, nI1b, nI00, nI10, nI01, nI11, true_implies, false_implies, not_true_eq_false, not_false_eq_true, and_true, true_and, implies_true])
    exact h0 (fun e => hc (by rw [e]; decide)) Q' f1 f2 f3
end MLr
