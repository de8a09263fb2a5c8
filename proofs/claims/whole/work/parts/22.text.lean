/-! a text's rows: 0 (1: length), 1 bytes -/
def putF (x : Int32) (T : Bk) : Bk := if nI 136 ≤ T 0 1 then T else u2 (u2 T 1 (T 0 1).toNatClampNeg x) 0 1 (T 0 1 + nI 1)
def tOk (T : Bk) : Prop := ∃ n, n ≤ 136 ∧ T 0 1 = nI n
theorem putF_ok {x : Int32} {T : Bk} (h : tOk T) : tOk (putF x T) := by
  obtain ⟨n, hn, e⟩ := h
  unfold putF
  rw [e]
  by_cases hc : nI 136 ≤ nI n
  · rw [if_pos hc]
    exact ⟨n, hn, e⟩
  · rw [if_neg hc]
    rw [nI_lq (by omega) (by omega)] at hc
    refine ⟨n + 1, by omega, ?_⟩
    rw [u2_at, upd_at, nI_add]
def letF (name : Int32) (k : Nat) (T : Bk) : Bk := if (name >>> (nI (25 - 5 * k) &&& 31)) &&& nI 31 ≤ 0 then T else putF (((name >>> (nI (25 - 5 * k) &&& 31)) &&& nI 31) + nI 96) T
def digF (n : Int32) (k : Nat) (T : Bk) : Bk := if nI (10 ^ (4 - k)) ≤ n ∨ k = 4 then putF (nI 48 + (n / nI (10 ^ (4 - k)) - n / nI (10 ^ (4 - k)) / nI 10 * nI 10)) T else T
section MTx
variable {X : mC} {h x : Nat} {K : MV → Mem → Prop} {μ : Mem} {T : Bk}
theorem c_putByte {v : Int32} (hT : tOk T) (hK : K (.inl 0) (sb μ x 2 (putF v T))) : mMet X (h + 1) m_X7_putByte [.inr (.inr (6, 0, x)), .inl v] (sb μ x 2 T) K := by
  obtain ⟨n, hn, e⟩ := hT
  refine vc_met2 P0_ok ok_X7_putByte cm_X7_putByte [] 4 t_X7_putByte_0 (Nat.le_of_ble_eq_true rfl) ?_
  simp only [mArg_nil, mArg_I, mArg_L, mArg_A, Nat.reduceAdd]
  simp only [↓w_X7_putByte_0, ↓w_X7_putByte_30, ↓v_X7_putByte_30, ↓b_aload_n, ↓b_dupA, ↓b_dupI, ↓b_getA, ↓b_getI, ↓b_iadd, ↓n_iastore, ↓b_ic_ge, ↓b_iconst, ↓b_iload_n, ↓n_putI, ↓b_sipush, ↓b_vret, ↓ldI_hit, ↓ldI_skip, ↓ldL_hit, ↓ldL_skip, ↓ldA_hit, ↓ldA_skip, ↓ldelK_nil, ↓ldelK_hit, ↓ldelK_skipI, ↓ldelK_skipA, ↓ldelK_skipL, lget_hit, lget_skip, ldel_nil, ldel_hit, ldel_skipI, ldel_skipA, ldel_skipL, ldel2_nil, ldel2_hit, ldel2_hit2, ldel2_skipI, ldel2_skipA, ldel2_skipL, vc_0, mCall_P0, mCat_nil, mCat_I, mCat_L, mCat_A, mRcv_A, mArg_nil, mArg_I, mArg_L, mArg_A, tsg, swt_nil, swt_cons, lkw_nil, lkw_cons, ↓reduceIte, Nat.reduceAdd, Nat.reduceEqDiff, Nat.reduceLeDiff, Nat.reduceMul, true_and, and_true, and_self, List.mem_cons, List.not_mem_nil, or_false, or_self, false_or, true_implies, false_implies, not_true_eq_false, not_false_eq_true, nI00, nI10, nI01, nI11, forall_const, implies_true]
  simp (disch := omega) only [ixq, ixz, sb_in, sb_in0, upI_sb, upI_sb0, sb_out, nI_add, nI_mul, nI_subq, Nat.zero_add, forall_eq, u2_at, u2_row, upd_at, upd_ne, nI0b, nI1b, nI00, nI10, nI01, nI11, true_implies, false_implies, not_true_eq_false, not_false_eq_true, and_true, true_and, implies_true, e, nI_lq]
  unfold putF at hK
  rw [e] at hK
  refine ⟨fun hc => ?_, fun hc => ?_⟩
  · rw [if_pos (nI_le hc (by omega))] at hK
    exact hK
  · rw [if_neg (fun z => hc ((nI_leI (by omega) (by omega)).mp z)), nI_clamp (by omega), nI_add] at hK
    simp (disch := omega) only [ixq, ixz, sb_in, sb_in0, upI_sb, upI_sb0, sb_out, nI_add, nI_mul, nI_subq, Nat.zero_add, forall_eq, u2_at, u2_row, upd_at, upd_ne, nI0b, nI1b, nI00, nI10, nI01, nI11, true_implies, false_implies, not_true_eq_false, not_false_eq_true, and_true, true_and, implies_true, e, nI_lq]
    exact hK
theorem c_putName {name : Int32} (hT : tOk T) (hK : K (.inl 0) (sb μ x 2 (fo 6 (letF name) T))) : mMet X (h + 2) m_X7_putName [.inr (.inr (6, 0, x)), .inl name] (sb μ x 2 T) K := by
  refine vc_met2 P0_ok ok_X7_putName cm_X7_putName [3] 6 t_X7_putName_0 (Nat.le_of_ble_eq_true rfl) ?_
  simp only [mArg_nil, mArg_I, mArg_L, mArg_A, Nat.reduceAdd]
  simp only [↓w_X7_putName_0, ↓w_X7_putName_26, ↓w_X7_putName_32, ↓v_X7_putName_3, ↓v_X7_putName_26, ↓v_X7_putName_32, ↓b_aload_n, ↓b_bipush, ↓b_callV2_0, ↓b_goto, ↓b_iadd, ↓b_iand, ↓b_if_le, ↓b_if_lt, ↓n_iinc, ↓b_iload_n, ↓b_ishr, ↓n_istore_n, ↓b_vret, ↓ldI_hit, ↓ldI_skip, ↓ldL_hit, ↓ldL_skip, ↓ldA_hit, ↓ldA_skip, ↓ldelK_nil, ↓ldelK_hit, ↓ldelK_skipI, ↓ldelK_skipA, ↓ldelK_skipL, lget_hit, lget_skip, ldel_nil, ldel_hit, ldel_skipI, ldel_skipA, ldel_skipL, ldel2_nil, ldel2_hit, ldel2_hit2, ldel2_skipI, ldel2_skipA, ldel2_skipL, vc_0, mCall_P0, mCat_nil, mCat_I, mCat_L, mCat_A, mRcv_A, mArg_nil, mArg_I, mArg_L, mArg_A, tsg, swt_nil, swt_cons, lkw_nil, lkw_cons, ↓reduceIte, Nat.reduceAdd, Nat.reduceEqDiff, Nat.reduceLeDiff, Nat.reduceMul, true_and, and_true, and_self, List.mem_cons, List.not_mem_nil, or_false, or_self, false_or, true_implies, false_implies, not_true_eq_false, not_false_eq_true, nI00, nI10, nI01, nI11, forall_const, implies_true]
  rintro _ rfl
  have ok : ∀ k, tOk (fo k (letF name) T) := by
    intro k
    induction k with
    | zero => exact hT
    | succ k ih =>
      rw [fo_s]
      unfold letF
      split
      · exact ih
      · exact putF_ok ih
  have := loop_up (fun k => bb X P0 m_X7_putName (h + 1) K (vc X P0 m_X7_putName (h + 1) K k_X7_putName [3] 6) s_X7_putName_3 [(2, .inl (if k ≤ 5 then nI (25 - 5 * k) else -5)), (0, .inr (.inr (6, 0, x))), (1, .inl name)] [] (sb μ x 2 (fo k (letF name) T))) 6 ?_ ?_
  · exact this
  · simp only [↓w_X7_putName_0, ↓w_X7_putName_3, ↓w_X7_putName_26, ↓w_X7_putName_32, ↓v_X7_putName_3, ↓v_X7_putName_26, ↓v_X7_putName_32, ↓b_aload_n, ↓b_bipush, ↓b_callV2_0, ↓b_goto, ↓b_iadd, ↓b_iand, ↓b_if_le, ↓b_if_lt, ↓n_iinc, ↓b_iload_n, ↓b_ishr, ↓n_istore_n, ↓b_vret, ↓ldI_hit, ↓ldI_skip, ↓ldL_hit, ↓ldL_skip, ↓ldA_hit, ↓ldA_skip, ↓ldelK_nil, ↓ldelK_hit, ↓ldelK_skipI, ↓ldelK_skipA, ↓ldelK_skipL, lget_hit, lget_skip, ldel_nil, ldel_hit, ldel_skipI, ldel_skipA, ldel_skipL, ldel2_nil, ldel2_hit, ldel2_hit2, ldel2_skipI, ldel2_skipA, ldel2_skipL, vc_0, mCall_P0, mCat_nil, mCat_I, mCat_L, mCat_A, mRcv_A, mArg_nil, mArg_I, mArg_L, mArg_A, tsg, swt_nil, swt_cons, lkw_nil, lkw_cons, ↓reduceIte, Nat.reduceAdd, Nat.reduceEqDiff, Nat.reduceLeDiff, Nat.reduceMul, true_and, and_true, and_self, List.mem_cons, List.not_mem_nil, or_false, or_self, false_or, true_implies, false_implies, not_true_eq_false, not_false_eq_true, nI00, nI10, nI01, nI11, forall_const, implies_true]
    refine ⟨fun _ => hK, fun hc => absurd (by decide) hc⟩
  · intro k hk ih
    rw [fo_s] at ih
    have okk := ok k
    generalize fo k (letF name) T = T1 at ih okk ⊢
    rw [if_pos (show k ≤ 5 by omega)]
    have e2 : nI (25 - 5 * k) + (-5) = (if k + 1 ≤ 5 then nI (25 - 5 * (k + 1)) else -5) := by
      have : k = 0 ∨ k = 1 ∨ k = 2 ∨ k = 3 ∨ k = 4 ∨ k = 5 := by omega
      rcases this with rfl | rfl | rfl | rfl | rfl | rfl <;> rfl
    simp only [↓w_X7_putName_0, ↓w_X7_putName_3, ↓w_X7_putName_26, ↓w_X7_putName_32, ↓v_X7_putName_3, ↓v_X7_putName_26, ↓v_X7_putName_32, ↓b_aload_n, ↓b_bipush, ↓b_callV2_0, ↓b_goto, ↓b_iadd, ↓b_iand, ↓b_if_le, ↓b_if_lt, ↓n_iinc, ↓b_iload_n, ↓b_ishr, ↓n_istore_n, ↓b_vret, ↓ldI_hit, ↓ldI_skip, ↓ldL_hit, ↓ldL_skip, ↓ldA_hit, ↓ldA_skip, ↓ldelK_nil, ↓ldelK_hit, ↓ldelK_skipI, ↓ldelK_skipA, ↓ldelK_skipL, lget_hit, lget_skip, ldel_nil, ldel_hit, ldel_skipI, ldel_skipA, ldel_skipL, ldel2_nil, ldel2_hit, ldel2_hit2, ldel2_skipI, ldel2_skipA, ldel2_skipL, vc_0, mCall_P0, mCat_nil, mCat_I, mCat_L, mCat_A, mRcv_A, mArg_nil, mArg_I, mArg_L, mArg_A, tsg, swt_nil, swt_cons, lkw_nil, lkw_cons, ↓reduceIte, Nat.reduceAdd, Nat.reduceEqDiff, Nat.reduceLeDiff, Nat.reduceMul, true_and, and_true, and_self, List.mem_cons, List.not_mem_nil, or_false, or_self, false_or, true_implies, false_implies, not_true_eq_false, not_false_eq_true, nI00, nI10, nI01, nI11, forall_const, implies_true]
    simp (disch := omega) only [ixq, ixz, sb_in, sb_in0, upI_sb, upI_sb0, sb_out, nI_add, nI_mul, nI_subq, Nat.zero_add, forall_eq, u2_at, u2_row, upd_at, upd_ne, nI0b, nI1b, nI00, nI10, nI01, nI11, true_implies, false_implies, not_true_eq_false, not_false_eq_true, and_true, true_and, implies_true, nI_lz]
    refine ⟨fun hc => ?_, fun hc => ?_⟩
    · have e1 : letF name k T1 = T1 := if_pos hc
      rw [e1] at ih
      exact vc_back P0_ok ok_X7_putName [3] 6 t_X7_putName_3 ih (by simp [e2]) rfl
    · have e1 : letF name k T1 = putF _ T1 := if_neg hc
      rw [e1] at ih
      refine c_putByte okk ?_
      exact vc_back P0_ok ok_X7_putName [3] 6 t_X7_putName_3 ih (by simp [e2]) rfl
theorem c_putNum {n : Int32} (hT : tOk T) (hK : K (.inl 0) (sb μ x 2 (fo 5 (digF n) T))) : mMet X (h + 2) m_X7_putNumber [.inr (.inr (6, 0, x)), .inl n] (sb μ x 2 T) K := by
  refine vc_met2 P0_ok ok_X7_putNumber cm_X7_putNumber [4,19,32] 8 t_X7_putNumber_0 (Nat.le_of_ble_eq_true rfl) ?_
  simp only [mArg_nil, mArg_I, mArg_L, mArg_A, Nat.reduceAdd]
  simp only [↓w_X7_putNumber_0, ↓w_X7_putNumber_19, ↓w_X7_putNumber_32, ↓w_X7_putNumber_40, ↓v_X7_putNumber_4, ↓v_X7_putNumber_19, ↓v_X7_putNumber_32, ↓v_X7_putNumber_40, ↓b_aload_n, ↓b_bipush, ↓b_callV2_0, ↓b_goto, ↓b_iadd, ↓b_ic_ge, ↓b_ic_lt, ↓b_ic_ne, ↓b_iconst, ↓b_idiv, ↓b_iload_n, ↓b_irem, ↓n_istore_n, ↓b_sipush, ↓b_vret, ↓ldI_hit, ↓ldI_skip, ↓ldL_hit, ↓ldL_skip, ↓ldA_hit, ↓ldA_skip, ↓ldelK_nil, ↓ldelK_hit, ↓ldelK_skipI, ↓ldelK_skipA, ↓ldelK_skipL, lget_hit, lget_skip, ldel_nil, ldel_hit, ldel_skipI, ldel_skipA, ldel_skipL, ldel2_nil, ldel2_hit, ldel2_hit2, ldel2_skipI, ldel2_skipA, ldel2_skipL, vc_0, mCall_P0, mCat_nil, mCat_I, mCat_L, mCat_A, mRcv_A, mArg_nil, mArg_I, mArg_L, mArg_A, tsg, swt_nil, swt_cons, lkw_nil, lkw_cons, ↓reduceIte, Nat.reduceAdd, Nat.reduceEqDiff, Nat.reduceLeDiff, Nat.reduceMul, true_and, and_true, and_self, List.mem_cons, List.not_mem_nil, or_false, or_self, false_or, true_implies, false_implies, not_true_eq_false, not_false_eq_true, nI00, nI10, nI01, nI11, forall_const, implies_true]
  rintro _ rfl
  have ok : ∀ k, tOk (fo k (digF n) T) := by
    intro k
    induction k with
    | zero => exact hT
    | succ k ih =>
      rw [fo_s]
      unfold digF
      split
      · exact putF_ok ih
      · exact ih
  have := loop_up (fun k => bb X P0 m_X7_putNumber (h + 1) K (vc X P0 m_X7_putNumber (h + 1) K k_X7_putNumber [4,19,32] 8) s_X7_putNumber_4 [(2, .inl (if k ≤ 4 then nI (10 ^ (4 - k)) else nI 0)), (0, .inr (.inr (6, 0, x))), (1, .inl n)] [] (sb μ x 2 (fo k (digF n) T))) 5 ?_ ?_
  · exact this
  · simp only [↓w_X7_putNumber_0, ↓w_X7_putNumber_4, ↓w_X7_putNumber_19, ↓w_X7_putNumber_32, ↓w_X7_putNumber_40, ↓v_X7_putNumber_4, ↓v_X7_putNumber_19, ↓v_X7_putNumber_32, ↓v_X7_putNumber_40, ↓b_aload_n, ↓b_bipush, ↓b_callV2_0, ↓b_goto, ↓b_iadd, ↓b_ic_ge, ↓b_ic_lt, ↓b_ic_ne, ↓b_iconst, ↓b_idiv, ↓b_iload_n, ↓b_irem, ↓n_istore_n, ↓b_sipush, ↓b_vret, ↓ldI_hit, ↓ldI_skip, ↓ldL_hit, ↓ldL_skip, ↓ldA_hit, ↓ldA_skip, ↓ldelK_nil, ↓ldelK_hit, ↓ldelK_skipI, ↓ldelK_skipA, ↓ldelK_skipL, lget_hit, lget_skip, ldel_nil, ldel_hit, ldel_skipI, ldel_skipA, ldel_skipL, ldel2_nil, ldel2_hit, ldel2_hit2, ldel2_skipI, ldel2_skipA, ldel2_skipL, vc_0, mCall_P0, mCat_nil, mCat_I, mCat_L, mCat_A, mRcv_A, mArg_nil, mArg_I, mArg_L, mArg_A, tsg, swt_nil, swt_cons, lkw_nil, lkw_cons, ↓reduceIte, Nat.reduceAdd, Nat.reduceEqDiff, Nat.reduceLeDiff, Nat.reduceMul, true_and, and_true, and_self, List.mem_cons, List.not_mem_nil, or_false, or_self, false_or, true_implies, false_implies, not_true_eq_false, not_false_eq_true, nI00, nI10, nI01, nI11, forall_const, implies_true]
    refine ⟨fun _ => hK, fun hc => absurd (by decide) hc⟩
  · intro k hk ih
    rw [fo_s] at ih
    have okk := ok k
    generalize fo k (digF n) T = T1 at ih okk ⊢
    rw [if_pos (show k ≤ 4 by omega)]
    have e2 : nI (10 ^ (4 - k)) / nI 10 = (if k + 1 ≤ 4 then nI (10 ^ (4 - (k + 1))) else nI 0) := by
      have : k = 0 ∨ k = 1 ∨ k = 2 ∨ k = 3 ∨ k = 4 := by omega
      rcases this with rfl | rfl | rfl | rfl | rfl <;> rfl
    have e3 : ¬ nI (10 ^ (4 - k)) < nI 1 ∧ ¬ nI (10 ^ (4 - k)) = 0 ∧ (nI (10 ^ (4 - k)) = nI 1 ↔ k = 4) := by
      have : k = 0 ∨ k = 1 ∨ k = 2 ∨ k = 3 ∨ k = 4 := by omega
      rcases this with rfl | rfl | rfl | rfl | rfl <;> decide
    obtain ⟨e31, e32, e33⟩ := e3
    have fin : ∀ T2, T2 = digF n k T1 → mAt X m_X7_putNumber (h + 1) K 32 [(2, .inl (nI (10 ^ (4 - k)))), (0, .inr (.inr (6, 0, x))), (1, .inl n)] [] (sb μ x 2 T2) := by
      intro T2 ht
      subst ht
      refine vc_from P0_ok ok_X7_putNumber [4, 19, 32] 8 ?_
      rw [t_X7_putNumber_32]
      simp only [↓w_X7_putNumber_0, ↓w_X7_putNumber_4, ↓w_X7_putNumber_19, ↓w_X7_putNumber_32, ↓w_X7_putNumber_40, ↓v_X7_putNumber_4, ↓v_X7_putNumber_19, ↓v_X7_putNumber_32, ↓v_X7_putNumber_40, ↓b_aload_n, ↓b_bipush, ↓b_callV2_0, ↓b_goto, ↓b_iadd, ↓b_ic_ge, ↓b_ic_lt, ↓b_ic_ne, ↓b_iconst, ↓b_idiv, ↓b_iload_n, ↓b_irem, ↓n_istore_n, ↓b_sipush, ↓b_vret, ↓ldI_hit, ↓ldI_skip, ↓ldL_hit, ↓ldL_skip, ↓ldA_hit, ↓ldA_skip, ↓ldelK_nil, ↓ldelK_hit, ↓ldelK_skipI, ↓ldelK_skipA, ↓ldelK_skipL, lget_hit, lget_skip, ldel_nil, ldel_hit, ldel_skipI, ldel_skipA, ldel_skipL, ldel2_nil, ldel2_hit, ldel2_hit2, ldel2_skipI, ldel2_skipA, ldel2_skipL, vc_0, mCall_P0, mCat_nil, mCat_I, mCat_L, mCat_A, mRcv_A, mArg_nil, mArg_I, mArg_L, mArg_A, tsg, swt_nil, swt_cons, lkw_nil, lkw_cons, ↓reduceIte, Nat.reduceAdd, Nat.reduceEqDiff, Nat.reduceLeDiff, Nat.reduceMul, true_and, and_true, and_self, List.mem_cons, List.not_mem_nil, or_false, or_self, false_or, true_implies, false_implies, not_true_eq_false, not_false_eq_true, nI00, nI10, nI01, nI11, forall_const, implies_true]
      refine ⟨by decide, ?_⟩
      rintro _ rfl
      exact vc_back P0_ok ok_X7_putNumber [4, 19, 32] 8 t_X7_putNumber_4 ih (by simp [e2]) rfl
    have put : (nI (10 ^ (4 - k)) ≤ n ∨ k = 4) → bb X P0 m_X7_putNumber (h + 1) K (vc X P0 m_X7_putNumber (h + 1) K k_X7_putNumber [4,19,32] 8) s_X7_putNumber_19 [(2, .inl (nI (10 ^ (4 - k)))), (0, .inr (.inr (6, 0, x))), (1, .inl n)] [] (sb μ x 2 T1) := by
      intro hc
      have e1 : digF n k T1 = putF _ T1 := if_pos hc
      rw [e1] at ih
      simp only [↓w_X7_putNumber_0, ↓w_X7_putNumber_4, ↓w_X7_putNumber_19, ↓w_X7_putNumber_32, ↓w_X7_putNumber_40, ↓v_X7_putNumber_4, ↓v_X7_putNumber_19, ↓v_X7_putNumber_32, ↓v_X7_putNumber_40, ↓b_aload_n, ↓b_bipush, ↓b_callV2_0, ↓b_goto, ↓b_iadd, ↓b_ic_ge, ↓b_ic_lt, ↓b_ic_ne, ↓b_iconst, ↓b_idiv, ↓b_iload_n, ↓b_irem, ↓n_istore_n, ↓b_sipush, ↓b_vret, ↓ldI_hit, ↓ldI_skip, ↓ldL_hit, ↓ldL_skip, ↓ldA_hit, ↓ldA_skip, ↓ldelK_nil, ↓ldelK_hit, ↓ldelK_skipI, ↓ldelK_skipA, ↓ldelK_skipL, lget_hit, lget_skip, ldel_nil, ldel_hit, ldel_skipI, ldel_skipA, ldel_skipL, ldel2_nil, ldel2_hit, ldel2_hit2, ldel2_skipI, ldel2_skipA, ldel2_skipL, vc_0, mCall_P0, mCat_nil, mCat_I, mCat_L, mCat_A, mRcv_A, mArg_nil, mArg_I, mArg_L, mArg_A, tsg, swt_nil, swt_cons, lkw_nil, lkw_cons, ↓reduceIte, Nat.reduceAdd, Nat.reduceEqDiff, Nat.reduceLeDiff, Nat.reduceMul, true_and, and_true, and_self, List.mem_cons, List.not_mem_nil, or_false, or_self, false_or, true_implies, false_implies, not_true_eq_false, not_false_eq_true, nI00, nI10, nI01, nI11, forall_const, implies_true]
      refine ⟨e32, by decide, ?_⟩
      refine c_putByte okk ?_
      refine ⟨by decide, ?_⟩
      rintro _ rfl
      exact vc_back P0_ok ok_X7_putNumber [4, 19, 32] 8 t_X7_putNumber_4 ih (by simp [e2]) rfl
    simp only [↓w_X7_putNumber_0, ↓w_X7_putNumber_4, ↓w_X7_putNumber_32, ↓w_X7_putNumber_40, ↓v_X7_putNumber_4, ↓v_X7_putNumber_19, ↓v_X7_putNumber_32, ↓v_X7_putNumber_40, ↓b_aload_n, ↓b_bipush, ↓b_callV2_0, ↓b_goto, ↓b_iadd, ↓b_ic_ge, ↓b_ic_lt, ↓b_ic_ne, ↓b_iconst, ↓b_idiv, ↓b_iload_n, ↓b_irem, ↓n_istore_n, ↓b_sipush, ↓b_vret, ↓ldI_hit, ↓ldI_skip, ↓ldL_hit, ↓ldL_skip, ↓ldA_hit, ↓ldA_skip, ↓ldelK_nil, ↓ldelK_hit, ↓ldelK_skipI, ↓ldelK_skipA, ↓ldelK_skipL, lget_hit, lget_skip, ldel_nil, ldel_hit, ldel_skipI, ldel_skipA, ldel_skipL, ldel2_nil, ldel2_hit, ldel2_hit2, ldel2_skipI, ldel2_skipA, ldel2_skipL, vc_0, mCall_P0, mCat_nil, mCat_I, mCat_L, mCat_A, mRcv_A, mArg_nil, mArg_I, mArg_L, mArg_A, tsg, swt_nil, swt_cons, lkw_nil, lkw_cons, ↓reduceIte, Nat.reduceAdd, Nat.reduceEqDiff, Nat.reduceLeDiff, Nat.reduceMul, true_and, and_true, and_self, List.mem_cons, List.not_mem_nil, or_false, or_self, false_or, true_implies, false_implies, not_true_eq_false, not_false_eq_true, nI00, nI10, nI01, nI11, forall_const, implies_true]
    refine ⟨fun hc => absurd hc e31, fun _ => ⟨fun hc => vc_back P0_ok ok_X7_putNumber [4, 19, 32] 8 t_X7_putNumber_19 (put (Or.inl hc)) (by simp) rfl, fun hc => ⟨fun h4 => ?_, fun h4 => ?_⟩⟩⟩
    · refine fin T1 ?_
      unfold digF
      rw [if_neg (fun z => z.elim hc (fun q => h4 (e33.mpr q)))]
    · exact put (Or.inr (e33.mp h4))
end MTx
