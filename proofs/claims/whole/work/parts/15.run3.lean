theorem up_row {α : Type} {f : Nat → α} {i j : Nat} {v : α} (h : j ≠ i) : va_up f i v j = f j := up_off j h
def emptyF (R : Bk) : Bk :=
  va_up (va_up (va_up (va_up (va_up (va_up (va_up (va_up (va_up (va_up (va_up (u2 R 0 0 (nI 0)) 1 (fillR 48 (nI 0) (R 1))) 2 (fillR 48 (nI 0) (R 2))) 3 (fillR 48 (nI 0) (R 3))) 4 (fillR 48 (nI 0) (R 4))) 5 (fillR 6 (nI 0) (R 5))) 6 (fillR 6 (nI 0) (R 6))) 7 (fillR 6 (nI 0) (R 7))) 8 (fillR 8 (nI 0) (R 8))) 9 (fillR 8 (-1) (R 9))) 10 (fillR 8 (nI 0) (R 10))) 11 (fillR 36 (nI 0) (R 11))
def startF (B R : Bk) : Bk := va_up (emptyF R) 1 (va_cpy (B 9) (emptyF R 1) 0 0 48)
section MR5
variable {X : mC} {h r b : Nat} {K : MV → Mem → Prop} {μ : Mem} {R : Bk} {G W : Nat}
theorem c_startEmpty (hK : K (.inl 0) (sb μ r 12 (emptyF R))) : mMet X (h + 2) m_X4_startEmpty [.inr (.inr (3, 0, r))] (sb μ r 12 R) K := by
  refine vc_met2 P0_ok ok_X4_startEmpty cm_X4_startEmpty [] 4 t_X4_startEmpty_0 (Nat.le_of_ble_eq_true rfl) ?_
  simp only [mArg_nil, mArg_I, mArg_L, mArg_A, Nat.reduceAdd]
  simp only [↓w_X4_startEmpty_0, ↓b_aload_n, ↓b_callS2_0, ↓b_getA, ↓b_iconst, ↓n_putI, ↓b_vret, ↓ldI_hit, ↓ldI_skip, ↓ldL_hit, ↓ldL_skip, ↓ldA_hit, ↓ldA_skip, ↓ldelK_nil, ↓ldelK_hit, ↓ldelK_skipI, ↓ldelK_skipA, ↓ldelK_skipL, lget_hit, lget_skip, ldel_nil, ldel_hit, ldel_skipI, ldel_skipA, ldel_skipL, ldel2_nil, ldel2_hit, ldel2_hit2, ldel2_skipI, ldel2_skipA, ldel2_skipL, vc_0, mCall_P0, mCat_nil, mCat_I, mCat_L, mCat_A, mRcv_A, mArg_nil, mArg_I, mArg_L, mArg_A, tsg, swt_nil, swt_cons, lkw_nil, lkw_cons, ↓reduceIte, Nat.reduceAdd, Nat.reduceEqDiff, Nat.reduceLeDiff, Nat.reduceMul, true_and, and_true, and_self, List.mem_cons, List.not_mem_nil, or_false, or_self, false_or, true_implies, false_implies, not_true_eq_false, not_false_eq_true, nI00, nI10, nI01, nI11, forall_const, implies_true]
  simp (disch := omega) only [ixq, ixz, sb_in, sb_in0, upI_sb, upI_sb0, sb_out, nI_add, nI_mul, nI_subq, Nat.zero_add, forall_eq, u2_at, u2_row, upd_at, upd_ne, nI0b, nI1b, nI00, nI10, nI01, nI11, true_implies, false_implies, not_true_eq_false, not_false_eq_true, and_true, true_and, implies_true]
  iterate 11 (
    refine c_fill (by omega) ?_
    try simp (disch := omega) only [ixq, ixz, sb_in, sb_in0, upI_sb, upI_sb0, sb_out, nI_add, nI_mul, nI_subq, Nat.zero_add, forall_eq, u2_at, u2_row, upd_at, upd_ne, nI0b, nI1b, nI00, nI10, nI01, nI11, true_implies, false_implies, not_true_eq_false, not_false_eq_true, and_true, true_and, implies_true, cp_sb, up_row])
  exact hK
theorem c_startAsTold {B : Bk} (hB : ∀ k, k < 12 → μ.1 (b + k) = B k) (hd : b + 12 ≤ r ∨ r + 12 ≤ b) (hK : K (.inl 0) (sb μ r 12 (startF B R))) : mMet X (h + 3) m_X4_startAsTold [.inr (.inr (3, 0, r)), .inr (.inr (0, 0, b))] (sb μ r 12 R) K := by
  refine vc_met2 P0_ok ok_X4_startAsTold cm_X4_startAsTold [] 4 t_X4_startAsTold_0 (Nat.le_of_ble_eq_true rfl) ?_
  simp only [mArg_nil, mArg_I, mArg_L, mArg_A, Nat.reduceAdd]
  simp only [↓w_X4_startAsTold_0, ↓b_aload_n, ↓b_bipush, ↓b_callV1_0, ↓n_copy, ↓b_getA, ↓b_iconst, ↓b_vret, ↓ldI_hit, ↓ldI_skip, ↓ldL_hit, ↓ldL_skip, ↓ldA_hit, ↓ldA_skip, ↓ldelK_nil, ↓ldelK_hit, ↓ldelK_skipI, ↓ldelK_skipA, ↓ldelK_skipL, lget_hit, lget_skip, ldel_nil, ldel_hit, ldel_skipI, ldel_skipA, ldel_skipL, ldel2_nil, ldel2_hit, ldel2_hit2, ldel2_skipI, ldel2_skipA, ldel2_skipL, vc_0, mCall_P0, mCat_nil, mCat_I, mCat_L, mCat_A, mRcv_A, mArg_nil, mArg_I, mArg_L, mArg_A, tsg, swt_nil, swt_cons, lkw_nil, lkw_cons, ↓reduceIte, Nat.reduceAdd, Nat.reduceEqDiff, Nat.reduceLeDiff, Nat.reduceMul, true_and, and_true, and_self, List.mem_cons, List.not_mem_nil, or_false, or_self, false_or, true_implies, false_implies, not_true_eq_false, not_false_eq_true, nI00, nI10, nI01, nI11, forall_const, implies_true]
  refine c_startEmpty ?_
  refine ⟨0, 0, 48, rfl, rfl, rfl, by decide, by decide, ?_⟩
  simp (disch := omega) only [ixq, ixz, sb_in, sb_in0, upI_sb, upI_sb0, sb_out, nI_add, nI_mul, nI_subq, Nat.zero_add, forall_eq, u2_at, u2_row, upd_at, upd_ne, nI0b, nI1b, nI00, nI10, nI01, nI11, true_implies, false_implies, not_true_eq_false, not_false_eq_true, and_true, true_and, implies_true, cp_sb, up_row, hB]
  exact hK
/-- what all have made -/
def totF (W : Nat) (B R : Bk) : Int32 := fo W (fun w s => s + R 8 w * B 6 w) (nI 0)
theorem c_total {B : Bk} (hB : ∀ k, k < 12 → μ.1 (b + k) = B k) (hR : ∀ k, k < 12 → μ.1 (r + k) = R k) (hW : B 0 1 = nI W) (hW8 : W ≤ 8) (hK : K (.inl (totF W B R)) μ) : mMet X (h + 1) m_X4_total [.inr (.inr (3, 0, r)), .inr (.inr (0, 0, b))] μ K := by
  have hB0 : μ.1 b = B 0 := hB 0 (by omega)
  refine vc_met2 P0_ok ok_X4_total cm_X4_total [4] 4 t_X4_total_0 (Nat.le_of_ble_eq_true rfl) ?_
  simp only [mArg_nil, mArg_I, mArg_L, mArg_A, Nat.reduceAdd]
  simp only [↓w_X4_total_0, ↓w_X4_total_34, ↓v_X4_total_4, ↓v_X4_total_34, ↓b_aload_n, ↓b_getA, ↓b_getI, ↓b_goto, ↓b_iadd, ↓b_iaload, ↓b_ic_ge, ↓b_iconst, ↓n_iinc, ↓b_iload_n, ↓b_imul, ↓b_iret, ↓n_istore_n, ↓ldI_hit, ↓ldI_skip, ↓ldL_hit, ↓ldL_skip, ↓ldA_hit, ↓ldA_skip, ↓ldelK_nil, ↓ldelK_hit, ↓ldelK_skipI, ↓ldelK_skipA, ↓ldelK_skipL, lget_hit, lget_skip, ldel_nil, ldel_hit, ldel_skipI, ldel_skipA, ldel_skipL, ldel2_nil, ldel2_hit, ldel2_hit2, ldel2_skipI, ldel2_skipA, ldel2_skipL, vc_0, mCall_P0, mCat_nil, mCat_I, mCat_L, mCat_A, mRcv_A, mArg_nil, mArg_I, mArg_L, mArg_A, tsg, swt_nil, swt_cons, lkw_nil, lkw_cons, ↓reduceIte, Nat.reduceAdd, Nat.reduceEqDiff, Nat.reduceLeDiff, Nat.reduceMul, true_and, and_true, and_self, List.mem_cons, List.not_mem_nil, or_false, or_self, false_or, true_implies, false_implies, not_true_eq_false, not_false_eq_true, nI00, nI10, nI01, nI11, forall_const, implies_true]
  rintro _ rfl _ rfl
  refine loop_up (fun w => bb X P0 m_X4_total (h) K (vc X P0 m_X4_total (h) K k_X4_total [4] 4) s_X4_total_4 [(3, .inl (nI w)), (2, .inl (fo w (fun w s => s + R 8 w * B 6 w) (nI 0))), (0, .inr (.inr (3, 0, r))), (1, .inr (.inr (0, 0, b)))] [] μ) W ?_ ?_
  · simp only [↓w_X4_total_0, ↓w_X4_total_4, ↓w_X4_total_34, ↓v_X4_total_4, ↓v_X4_total_34, ↓b_aload_n, ↓b_getA, ↓b_getI, ↓b_goto, ↓b_iadd, ↓b_iaload, ↓b_ic_ge, ↓b_iconst, ↓n_iinc, ↓b_iload_n, ↓b_imul, ↓b_iret, ↓n_istore_n, ↓ldI_hit, ↓ldI_skip, ↓ldL_hit, ↓ldL_skip, ↓ldA_hit, ↓ldA_skip, ↓ldelK_nil, ↓ldelK_hit, ↓ldelK_skipI, ↓ldelK_skipA, ↓ldelK_skipL, lget_hit, lget_skip, ldel_nil, ldel_hit, ldel_skipI, ldel_skipA, ldel_skipL, ldel2_nil, ldel2_hit, ldel2_hit2, ldel2_skipI, ldel2_skipA, ldel2_skipL, vc_0, mCall_P0, mCat_nil, mCat_I, mCat_L, mCat_A, mRcv_A, mArg_nil, mArg_I, mArg_L, mArg_A, tsg, swt_nil, swt_cons, lkw_nil, lkw_cons, ↓reduceIte, Nat.reduceAdd, Nat.reduceEqDiff, Nat.reduceLeDiff, Nat.reduceMul, true_and, and_true, and_self, List.mem_cons, List.not_mem_nil, or_false, or_self, false_or, true_implies, false_implies, not_true_eq_false, not_false_eq_true, nI00, nI10, nI01, nI11, forall_const, implies_true]
    simp (disch := omega) only [ixq, ixz, sb_in, sb_in0, upI_sb, upI_sb0, sb_out, nI_add, nI_mul, nI_subq, Nat.zero_add, forall_eq, u2_at, u2_row, upd_at, upd_ne, nI0b, nI1b, nI00, nI10, nI01, nI11, true_implies, false_implies, not_true_eq_false, not_false_eq_true, and_true, true_and, implies_true, hB, hB0, hW, nI_lq]
    exact ⟨fun _ => hK, fun hc => absurd (Nat.le_refl W) hc⟩
  · intro w hw ih
    rw [fo_s] at ih
    simp only [↓w_X4_total_0, ↓w_X4_total_4, ↓w_X4_total_34, ↓v_X4_total_4, ↓v_X4_total_34, ↓b_aload_n, ↓b_getA, ↓b_getI, ↓b_goto, ↓b_iadd, ↓b_iaload, ↓b_ic_ge, ↓b_iconst, ↓n_iinc, ↓b_iload_n, ↓b_imul, ↓b_iret, ↓n_istore_n, ↓ldI_hit, ↓ldI_skip, ↓ldL_hit, ↓ldL_skip, ↓ldA_hit, ↓ldA_skip, ↓ldelK_nil, ↓ldelK_hit, ↓ldelK_skipI, ↓ldelK_skipA, ↓ldelK_skipL, lget_hit, lget_skip, ldel_nil, ldel_hit, ldel_skipI, ldel_skipA, ldel_skipL, ldel2_nil, ldel2_hit, ldel2_hit2, ldel2_skipI, ldel2_skipA, ldel2_skipL, vc_0, mCall_P0, mCat_nil, mCat_I, mCat_L, mCat_A, mRcv_A, mArg_nil, mArg_I, mArg_L, mArg_A, tsg, swt_nil, swt_cons, lkw_nil, lkw_cons, ↓reduceIte, Nat.reduceAdd, Nat.reduceEqDiff, Nat.reduceLeDiff, Nat.reduceMul, true_and, and_true, and_self, List.mem_cons, List.not_mem_nil, or_false, or_self, false_or, true_implies, false_implies, not_true_eq_false, not_false_eq_true, nI00, nI10, nI01, nI11, forall_const, implies_true]
    simp (disch := omega) only [ixq, ixz, sb_in, sb_in0, upI_sb, upI_sb0, sb_out, nI_add, nI_mul, nI_subq, Nat.zero_add, forall_eq, u2_at, u2_row, upd_at, upd_ne, nI0b, nI1b, nI00, nI10, nI01, nI11, true_implies, false_implies, not_true_eq_false, not_false_eq_true, and_true, true_and, implies_true, hB, hB0, hR, hW, nI_lq]
    refine ⟨fun hc => absurd hc (by omega), fun _ => ?_⟩
    exact vc_back P0_ok ok_X4_total [4] 4 t_X4_total_4 ih (by simp) rfl
def inVatsF (g : Nat) (R : Bk) : Int32 := fo 8 (fun w s => s + R 1 (w * 6 + g)) (nI 0)
theorem c_inVats {g : Nat} (hg : g < 6) (hR : ∀ k, k < 12 → μ.1 (r + k) = R k) (hK : K (.inl (inVatsF g R)) μ) : mMet X (h + 1) m_X4_inVats [.inr (.inr (3, 0, r)), .inl (nI g)] μ K := by
  refine vc_met2 P0_ok ok_X4_inVats cm_X4_inVats [4] 4 t_X4_inVats_0 (Nat.le_of_ble_eq_true rfl) ?_
  simp only [mArg_nil, mArg_I, mArg_L, mArg_A, Nat.reduceAdd]
  simp only [↓w_X4_inVats_0, ↓w_X4_inVats_30, ↓v_X4_inVats_4, ↓v_X4_inVats_30, ↓b_aload_n, ↓b_bipush, ↓b_getA, ↓b_goto, ↓b_iadd, ↓b_iaload, ↓b_ic_ge, ↓b_iconst, ↓n_iinc, ↓b_iload_n, ↓b_imul, ↓b_iret, ↓n_istore_n, ↓ldI_hit, ↓ldI_skip, ↓ldL_hit, ↓ldL_skip, ↓ldA_hit, ↓ldA_skip, ↓ldelK_nil, ↓ldelK_hit, ↓ldelK_skipI, ↓ldelK_skipA, ↓ldelK_skipL, lget_hit, lget_skip, ldel_nil, ldel_hit, ldel_skipI, ldel_skipA, ldel_skipL, ldel2_nil, ldel2_hit, ldel2_hit2, ldel2_skipI, ldel2_skipA, ldel2_skipL, vc_0, mCall_P0, mCat_nil, mCat_I, mCat_L, mCat_A, mRcv_A, mArg_nil, mArg_I, mArg_L, mArg_A, tsg, swt_nil, swt_cons, lkw_nil, lkw_cons, ↓reduceIte, Nat.reduceAdd, Nat.reduceEqDiff, Nat.reduceLeDiff, Nat.reduceMul, true_and, and_true, and_self, List.mem_cons, List.not_mem_nil, or_false, or_self, false_or, true_implies, false_implies, not_true_eq_false, not_false_eq_true, nI00, nI10, nI01, nI11, forall_const, implies_true]
  rintro _ rfl _ rfl
  refine loop_up (fun w => bb X P0 m_X4_inVats (h) K (vc X P0 m_X4_inVats (h) K k_X4_inVats [4] 4) s_X4_inVats_4 [(3, .inl (nI w)), (2, .inl (fo w (fun w s => s + R 1 (w * 6 + g)) (nI 0))), (0, .inr (.inr (3, 0, r))), (1, .inl (nI g))] [] μ) 8 ?_ ?_
  · simp only [↓w_X4_inVats_0, ↓w_X4_inVats_4, ↓w_X4_inVats_30, ↓v_X4_inVats_4, ↓v_X4_inVats_30, ↓b_aload_n, ↓b_bipush, ↓b_getA, ↓b_goto, ↓b_iadd, ↓b_iaload, ↓b_ic_ge, ↓b_iconst, ↓n_iinc, ↓b_iload_n, ↓b_imul, ↓b_iret, ↓n_istore_n, ↓ldI_hit, ↓ldI_skip, ↓ldL_hit, ↓ldL_skip, ↓ldA_hit, ↓ldA_skip, ↓ldelK_nil, ↓ldelK_hit, ↓ldelK_skipI, ↓ldelK_skipA, ↓ldelK_skipL, lget_hit, lget_skip, ldel_nil, ldel_hit, ldel_skipI, ldel_skipA, ldel_skipL, ldel2_nil, ldel2_hit, ldel2_hit2, ldel2_skipI, ldel2_skipA, ldel2_skipL, vc_0, mCall_P0, mCat_nil, mCat_I, mCat_L, mCat_A, mRcv_A, mArg_nil, mArg_I, mArg_L, mArg_A, tsg, swt_nil, swt_cons, lkw_nil, lkw_cons, ↓reduceIte, Nat.reduceAdd, Nat.reduceEqDiff, Nat.reduceLeDiff, Nat.reduceMul, true_and, and_true, and_self, List.mem_cons, List.not_mem_nil, or_false, or_self, false_or, true_implies, false_implies, not_true_eq_false, not_false_eq_true, nI00, nI10, nI01, nI11, forall_const, implies_true]
    simp (disch := omega) only [ixq, ixz, sb_in, sb_in0, upI_sb, upI_sb0, sb_out, nI_add, nI_mul, nI_subq, Nat.zero_add, forall_eq, u2_at, u2_row, upd_at, upd_ne, nI0b, nI1b, nI00, nI10, nI01, nI11, true_implies, false_implies, not_true_eq_false, not_false_eq_true, and_true, true_and, implies_true, nI_lq]
    exact ⟨fun _ => hK, fun hc => absurd (Nat.le_refl 8) hc⟩
  · intro w hw ih
    rw [fo_s] at ih
    simp only [↓w_X4_inVats_0, ↓w_X4_inVats_4, ↓w_X4_inVats_30, ↓v_X4_inVats_4, ↓v_X4_inVats_30, ↓b_aload_n, ↓b_bipush, ↓b_getA, ↓b_goto, ↓b_iadd, ↓b_iaload, ↓b_ic_ge, ↓b_iconst, ↓n_iinc, ↓b_iload_n, ↓b_imul, ↓b_iret, ↓n_istore_n, ↓ldI_hit, ↓ldI_skip, ↓ldL_hit, ↓ldL_skip, ↓ldA_hit, ↓ldA_skip, ↓ldelK_nil, ↓ldelK_hit, ↓ldelK_skipI, ↓ldelK_skipA, ↓ldelK_skipL, lget_hit, lget_skip, ldel_nil, ldel_hit, ldel_skipI, ldel_skipA, ldel_skipL, ldel2_nil, ldel2_hit, ldel2_hit2, ldel2_skipI, ldel2_skipA, ldel2_skipL, vc_0, mCall_P0, mCat_nil, mCat_I, mCat_L, mCat_A, mRcv_A, mArg_nil, mArg_I, mArg_L, mArg_A, tsg, swt_nil, swt_cons, lkw_nil, lkw_cons, ↓reduceIte, Nat.reduceAdd, Nat.reduceEqDiff, Nat.reduceLeDiff, Nat.reduceMul, true_and, and_true, and_self, List.mem_cons, List.not_mem_nil, or_false, or_self, false_or, true_implies, false_implies, not_true_eq_false, not_false_eq_true, nI00, nI10, nI01, nI11, forall_const, implies_true]
    simp (disch := omega) only [ixq, ixz, sb_in, sb_in0, upI_sb, upI_sb0, sb_out, nI_add, nI_mul, nI_subq, Nat.zero_add, forall_eq, u2_at, u2_row, upd_at, upd_ne, nI0b, nI1b, nI00, nI10, nI01, nI11, true_implies, false_implies, not_true_eq_false, not_false_eq_true, and_true, true_and, implies_true, hR, nI_lq]
    refine ⟨fun hc => absurd hc (by omega), fun _ => ?_⟩
    exact vc_back P0_ok ok_X4_inVats [4] 4 t_X4_inVats_4 ih (by simp) rfl
/-- a condition as a number -/
def bI (c : Prop) [Decidable c] : Int32 := if c then nI 1 else nI 0
theorem bI_t {c : Prop} [Decidable c] (h : c) : bI c = nI 1 := if_pos h
theorem bI_f {c : Prop} [Decidable c] (h : ¬ c) : bI c = nI 0 := if_neg h
theorem bI_0 {c : Prop} [Decidable c] : (bI c = 0) = ¬ c := by
  apply propext
  by_cases h : c
  · rw [bI_t h]; exact ⟨fun z => absurd z (by decide), fun z => absurd h z⟩
  · rw [bI_f h]; exact ⟨fun _ => h, fun _ => rfl⟩
theorem bI_b {c : Prop} [Decidable c] : (bI c = 0 ∨ bI c = 1) = True := by
  apply propext
  refine ⟨fun _ => trivial, fun _ => ?_⟩
  by_cases h : c
  · rw [bI_t h]; exact Or.inr rfl
  · rw [bI_f h]; exact Or.inl rfl
theorem c_wentLately {w : Nat} (hw : w < 8) (hR : ∀ k, k < 12 → μ.1 (r + k) = R k) (hK : K (.inl (bI (0 < R 8 w ∧ R 9 w = R 0 0 - nI 1))) μ) : mMet X (h + 1) m_X4_wentLately [.inr (.inr (3, 0, r)), .inl (nI w)] μ K := by
  have hR0 : μ.1 r = R 0 := hR 0 (by omega)
  refine vc_met2 P0_ok ok_X4_wentLately cm_X4_wentLately [] 4 t_X4_wentLately_0 (Nat.le_of_ble_eq_true rfl) ?_
  simp only [mArg_nil, mArg_I, mArg_L, mArg_A, Nat.reduceAdd]
  simp only [↓w_X4_wentLately_0, ↓w_X4_wentLately_28, ↓w_X4_wentLately_29, ↓v_X4_wentLately_28, ↓v_X4_wentLately_29, ↓b_aload_n, ↓b_getA, ↓b_getI, ↓b_goto, ↓b_iaload, ↓b_ic_ne, ↓b_iconst, ↓b_if_le, ↓b_iload_n, ↓b_isub, ↓b_zret, ↓ldI_hit, ↓ldI_skip, ↓ldL_hit, ↓ldL_skip, ↓ldA_hit, ↓ldA_skip, ↓ldelK_nil, ↓ldelK_hit, ↓ldelK_skipI, ↓ldelK_skipA, ↓ldelK_skipL, lget_hit, lget_skip, ldel_nil, ldel_hit, ldel_skipI, ldel_skipA, ldel_skipL, ldel2_nil, ldel2_hit, ldel2_hit2, ldel2_skipI, ldel2_skipA, ldel2_skipL, vc_0, mCall_P0, mCat_nil, mCat_I, mCat_L, mCat_A, mRcv_A, mArg_nil, mArg_I, mArg_L, mArg_A, tsg, swt_nil, swt_cons, lkw_nil, lkw_cons, ↓reduceIte, Nat.reduceAdd, Nat.reduceEqDiff, Nat.reduceLeDiff, Nat.reduceMul, true_and, and_true, and_self, List.mem_cons, List.not_mem_nil, or_false, or_self, false_or, true_implies, false_implies, not_true_eq_false, not_false_eq_true, nI00, nI10, nI01, nI11, forall_const, implies_true]
  simp (disch := omega) only [ixq, ixz, sb_in, sb_in0, upI_sb, upI_sb0, sb_out, nI_add, nI_mul, nI_subq, Nat.zero_add, forall_eq, u2_at, u2_row, upd_at, upd_ne, nI0b, nI1b, nI00, nI10, nI01, nI11, true_implies, false_implies, not_true_eq_false, not_false_eq_true, and_true, true_and, implies_true, hR, hR0]
  refine ⟨fun hc => ?_, fun hc => ⟨fun hc2 => ?_, fun hc2 => ?_⟩⟩
  · rw [bI_f (fun z => absurd hc (Int32.not_le.mpr z.1))] at hK
    exact hK
  · rw [bI_f (fun z => hc2 z.2)] at hK
    exact hK
  · rw [bI_t ⟨Int32.not_le.mp hc, hc2⟩] at hK
    exact hK
end MR5
