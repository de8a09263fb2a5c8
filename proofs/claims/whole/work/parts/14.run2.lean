def fillR (n : Nat) (x : Int32) (f : Nat → Int32) : Nat → Int32 := fun j => if j < n then x else f j
theorem fillR_0 {x : Int32} {f : Nat → Int32} : fillR 0 x f = f := funext fun j => if_neg (Nat.not_lt_zero j)
theorem fillR_s {n : Nat} {x : Int32} {f : Nat → Int32} : upd (fillR n x f) n x = fillR (n + 1) x f := by
  funext j
  unfold upd fillR
  by_cases h1 : j = n
  · rw [if_pos h1, if_pos (by omega)]
  · rw [if_neg h1]
    by_cases h2 : j < n
    · rw [if_pos h2, if_pos (by omega)]
    · rw [if_neg h2, if_neg (by omega)]
section MR4
variable {X : mC} {h r b : Nat} {K : MV → Mem → Prop} {μ : Mem} {R : Bk} {G W : Nat}
theorem cp_up {i k : Nat} {x : Int32} {f : Nat → Int32} : upI (cpI μ i f) i k x = cpI μ i (upd f k x) := by
  unfold upI cpI
  refine Prod.ext (funext fun j => ?_) rfl
  show va_up (va_up μ.1 i f) i (upd (va_up μ.1 i f i) k x) j = va_up μ.1 i (upd f k x) j
  rw [up_at]
  by_cases hj : j = i
  · subst hj; rw [up_at, up_at]
  · rw [up_off j hj, up_off j hj, up_off j hj]
theorem cp_id {i : Nat} : cpI μ i (μ.1 i) = μ := by
  refine Prod.ext (funext fun j => ?_) rfl
  show va_up μ.1 i (μ.1 i) j = μ.1 j
  by_cases hj : j = i
  · subst hj; rw [up_at]
  · rw [up_off j hj]
theorem c_fill {n i : Nat} {x : Int32} (hn : n < 20000) (hK : K (.inl 0) (cpI μ i (fillR n x (μ.1 i)))) : mMet X (h + 1) m_J7_fill_53178 [.inr (.inr (16, n, i)), .inl x] μ K := by
  refine vc_met2 P0_ok ok_J7_fill_53178 cm_J7_fill_53178 [5] 4 t_J7_fill_53178_0 (Nat.le_of_ble_eq_true rfl) ?_
  simp only [mArg_nil, mArg_I, mArg_L, mArg_A, Nat.reduceAdd]
  simp only [↓w_J7_fill_53178_0, ↓w_J7_fill_53178_20, ↓v_J7_fill_53178_5, ↓v_J7_fill_53178_20, ↓b_alen, ↓b_aload_n, ↓b_goto, ↓n_iastore, ↓b_ic_ge, ↓b_iconst, ↓n_iinc, ↓b_iload_n, ↓n_istore_n, ↓b_vret, ↓ldI_hit, ↓ldI_skip, ↓ldL_hit, ↓ldL_skip, ↓ldA_hit, ↓ldA_skip, ↓ldelK_nil, ↓ldelK_hit, ↓ldelK_skipI, ↓ldelK_skipA, ↓ldelK_skipL, lget_hit, lget_skip, ldel_nil, ldel_hit, ldel_skipI, ldel_skipA, ldel_skipL, ldel2_nil, ldel2_hit, ldel2_hit2, ldel2_skipI, ldel2_skipA, ldel2_skipL, vc_0, mCall_P0, mCat_nil, mCat_I, mCat_L, mCat_A, mRcv_A, mArg_nil, mArg_I, mArg_L, mArg_A, tsg, swt_nil, swt_cons, lkw_nil, lkw_cons, ↓reduceIte, Nat.reduceAdd, Nat.reduceEqDiff, Nat.reduceLeDiff, Nat.reduceMul, true_and, and_true, and_self, List.mem_cons, List.not_mem_nil, or_false, or_self, false_or, true_implies, false_implies, not_true_eq_false, not_false_eq_true, nI00, nI10, nI01, nI11, forall_const, implies_true]
  rintro _ rfl _ rfl
  have := loop_up (fun k => bb X P0 m_J7_fill_53178 (h) K (vc X P0 m_J7_fill_53178 (h) K k_J7_fill_53178 [5] 4) s_J7_fill_53178_5 [(3, .inl (nI n)), (2, .inl (nI k)), (0, .inr (.inr (16, n, i))), (1, .inl x)] [] (cpI μ i (fillR k x (μ.1 i)))) n ?_ ?_
  · rw [fillR_0, cp_id] at this
    exact this
  · simp only [↓w_J7_fill_53178_0, ↓w_J7_fill_53178_5, ↓w_J7_fill_53178_20, ↓v_J7_fill_53178_5, ↓v_J7_fill_53178_20, ↓b_alen, ↓b_aload_n, ↓b_goto, ↓n_iastore, ↓b_ic_ge, ↓b_iconst, ↓n_iinc, ↓b_iload_n, ↓n_istore_n, ↓b_vret, ↓ldI_hit, ↓ldI_skip, ↓ldL_hit, ↓ldL_skip, ↓ldA_hit, ↓ldA_skip, ↓ldelK_nil, ↓ldelK_hit, ↓ldelK_skipI, ↓ldelK_skipA, ↓ldelK_skipL, lget_hit, lget_skip, ldel_nil, ldel_hit, ldel_skipI, ldel_skipA, ldel_skipL, ldel2_nil, ldel2_hit, ldel2_hit2, ldel2_skipI, ldel2_skipA, ldel2_skipL, vc_0, mCall_P0, mCat_nil, mCat_I, mCat_L, mCat_A, mRcv_A, mArg_nil, mArg_I, mArg_L, mArg_A, tsg, swt_nil, swt_cons, lkw_nil, lkw_cons, ↓reduceIte, Nat.reduceAdd, Nat.reduceEqDiff, Nat.reduceLeDiff, Nat.reduceMul, true_and, and_true, and_self, List.mem_cons, List.not_mem_nil, or_false, or_self, false_or, true_implies, false_implies, not_true_eq_false, not_false_eq_true, nI00, nI10, nI01, nI11, forall_const, implies_true]
    simp (disch := omega) only [ixq, ixz, sb_in, sb_in0, upI_sb, upI_sb0, sb_out, nI_add, nI_mul, nI_subq, Nat.zero_add, forall_eq, u2_at, u2_row, upd_at, upd_ne, nI0b, nI1b, nI00, nI10, nI01, nI11, true_implies, false_implies, not_true_eq_false, not_false_eq_true, and_true, true_and, implies_true, nI_lq]
    exact ⟨fun _ => hK, fun hc => absurd (Nat.le_refl n) hc⟩
  · intro k hk ih
    simp only [↓w_J7_fill_53178_0, ↓w_J7_fill_53178_5, ↓w_J7_fill_53178_20, ↓v_J7_fill_53178_5, ↓v_J7_fill_53178_20, ↓b_alen, ↓b_aload_n, ↓b_goto, ↓n_iastore, ↓b_ic_ge, ↓b_iconst, ↓n_iinc, ↓b_iload_n, ↓n_istore_n, ↓b_vret, ↓ldI_hit, ↓ldI_skip, ↓ldL_hit, ↓ldL_skip, ↓ldA_hit, ↓ldA_skip, ↓ldelK_nil, ↓ldelK_hit, ↓ldelK_skipI, ↓ldelK_skipA, ↓ldelK_skipL, lget_hit, lget_skip, ldel_nil, ldel_hit, ldel_skipI, ldel_skipA, ldel_skipL, ldel2_nil, ldel2_hit, ldel2_hit2, ldel2_skipI, ldel2_skipA, ldel2_skipL, vc_0, mCall_P0, mCat_nil, mCat_I, mCat_L, mCat_A, mRcv_A, mArg_nil, mArg_I, mArg_L, mArg_A, tsg, swt_nil, swt_cons, lkw_nil, lkw_cons, ↓reduceIte, Nat.reduceAdd, Nat.reduceEqDiff, Nat.reduceLeDiff, Nat.reduceMul, true_and, and_true, and_self, List.mem_cons, List.not_mem_nil, or_false, or_self, false_or, true_implies, false_implies, not_true_eq_false, not_false_eq_true, nI00, nI10, nI01, nI11, forall_const, implies_true]
    simp (disch := omega) only [ixq, ixz, sb_in, sb_in0, upI_sb, upI_sb0, sb_out, nI_add, nI_mul, nI_subq, Nat.zero_add, forall_eq, u2_at, u2_row, upd_at, upd_ne, nI0b, nI1b, nI00, nI10, nI01, nI11, true_implies, false_implies, not_true_eq_false, not_false_eq_true, and_true, true_and, implies_true, nI_lq, cp_up, fillR_s]
    refine ⟨fun hc => absurd hc (by omega), fun _ => ?_⟩
    exact vc_back P0_ok ok_J7_fill_53178 [5] 4 t_J7_fill_53178_5 ih (by simp) rfl
theorem c_passMany {n : Nat} {B : Bk} {free : Int32} (hn : n < 2 ^ 31) (hB : ∀ k, k < 12 → μ.1 (b + k) = B k) (hG : B 0 0 = nI G) (hG6 : G ≤ 6) (hW : B 0 1 = nI W) (hW8 : W ≤ 8) (hd : b + 12 ≤ r ∨ r + 12 ≤ b) (hK : K (.inl 0) (sb μ r 12 (fo n (fun _ => passF G W B free) R))) : mMet X (h + 4) m_X4_passMany [.inr (.inr (3, 0, r)), .inr (.inr (0, 0, b)), .inl free, .inl (nI n)] (sb μ r 12 R) K := by
  refine vc_met2 P0_ok ok_X4_passMany cm_X4_passMany [3] 4 t_X4_passMany_0 (Nat.le_of_ble_eq_true rfl) ?_
  simp only [mArg_nil, mArg_I, mArg_L, mArg_A, Nat.reduceAdd]
  simp only [↓w_X4_passMany_0, ↓w_X4_passMany_21, ↓v_X4_passMany_3, ↓v_X4_passMany_21, ↓b_aload_n, ↓b_callV3_0, ↓b_goto, ↓b_ic_ge, ↓b_iconst, ↓n_iinc, ↓b_iload, ↓b_iload_n, ↓n_istore, ↓b_vret, ↓ldI_hit, ↓ldI_skip, ↓ldL_hit, ↓ldL_skip, ↓ldA_hit, ↓ldA_skip, ↓ldelK_nil, ↓ldelK_hit, ↓ldelK_skipI, ↓ldelK_skipA, ↓ldelK_skipL, lget_hit, lget_skip, ldel_nil, ldel_hit, ldel_skipI, ldel_skipA, ldel_skipL, ldel2_nil, ldel2_hit, ldel2_hit2, ldel2_skipI, ldel2_skipA, ldel2_skipL, vc_0, mCall_P0, mCat_nil, mCat_I, mCat_L, mCat_A, mRcv_A, mArg_nil, mArg_I, mArg_L, mArg_A, tsg, swt_nil, swt_cons, lkw_nil, lkw_cons, ↓reduceIte, Nat.reduceAdd, Nat.reduceEqDiff, Nat.reduceLeDiff, Nat.reduceMul, true_and, and_true, and_self, List.mem_cons, List.not_mem_nil, or_false, or_self, false_or, true_implies, false_implies, not_true_eq_false, not_false_eq_true, nI00, nI10, nI01, nI11, forall_const, implies_true]
  rintro _ rfl
  refine loop_up (fun k => bb X P0 m_X4_passMany (h + 3) K (vc X P0 m_X4_passMany (h + 3) K k_X4_passMany [3] 4) s_X4_passMany_3 [(4, .inl (nI k)), (0, .inr (.inr (3, 0, r))), (1, .inr (.inr (0, 0, b))), (2, .inl free), (3, .inl (nI n))] [] (sb μ r 12 (fo k (fun _ => passF G W B free) R))) n ?_ ?_
  · simp only [↓w_X4_passMany_0, ↓w_X4_passMany_3, ↓w_X4_passMany_21, ↓v_X4_passMany_3, ↓v_X4_passMany_21, ↓b_aload_n, ↓b_callV3_0, ↓b_goto, ↓b_ic_ge, ↓b_iconst, ↓n_iinc, ↓b_iload, ↓b_iload_n, ↓n_istore, ↓b_vret, ↓ldI_hit, ↓ldI_skip, ↓ldL_hit, ↓ldL_skip, ↓ldA_hit, ↓ldA_skip, ↓ldelK_nil, ↓ldelK_hit, ↓ldelK_skipI, ↓ldelK_skipA, ↓ldelK_skipL, lget_hit, lget_skip, ldel_nil, ldel_hit, ldel_skipI, ldel_skipA, ldel_skipL, ldel2_nil, ldel2_hit, ldel2_hit2, ldel2_skipI, ldel2_skipA, ldel2_skipL, vc_0, mCall_P0, mCat_nil, mCat_I, mCat_L, mCat_A, mRcv_A, mArg_nil, mArg_I, mArg_L, mArg_A, tsg, swt_nil, swt_cons, lkw_nil, lkw_cons, ↓reduceIte, Nat.reduceAdd, Nat.reduceEqDiff, Nat.reduceLeDiff, Nat.reduceMul, true_and, and_true, and_self, List.mem_cons, List.not_mem_nil, or_false, or_self, false_or, true_implies, false_implies, not_true_eq_false, not_false_eq_true, nI00, nI10, nI01, nI11, forall_const, implies_true]
    simp (disch := omega) only [ixq, ixz, sb_in, sb_in0, upI_sb, upI_sb0, sb_out, nI_add, nI_mul, nI_subq, Nat.zero_add, forall_eq, u2_at, u2_row, upd_at, upd_ne, nI0b, nI1b, nI00, nI10, nI01, nI11, true_implies, false_implies, not_true_eq_false, not_false_eq_true, and_true, true_and, implies_true, nI_lq]
    exact ⟨fun _ => hK, fun hc => absurd (Nat.le_refl n) hc⟩
  · intro k hk ih
    simp only [↓w_X4_passMany_0, ↓w_X4_passMany_3, ↓w_X4_passMany_21, ↓v_X4_passMany_3, ↓v_X4_passMany_21, ↓b_aload_n, ↓b_callV3_0, ↓b_goto, ↓b_ic_ge, ↓b_iconst, ↓n_iinc, ↓b_iload, ↓b_iload_n, ↓n_istore, ↓b_vret, ↓ldI_hit, ↓ldI_skip, ↓ldL_hit, ↓ldL_skip, ↓ldA_hit, ↓ldA_skip, ↓ldelK_nil, ↓ldelK_hit, ↓ldelK_skipI, ↓ldelK_skipA, ↓ldelK_skipL, lget_hit, lget_skip, ldel_nil, ldel_hit, ldel_skipI, ldel_skipA, ldel_skipL, ldel2_nil, ldel2_hit, ldel2_hit2, ldel2_skipI, ldel2_skipA, ldel2_skipL, vc_0, mCall_P0, mCat_nil, mCat_I, mCat_L, mCat_A, mRcv_A, mArg_nil, mArg_I, mArg_L, mArg_A, tsg, swt_nil, swt_cons, lkw_nil, lkw_cons, ↓reduceIte, Nat.reduceAdd, Nat.reduceEqDiff, Nat.reduceLeDiff, Nat.reduceMul, true_and, and_true, and_self, List.mem_cons, List.not_mem_nil, or_false, or_self, false_or, true_implies, false_implies, not_true_eq_false, not_false_eq_true, nI00, nI10, nI01, nI11, forall_const, implies_true]
    simp (disch := omega) only [ixq, ixz, sb_in, sb_in0, upI_sb, upI_sb0, sb_out, nI_add, nI_mul, nI_subq, Nat.zero_add, forall_eq, u2_at, u2_row, upd_at, upd_ne, nI0b, nI1b, nI00, nI10, nI01, nI11, true_implies, false_implies, not_true_eq_false, not_false_eq_true, and_true, true_and, implies_true, nI_lq]
    refine ⟨fun hc => absurd hc (by omega), fun _ => ?_⟩
    refine c_pass hB hG hG6 hW hW8 hd ?_
    exact vc_back P0_ok ok_X4_passMany [3] 4 t_X4_passMany_3 ih (by simp) rfl
end MR4
