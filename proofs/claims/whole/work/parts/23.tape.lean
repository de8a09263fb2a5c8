/-! the tape's rows: 0 numbers (2 length, 3 most, 4 next, 5 kind, 6 start, 7 value, 8 keyword, 9 number, 10 faultKind, 11 faultPlace), 1 bytes, 2 keywords -/
def put4F (L : Nat) (n : Int32) (k : Nat) (T : Bk) : Bk := u2 (u2 T 1 (L + k) ((n >>> (nI (24 - 8 * k) &&& 31)) &&& nI 255)) 0 2 (nI (L + k + 1))
def failF (k : Int32) (T : Bk) : Bk := u2 (u2 T 0 10 k) 0 11 (T 0 6)
def skF (f : Nat → Int32) : Nat → Nat → Nat
  | 0, i => i
  | n + 1, i => if f i = nI 32 ∨ f i = nI 10 then skF f n (i + 1) else i
theorem skF_ge {f : Nat → Int32} : ∀ n i, i ≤ skF f n i ∧ skF f n i ≤ i + n := by
  intro n
  induction n with
  | zero => intro i; exact ⟨Nat.le_refl i, Nat.le_refl i⟩
  | succ n ih =>
    intro i
    unfold skF
    split
    · have := ih (i + 1)
      omega
    · omega
section MTa
variable {X : mC} {h t : Nat} {K : MV → Mem → Prop} {μ : Mem} {T : Bk} {L : Nat}
theorem c_put4 {n : Int32} (hL : T 0 2 = nI L) (hL4 : L + 4 ≤ 940) (hK : K (.inl 0) (sb μ t 3 (fo 4 (put4F L n) T))) : mMet X (h + 1) m_X6_putNumber [.inr (.inr (5, 0, t)), .inl n] (sb μ t 3 T) K := by
  refine vc_met2 P0_ok ok_X6_putNumber cm_X6_putNumber [3] 6 t_X6_putNumber_0 (Nat.le_of_ble_eq_true rfl) ?_
  simp only [mArg_nil, mArg_I, mArg_L, mArg_A, Nat.reduceAdd]
  simp only [↓w_X6_putNumber_0, ↓w_X6_putNumber_49, ↓v_X6_putNumber_3, ↓v_X6_putNumber_49, ↓b_aload_n, ↓b_bipush, ↓b_dupA, ↓b_dupI, ↓b_getA, ↓b_getI, ↓b_goto, ↓b_iadd, ↓b_iand, ↓n_iastore, ↓b_ic_ge, ↓b_iconst, ↓b_if_lt, ↓n_iinc, ↓b_iload_n, ↓b_ishr, ↓n_istore_n, ↓n_putI, ↓b_sipush, ↓b_vret, ↓ldI_hit, ↓ldI_skip, ↓ldL_hit, ↓ldL_skip, ↓ldA_hit, ↓ldA_skip, ↓ldelK_nil, ↓ldelK_hit, ↓ldelK_skipI, ↓ldelK_skipA, ↓ldelK_skipL, lget_hit, lget_skip, ldel_nil, ldel_hit, ldel_skipI, ldel_skipA, ldel_skipL, ldel2_nil, ldel2_hit, ldel2_hit2, ldel2_skipI, ldel2_skipA, ldel2_skipL, vc_0, mCall_P0, mCat_nil, mCat_I, mCat_L, mCat_A, mRcv_A, mArg_nil, mArg_I, mArg_L, mArg_A, tsg, swt_nil, swt_cons, lkw_nil, lkw_cons, ↓reduceIte, Nat.reduceAdd, Nat.reduceEqDiff, Nat.reduceLeDiff, Nat.reduceMul, true_and, and_true, and_self, List.mem_cons, List.not_mem_nil, or_false, or_self, false_or, true_implies, false_implies, not_true_eq_false, not_false_eq_true, nI00, nI10, nI01, nI11, forall_const, implies_true]
  rintro _ rfl
  have len : ∀ k, fo k (put4F L n) T 0 2 = nI (L + k) := by
    intro k
    induction k with
    | zero => exact hL
    | succ k ih =>
      rw [fo_s]
      unfold put4F
      rw [u2_at, upd_at]
      rfl
  have := loop_up (fun k => bb X P0 m_X6_putNumber (h) K (vc X P0 m_X6_putNumber (h) K k_X6_putNumber [3] 6) s_X6_putNumber_3 [(2, .inl (if k ≤ 3 then nI (24 - 8 * k) else -8)), (0, .inr (.inr (5, 0, t))), (1, .inl n)] [] (sb μ t 3 (fo k (put4F L n) T))) 4 ?_ ?_
  · exact this
  · simp only [↓w_X6_putNumber_0, ↓w_X6_putNumber_3, ↓w_X6_putNumber_49, ↓v_X6_putNumber_3, ↓v_X6_putNumber_49, ↓b_aload_n, ↓b_bipush, ↓b_dupA, ↓b_dupI, ↓b_getA, ↓b_getI, ↓b_goto, ↓b_iadd, ↓b_iand, ↓n_iastore, ↓b_ic_ge, ↓b_iconst, ↓b_if_lt, ↓n_iinc, ↓b_iload_n, ↓b_ishr, ↓n_istore_n, ↓n_putI, ↓b_sipush, ↓b_vret, ↓ldI_hit, ↓ldI_skip, ↓ldL_hit, ↓ldL_skip, ↓ldA_hit, ↓ldA_skip, ↓ldelK_nil, ↓ldelK_hit, ↓ldelK_skipI, ↓ldelK_skipA, ↓ldelK_skipL, lget_hit, lget_skip, ldel_nil, ldel_hit, ldel_skipI, ldel_skipA, ldel_skipL, ldel2_nil, ldel2_hit, ldel2_hit2, ldel2_skipI, ldel2_skipA, ldel2_skipL, vc_0, mCall_P0, mCat_nil, mCat_I, mCat_L, mCat_A, mRcv_A, mArg_nil, mArg_I, mArg_L, mArg_A, tsg, swt_nil, swt_cons, lkw_nil, lkw_cons, ↓reduceIte, Nat.reduceAdd, Nat.reduceEqDiff, Nat.reduceLeDiff, Nat.reduceMul, true_and, and_true, and_self, List.mem_cons, List.not_mem_nil, or_false, or_self, false_or, true_implies, false_implies, not_true_eq_false, not_false_eq_true, nI00, nI10, nI01, nI11, forall_const, implies_true]
    exact ⟨fun _ => hK, fun hc => absurd (by decide) hc⟩
  · intro k hk ih
    rw [fo_s] at ih
    have lk := len k
    generalize fo k (put4F L n) T = T1 at ih lk ⊢
    rw [if_pos (show k ≤ 3 by omega)]
    have e2 : nI (24 - 8 * k) + (-8) = (if k + 1 ≤ 3 then nI (24 - 8 * (k + 1)) else -8) := by
      have : k = 0 ∨ k = 1 ∨ k = 2 ∨ k = 3 := by omega
      rcases this with rfl | rfl | rfl | rfl <;> rfl
    simp only [↓w_X6_putNumber_0, ↓w_X6_putNumber_3, ↓w_X6_putNumber_49, ↓v_X6_putNumber_3, ↓v_X6_putNumber_49, ↓b_aload_n, ↓b_bipush, ↓b_dupA, ↓b_dupI, ↓b_getA, ↓b_getI, ↓b_goto, ↓b_iadd, ↓b_iand, ↓n_iastore, ↓b_ic_ge, ↓b_iconst, ↓b_if_lt, ↓n_iinc, ↓b_iload_n, ↓b_ishr, ↓n_istore_n, ↓n_putI, ↓b_sipush, ↓b_vret, ↓ldI_hit, ↓ldI_skip, ↓ldL_hit, ↓ldL_skip, ↓ldA_hit, ↓ldA_skip, ↓ldelK_nil, ↓ldelK_hit, ↓ldelK_skipI, ↓ldelK_skipA, ↓ldelK_skipL, lget_hit, lget_skip, ldel_nil, ldel_hit, ldel_skipI, ldel_skipA, ldel_skipL, ldel2_nil, ldel2_hit, ldel2_hit2, ldel2_skipI, ldel2_skipA, ldel2_skipL, vc_0, mCall_P0, mCat_nil, mCat_I, mCat_L, mCat_A, mRcv_A, mArg_nil, mArg_I, mArg_L, mArg_A, tsg, swt_nil, swt_cons, lkw_nil, lkw_cons, ↓reduceIte, Nat.reduceAdd, Nat.reduceEqDiff, Nat.reduceLeDiff, Nat.reduceMul, true_and, and_true, and_self, List.mem_cons, List.not_mem_nil, or_false, or_self, false_or, true_implies, false_implies, not_true_eq_false, not_false_eq_true, nI00, nI10, nI01, nI11, forall_const, implies_true]
    simp (disch := omega) only [ixq, ixz, sb_in, sb_in0, upI_sb, upI_sb0, sb_out, nI_add, nI_mul, nI_subq, Nat.zero_add, forall_eq, u2_at, u2_row, upd_at, upd_ne, nI0b, nI1b, nI00, nI10, nI01, nI11, true_implies, false_implies, not_true_eq_false, not_false_eq_true, and_true, true_and, implies_true, nI_lz, lk, nI_lq]
    refine ⟨fun hc => absurd hc (by omega), fun _ => ?_⟩
    exact vc_back P0_ok ok_X6_putNumber [3] 6 t_X6_putNumber_3 ih (by simp [e2]) rfl
theorem c_hasRoom (hL : T 0 2 = nI L) (hL9 : L ≤ 940) (hK : K (.inl (bI (L + 20 ≤ 940))) (sb μ t 3 T)) : mMet X (h + 1) m_X6_hasRoomForFive [.inr (.inr (5, 0, t))] (sb μ t 3 T) K := by
  refine vc_met2 P0_ok ok_X6_hasRoomForFive cm_X6_hasRoomForFive [] 6 t_X6_hasRoomForFive_0 (Nat.le_of_ble_eq_true rfl) ?_
  simp only [mArg_nil, mArg_I, mArg_L, mArg_A, Nat.reduceAdd]
  simp only [↓w_X6_hasRoomForFive_0, ↓w_X6_hasRoomForFive_17, ↓w_X6_hasRoomForFive_18, ↓v_X6_hasRoomForFive_17, ↓v_X6_hasRoomForFive_18, ↓b_aload_n, ↓b_bipush, ↓b_getI, ↓b_goto, ↓b_iadd, ↓b_ic_gt, ↓b_iconst, ↓b_sipush, ↓b_zret, ↓ldI_hit, ↓ldI_skip, ↓ldL_hit, ↓ldL_skip, ↓ldA_hit, ↓ldA_skip, ↓ldelK_nil, ↓ldelK_hit, ↓ldelK_skipI, ↓ldelK_skipA, ↓ldelK_skipL, lget_hit, lget_skip, ldel_nil, ldel_hit, ldel_skipI, ldel_skipA, ldel_skipL, ldel2_nil, ldel2_hit, ldel2_hit2, ldel2_skipI, ldel2_skipA, ldel2_skipL, vc_0, mCall_P0, mCat_nil, mCat_I, mCat_L, mCat_A, mRcv_A, mArg_nil, mArg_I, mArg_L, mArg_A, tsg, swt_nil, swt_cons, lkw_nil, lkw_cons, ↓reduceIte, Nat.reduceAdd, Nat.reduceEqDiff, Nat.reduceLeDiff, Nat.reduceMul, true_and, and_true, and_self, List.mem_cons, List.not_mem_nil, or_false, or_self, false_or, true_implies, false_implies, not_true_eq_false, not_false_eq_true, nI00, nI10, nI01, nI11, forall_const, implies_true]
  simp (disch := omega) only [ixq, ixz, sb_in, sb_in0, upI_sb, upI_sb0, sb_out, nI_add, nI_mul, nI_subq, Nat.zero_add, forall_eq, u2_at, u2_row, upd_at, upd_ne, nI0b, nI1b, nI00, nI10, nI01, nI11, true_implies, false_implies, not_true_eq_false, not_false_eq_true, and_true, true_and, implies_true, hL, nI_ltq]
  refine ⟨fun hc => ?_, fun hc => ?_⟩
  · rw [bI_f (by omega)] at hK
    exact hK
  · rw [bI_t (by omega)] at hK
    exact hK
theorem c_fail {k : Int32} (hK : K (.inl (nI 0)) (sb μ t 3 (failF k T))) : mMet X (h + 1) m_X6_fail [.inr (.inr (5, 0, t)), .inl k] (sb μ t 3 T) K := by
  refine vc_met2 P0_ok ok_X6_fail cm_X6_fail [] 6 t_X6_fail_0 (Nat.le_of_ble_eq_true rfl) ?_
  simp only [mArg_nil, mArg_I, mArg_L, mArg_A, Nat.reduceAdd]
  simp only [↓w_X6_fail_0, ↓b_aload_n, ↓b_getI, ↓b_iconst, ↓b_iload_n, ↓n_putI, ↓b_zret, ↓ldI_hit, ↓ldI_skip, ↓ldL_hit, ↓ldL_skip, ↓ldA_hit, ↓ldA_skip, ↓ldelK_nil, ↓ldelK_hit, ↓ldelK_skipI, ↓ldelK_skipA, ↓ldelK_skipL, lget_hit, lget_skip, ldel_nil, ldel_hit, ldel_skipI, ldel_skipA, ldel_skipL, ldel2_nil, ldel2_hit, ldel2_hit2, ldel2_skipI, ldel2_skipA, ldel2_skipL, vc_0, mCall_P0, mCat_nil, mCat_I, mCat_L, mCat_A, mRcv_A, mArg_nil, mArg_I, mArg_L, mArg_A, tsg, swt_nil, swt_cons, lkw_nil, lkw_cons, ↓reduceIte, Nat.reduceAdd, Nat.reduceEqDiff, Nat.reduceLeDiff, Nat.reduceMul, true_and, and_true, and_self, List.mem_cons, List.not_mem_nil, or_false, or_self, false_or, true_implies, false_implies, not_true_eq_false, not_false_eq_true, nI00, nI10, nI01, nI11, forall_const, implies_true]
  simp (disch := omega) only [ixq, ixz, sb_in, sb_in0, upI_sb, upI_sb0, sb_out, nI_add, nI_mul, nI_subq, Nat.zero_add, forall_eq, u2_at, u2_row, upd_at, upd_ne, nI0b, nI1b, nI00, nI10, nI01, nI11, true_implies, false_implies, not_true_eq_false, not_false_eq_true, and_true, true_and, implies_true]
  exact hK
theorem c_isName (hK : K (.inl (bI (T 0 5 = nI 2 ∧ T 0 8 = -1))) (sb μ t 3 T)) : mMet X (h + 1) m_X6_isName [.inr (.inr (5, 0, t))] (sb μ t 3 T) K := by
  refine vc_met2 P0_ok ok_X6_isName cm_X6_isName [] 6 t_X6_isName_0 (Nat.le_of_ble_eq_true rfl) ?_
  simp only [mArg_nil, mArg_I, mArg_L, mArg_A, Nat.reduceAdd]
  simp only [↓w_X6_isName_0, ↓w_X6_isName_20, ↓w_X6_isName_21, ↓v_X6_isName_20, ↓v_X6_isName_21, ↓b_aload_n, ↓b_getI, ↓b_goto, ↓b_ic_ne, ↓b_iconst, ↓b_zret, ↓ldI_hit, ↓ldI_skip, ↓ldL_hit, ↓ldL_skip, ↓ldA_hit, ↓ldA_skip, ↓ldelK_nil, ↓ldelK_hit, ↓ldelK_skipI, ↓ldelK_skipA, ↓ldelK_skipL, lget_hit, lget_skip, ldel_nil, ldel_hit, ldel_skipI, ldel_skipA, ldel_skipL, ldel2_nil, ldel2_hit, ldel2_hit2, ldel2_skipI, ldel2_skipA, ldel2_skipL, vc_0, mCall_P0, mCat_nil, mCat_I, mCat_L, mCat_A, mRcv_A, mArg_nil, mArg_I, mArg_L, mArg_A, tsg, swt_nil, swt_cons, lkw_nil, lkw_cons, ↓reduceIte, Nat.reduceAdd, Nat.reduceEqDiff, Nat.reduceLeDiff, Nat.reduceMul, true_and, and_true, and_self, List.mem_cons, List.not_mem_nil, or_false, or_self, false_or, true_implies, false_implies, not_true_eq_false, not_false_eq_true, nI00, nI10, nI01, nI11, forall_const, implies_true]
  simp (disch := omega) only [ixq, ixz, sb_in, sb_in0, upI_sb, upI_sb0, sb_out, nI_add, nI_mul, nI_subq, Nat.zero_add, forall_eq, u2_at, u2_row, upd_at, upd_ne, nI0b, nI1b, nI00, nI10, nI01, nI11, true_implies, false_implies, not_true_eq_false, not_false_eq_true, and_true, true_and, implies_true]
  refine ⟨fun hc => ?_, fun hc => ⟨fun hc2 => ?_, fun hc2 => ?_⟩⟩
  · rw [bI_f (fun z => hc z.1)] at hK
    exact hK
  · rw [bI_f (fun z => hc2 z.2)] at hK
    exact hK
  · rw [bI_t ⟨hc, hc2⟩] at hK
    exact hK
theorem c_isThisSign {c : Int32} (hK : K (.inl (bI (T 0 5 = nI 4 ∧ T 0 7 = c))) (sb μ t 3 T)) : mMet X (h + 1) m_X6_isThisSign [.inr (.inr (5, 0, t)), .inl c] (sb μ t 3 T) K := by
  refine vc_met2 P0_ok ok_X6_isThisSign cm_X6_isThisSign [] 6 t_X6_isThisSign_0 (Nat.le_of_ble_eq_true rfl) ?_
  simp only [mArg_nil, mArg_I, mArg_L, mArg_A, Nat.reduceAdd]
  simp only [↓w_X6_isThisSign_0, ↓w_X6_isThisSign_20, ↓w_X6_isThisSign_21, ↓v_X6_isThisSign_20, ↓v_X6_isThisSign_21, ↓b_aload_n, ↓b_getI, ↓b_goto, ↓b_ic_ne, ↓b_iconst, ↓b_iload_n, ↓b_zret, ↓ldI_hit, ↓ldI_skip, ↓ldL_hit, ↓ldL_skip, ↓ldA_hit, ↓ldA_skip, ↓ldelK_nil, ↓ldelK_hit, ↓ldelK_skipI, ↓ldelK_skipA, ↓ldelK_skipL, lget_hit, lget_skip, ldel_nil, ldel_hit, ldel_skipI, ldel_skipA, ldel_skipL, ldel2_nil, ldel2_hit, ldel2_hit2, ldel2_skipI, ldel2_skipA, ldel2_skipL, vc_0, mCall_P0, mCat_nil, mCat_I, mCat_L, mCat_A, mRcv_A, mArg_nil, mArg_I, mArg_L, mArg_A, tsg, swt_nil, swt_cons, lkw_nil, lkw_cons, ↓reduceIte, Nat.reduceAdd, Nat.reduceEqDiff, Nat.reduceLeDiff, Nat.reduceMul, true_and, and_true, and_self, List.mem_cons, List.not_mem_nil, or_false, or_self, false_or, true_implies, false_implies, not_true_eq_false, not_false_eq_true, nI00, nI10, nI01, nI11, forall_const, implies_true]
  simp (disch := omega) only [ixq, ixz, sb_in, sb_in0, upI_sb, upI_sb0, sb_out, nI_add, nI_mul, nI_subq, Nat.zero_add, forall_eq, u2_at, u2_row, upd_at, upd_ne, nI0b, nI1b, nI00, nI10, nI01, nI11, true_implies, false_implies, not_true_eq_false, not_false_eq_true, and_true, true_and, implies_true]
  refine ⟨fun hc => ?_, fun hc => ⟨fun hc2 => ?_, fun hc2 => ?_⟩⟩
  · rw [bI_f (fun z => hc z.1)] at hK
    exact hK
  · rw [bI_f (fun z => hc2 z.2)] at hK
    exact hK
  · rw [bI_t ⟨hc, hc2⟩] at hK
    exact hK
theorem c_isComparing (hK : K (.inl (bI (T 0 5 = nI 4 ∧ (T 0 7 = nI 60 ∨ T 0 7 = nI 61 ∨ T 0 7 = nI 62)))) (sb μ t 3 T)) : mMet X (h + 1) m_X6_isComparing [.inr (.inr (5, 0, t))] (sb μ t 3 T) K := by
  (refine vc_met2 P0_ok ok_X6_isComparing cm_X6_isComparing [] 6 t_X6_isComparing_0 (Nat.le_of_ble_eq_true rfl) ?_; simp only [mArg_nil, mArg_I, mArg_L, mArg_A, Nat.reduceAdd])
  simp only [↓w_X6_isComparing_0, ↓w_X6_isComparing_35, ↓w_X6_isComparing_39, ↓w_X6_isComparing_40, ↓v_X6_isComparing_35, ↓v_X6_isComparing_39, ↓v_X6_isComparing_40, ↓b_aload_n, ↓b_bipush, ↓b_getI, ↓b_goto, ↓b_ic_eq, ↓b_ic_ne, ↓b_iconst, ↓b_zret, ↓ldI_hit, ↓ldI_skip, ↓ldL_hit, ↓ldL_skip, ↓ldA_hit, ↓ldA_skip, ↓ldelK_nil, ↓ldelK_hit, ↓ldelK_skipI, ↓ldelK_skipA, ↓ldelK_skipL, lget_hit, lget_skip, ldel_nil, ldel_hit, ldel_skipI, ldel_skipA, ldel_skipL, ldel2_nil, ldel2_hit, ldel2_hit2, ldel2_skipI, ldel2_skipA, ldel2_skipL, vc_0, mCall_P0, mCat_nil, mCat_I, mCat_L, mCat_A, mRcv_A, mArg_nil, mArg_I, mArg_L, mArg_A, tsg, swt_nil, swt_cons, lkw_nil, lkw_cons, ↓reduceIte, Nat.reduceAdd, Nat.reduceEqDiff, Nat.reduceLeDiff, Nat.reduceMul, true_and, and_true, and_self, List.mem_cons, List.not_mem_nil, or_false, or_self, false_or, true_implies, false_implies, not_true_eq_false, not_false_eq_true, nI00, nI10, nI01, nI11, forall_const, implies_true]
  simp (disch := omega) only [ixq, ixz, sb_in, sb_in0, upI_sb, upI_sb0, sb_out, nI_add, nI_mul, nI_subq, Nat.zero_add, forall_eq, u2_at, u2_row, upd_at, upd_ne, nI0b, nI1b, nI00, nI10, nI01, nI11, true_implies, false_implies, not_true_eq_false, not_false_eq_true, and_true, true_and, implies_true]
  by_cases h4 : T 0 5 = nI 4
  · by_cases h1 : T 0 7 = nI 60
    · rw [bI_t ⟨h4, Or.inl h1⟩] at hK
      exact ⟨fun hc => absurd h4 hc, fun _ => ⟨fun _ => hK, fun hc => absurd h1 hc⟩⟩
    · by_cases h2 : T 0 7 = nI 61
      · rw [bI_t ⟨h4, Or.inr (Or.inl h2)⟩] at hK
        exact ⟨fun hc => absurd h4 hc, fun _ => ⟨fun _ => hK, fun _ => ⟨fun _ => hK, fun hc => absurd h2 hc⟩⟩⟩
      · by_cases h3 : T 0 7 = nI 62
        · rw [bI_t ⟨h4, Or.inr (Or.inr h3)⟩] at hK
          exact ⟨fun hc => absurd h4 hc, fun _ => ⟨fun _ => hK, fun _ => ⟨fun _ => hK, fun _ => ⟨fun hc => absurd h3 hc, fun _ => hK⟩⟩⟩⟩
        · rw [bI_f (fun z => z.2.elim h1 (fun q => q.elim h2 h3))] at hK
          exact ⟨fun _ => hK, fun _ => ⟨fun hc => absurd hc h1, fun _ => ⟨fun hc => absurd hc h2, fun _ => ⟨fun _ => hK, fun hc => absurd hc h3⟩⟩⟩⟩
  · rw [bI_f (fun z => h4 z.1)] at hK
    exact ⟨fun _ => hK, fun hc => absurd hc h4⟩
end MTa
