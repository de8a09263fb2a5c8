/-! the SENTENCE's rows: 0 ones, steps; 1 keywords, 2 values, 3 signs -/
def cmpF (sg a v : Int32) : Int32 := if sg = nI 60 then bI (a < v) else if sg = nI 61 then bI (a = v) else bI (v < a)
def copySF (S S2 : Bk) : Bk := va_up (va_up (va_up (u2 (u2 S 0 0 (S2 0 0)) 0 1 (S2 0 1)) 1 (va_cpy (S2 1) (S 1) 0 0 40)) 2 (va_cpy (S2 2) (S 2) 0 0 40)) 3 (va_cpy (S2 3) (S 3) 0 0 40)
def addF (n : Nat) (kw v sg : Int32) (S : Bk) : Bk := u2 (u2 (u2 (u2 S 1 n kw) 2 n v) 3 n sg) 0 1 (nI (n + 1))
/-- whether step i is true of work w -/
def stepT (B R S : Bk) (w i : Nat) : Int32 :=
  if S 1 i = nI 12 then bI (0 < B 7 (w * 6 + (S 2 i).toNatClampNeg)) else
  if S 1 i = nI 13 then bI (0 < B 10 (w * 6 + (S 2 i).toNatClampNeg)) else
  if S 1 i = nI 14 then bI (R 10 w >>> (S 2 i &&& 31) &&& nI 1 = nI 1) else
  if S 1 i = nI 15 then cmpF (S 3 i) (R 8 w) (S 2 i) else
  if S 1 i = nI 16 then cmpF (S 3 i) (R 0 0 - R 8 w) (S 2 i) else
  if S 1 i = nI 17 then cmpF (S 3 i) (R 8 w * B 6 w) (S 2 i) else cmpF (S 3 i) (nI w) (S 2 i)
theorem cmpF_b (sg a v : Int32) : cmpF sg a v = nI 0 ∨ cmpF sg a v = nI 1 := by
  unfold cmpF bI
  split
  · split <;> simp
  · split <;> split <;> simp
section MSe
variable {X : mC} {h r b s : Nat} {K : MV → Mem → Prop} {μ : Mem} {R B S : Bk} {L : Nat}
theorem c_clearSent (hK : K (.inl 0) (sb μ s 4 (u2 (u2 S 0 0 (nI 0)) 0 1 (nI 0)))) : mMet X (h + 1) m_X5_clear [.inr (.inr (4, 0, s))] (sb μ s 4 S) K := by
  refine vc_met2 P0_ok ok_X5_clear cm_X5_clear [] 4 t_X5_clear_0 (Nat.le_of_ble_eq_true rfl) ?_
  simp only [mArg_nil, mArg_I, mArg_L, mArg_A, Nat.reduceAdd]
  simp only [↓w_X5_clear_0, ↓b_aload_n, ↓b_iconst, ↓n_putI, ↓b_vret, ↓ldI_hit, ↓ldI_skip, ↓ldL_hit, ↓ldL_skip, ↓ldA_hit, ↓ldA_skip, ↓ldelK_nil, ↓ldelK_hit, ↓ldelK_skipI, ↓ldelK_skipA, ↓ldelK_skipL, lget_hit, lget_skip, ldel_nil, ldel_hit, ldel_skipI, ldel_skipA, ldel_skipL, ldel2_nil, ldel2_hit, ldel2_hit2, ldel2_skipI, ldel2_skipA, ldel2_skipL, vc_0, mCall_P0, mCat_nil, mCat_I, mCat_L, mCat_A, mRcv_A, mArg_nil, mArg_I, mArg_L, mArg_A, tsg, swt_nil, swt_cons, lkw_nil, lkw_cons, ↓reduceIte, Nat.reduceAdd, Nat.reduceEqDiff, Nat.reduceLeDiff, Nat.reduceMul, true_and, and_true, and_self, List.mem_cons, List.not_mem_nil, or_false, or_self, false_or, true_implies, false_implies, not_true_eq_false, not_false_eq_true, nI00, nI10, nI01, nI11, forall_const, implies_true]
  simp (disch := omega) only [ixq, ixz, sb_in, sb_in0, upI_sb, upI_sb0, sb_out, nI_add, nI_mul, nI_subq, Nat.zero_add, forall_eq, u2_at, u2_row, upd_at, upd_ne, nI0b, nI1b, nI00, nI10, nI01, nI11, true_implies, false_implies, not_true_eq_false, not_false_eq_true, and_true, true_and, implies_true]
  exact hK
theorem c_copySent {s2 : Nat} {S2 : Bk} (hd : s2 + 4 ≤ s ∨ s + 4 ≤ s2) (hS2 : ∀ k, k < 4 → μ.1 (s2 + k) = S2 k) (hK : K (.inl 0) (sb μ s 4 (copySF S S2))) : mMet X (h + 1) m_X5_copyFrom [.inr (.inr (4, 0, s)), .inr (.inr (4, 0, s2))] (sb μ s 4 S) K := by
  have hS20 : μ.1 s2 = S2 0 := hS2 0 (by omega)
  refine vc_met2 P0_ok ok_X5_copyFrom cm_X5_copyFrom [] 4 t_X5_copyFrom_0 (Nat.le_of_ble_eq_true rfl) ?_
  simp only [mArg_nil, mArg_I, mArg_L, mArg_A, Nat.reduceAdd]
  simp only [↓w_X5_copyFrom_0, ↓b_aload_n, ↓b_bipush, ↓n_copy, ↓b_getA, ↓b_getI, ↓b_iconst, ↓n_putI, ↓b_vret, ↓ldI_hit, ↓ldI_skip, ↓ldL_hit, ↓ldL_skip, ↓ldA_hit, ↓ldA_skip, ↓ldelK_nil, ↓ldelK_hit, ↓ldelK_skipI, ↓ldelK_skipA, ↓ldelK_skipL, lget_hit, lget_skip, ldel_nil, ldel_hit, ldel_skipI, ldel_skipA, ldel_skipL, ldel2_nil, ldel2_hit, ldel2_hit2, ldel2_skipI, ldel2_skipA, ldel2_skipL, vc_0, mCall_P0, mCat_nil, mCat_I, mCat_L, mCat_A, mRcv_A, mArg_nil, mArg_I, mArg_L, mArg_A, tsg, swt_nil, swt_cons, lkw_nil, lkw_cons, ↓reduceIte, Nat.reduceAdd, Nat.reduceEqDiff, Nat.reduceLeDiff, Nat.reduceMul, true_and, and_true, and_self, List.mem_cons, List.not_mem_nil, or_false, or_self, false_or, true_implies, false_implies, not_true_eq_false, not_false_eq_true, nI00, nI10, nI01, nI11, forall_const, implies_true]
  simp (disch := omega) only [ixq, ixz, sb_in, sb_in0, upI_sb, upI_sb0, sb_out, nI_add, nI_mul, nI_subq, Nat.zero_add, forall_eq, u2_at, u2_row, upd_at, upd_ne, nI0b, nI1b, nI00, nI10, nI01, nI11, true_implies, false_implies, not_true_eq_false, not_false_eq_true, and_true, true_and, implies_true, cpq, cp_sb, up_row, hS2, hS20]
  exact hK
theorem c_addStep {n : Nat} {kw v sg : Int32} (hn : n < 40) (hS : S 0 1 = nI n) (hK : K (.inl (nI 1)) (sb μ s 4 (addF n kw v sg S))) : mMet X (h + 1) m_X5_addStep [.inr (.inr (4, 0, s)), .inl kw, .inl v, .inl sg] (sb μ s 4 S) K := by
  refine vc_met2 P0_ok ok_X5_addStep cm_X5_addStep [] 4 t_X5_addStep_0 (Nat.le_of_ble_eq_true rfl) ?_
  simp only [mArg_nil, mArg_I, mArg_L, mArg_A, Nat.reduceAdd]
  simp only [↓w_X5_addStep_0, ↓w_X5_addStep_49, ↓v_X5_addStep_49, ↓b_aload_n, ↓b_bipush, ↓b_dupA, ↓b_dupI, ↓b_getA, ↓b_getI, ↓b_iadd, ↓n_iastore, ↓b_ic_ge, ↓b_iconst, ↓b_iload_n, ↓n_putI, ↓b_zret, ↓ldI_hit, ↓ldI_skip, ↓ldL_hit, ↓ldL_skip, ↓ldA_hit, ↓ldA_skip, ↓ldelK_nil, ↓ldelK_hit, ↓ldelK_skipI, ↓ldelK_skipA, ↓ldelK_skipL, lget_hit, lget_skip, ldel_nil, ldel_hit, ldel_skipI, ldel_skipA, ldel_skipL, ldel2_nil, ldel2_hit, ldel2_hit2, ldel2_skipI, ldel2_skipA, ldel2_skipL, vc_0, mCall_P0, mCat_nil, mCat_I, mCat_L, mCat_A, mRcv_A, mArg_nil, mArg_I, mArg_L, mArg_A, tsg, swt_nil, swt_cons, lkw_nil, lkw_cons, ↓reduceIte, Nat.reduceAdd, Nat.reduceEqDiff, Nat.reduceLeDiff, Nat.reduceMul, true_and, and_true, and_self, List.mem_cons, List.not_mem_nil, or_false, or_self, false_or, true_implies, false_implies, not_true_eq_false, not_false_eq_true, nI00, nI10, nI01, nI11, forall_const, implies_true]
  simp (disch := omega) only [ixq, ixz, sb_in, sb_in0, upI_sb, upI_sb0, sb_out, nI_add, nI_mul, nI_subq, Nat.zero_add, forall_eq, u2_at, u2_row, upd_at, upd_ne, nI0b, nI1b, nI00, nI10, nI01, nI11, true_implies, false_implies, not_true_eq_false, not_false_eq_true, and_true, true_and, implies_true, hS, nI_lq]
  exact ⟨fun hc => absurd hc (by omega), fun _ => hK⟩
theorem c_compares {i : Nat} {a : Int32} (hi : i < 40) (hS : ∀ k, k < 4 → μ.1 (s + k) = S k) (hK : K (.inl (cmpF (S 3 i) a (S 2 i))) μ) : mMet X (h + 1) m_X5_compares [.inr (.inr (4, 0, s)), .inl a, .inl (nI i)] μ K := by
  refine vc_met2 P0_ok ok_X5_compares cm_X5_compares [] 8 t_X5_compares_0 (Nat.le_of_ble_eq_true rfl) ?_
  simp only [mArg_nil, mArg_I, mArg_L, mArg_A, Nat.reduceAdd]
  simp only [↓w_X5_compares_0, ↓w_X5_compares_25, ↓w_X5_compares_26, ↓w_X5_compares_27, ↓w_X5_compares_52, ↓w_X5_compares_56, ↓w_X5_compares_70, ↓w_X5_compares_71, ↓v_X5_compares_25, ↓v_X5_compares_26, ↓v_X5_compares_27, ↓v_X5_compares_52, ↓v_X5_compares_56, ↓v_X5_compares_70, ↓v_X5_compares_71, ↓b_aload_n, ↓b_bipush, ↓b_getA, ↓b_goto, ↓b_iaload, ↓b_ic_ge, ↓b_ic_le, ↓b_ic_ne, ↓b_iconst, ↓b_iload_n, ↓b_zret, ↓ldI_hit, ↓ldI_skip, ↓ldL_hit, ↓ldL_skip, ↓ldA_hit, ↓ldA_skip, ↓ldelK_nil, ↓ldelK_hit, ↓ldelK_skipI, ↓ldelK_skipA, ↓ldelK_skipL, lget_hit, lget_skip, ldel_nil, ldel_hit, ldel_skipI, ldel_skipA, ldel_skipL, ldel2_nil, ldel2_hit, ldel2_hit2, ldel2_skipI, ldel2_skipA, ldel2_skipL, vc_0, mCall_P0, mCat_nil, mCat_I, mCat_L, mCat_A, mRcv_A, mArg_nil, mArg_I, mArg_L, mArg_A, tsg, swt_nil, swt_cons, lkw_nil, lkw_cons, ↓reduceIte, Nat.reduceAdd, Nat.reduceEqDiff, Nat.reduceLeDiff, Nat.reduceMul, true_and, and_true, and_self, List.mem_cons, List.not_mem_nil, or_false, or_self, false_or, true_implies, false_implies, not_true_eq_false, not_false_eq_true, nI00, nI10, nI01, nI11, forall_const, implies_true]
  simp (disch := omega) only [ixq, ixz, sb_in, sb_in0, upI_sb, upI_sb0, sb_out, nI_add, nI_mul, nI_subq, Nat.zero_add, forall_eq, u2_at, u2_row, upd_at, upd_ne, nI0b, nI1b, nI00, nI10, nI01, nI11, true_implies, false_implies, not_true_eq_false, not_false_eq_true, and_true, true_and, implies_true, hS]
  unfold cmpF at hK
  refine ⟨fun h1 => ?_, fun h1 => ?_⟩
  · rw [if_neg h1] at hK
    refine ⟨fun h2 => ?_, fun h2 => ?_⟩
    · rw [if_neg h2] at hK
      refine ⟨fun h3 => ?_, fun h3 => ?_⟩
      · rw [bI_f (Int32.not_lt.mpr h3)] at hK
        exact hK
      · rw [bI_t (Int32.not_le.mp h3)] at hK
        exact hK
    · rw [if_pos h2] at hK
      refine ⟨fun h3 => ?_, fun h3 => ?_⟩
      · rw [bI_f h3] at hK
        exact hK
      · rw [bI_t h3] at hK
        exact hK
  · rw [if_pos h1] at hK
    refine ⟨fun h3 => ?_, fun h3 => ?_⟩
    · rw [bI_f (Int32.not_lt.mpr h3)] at hK
      exact hK
    · rw [bI_t (Int32.not_le.mp h3)] at hK
      exact hK
theorem c_stepTrue {i w : Nat} (hi : i < 40) (hw : w < 8) (hS : ∀ k, k < 4 → μ.1 (s + k) = S k) (hB : ∀ k, k < 12 → μ.1 (b + k) = B k) (hR : ∀ k, k < 12 → μ.1 (r + k) = R k) (hv : S 1 i = nI 12 ∨ S 1 i = nI 13 → ∃ g, g < 6 ∧ S 2 i = nI g) (hK : K (.inl (stepT B R S w i)) μ) : mMet X (h + 2) m_X5_isStepTrueOf [.inr (.inr (4, 0, s)), .inl (nI i), .inl (nI w), .inr (.inr (0, 0, b)), .inr (.inr (3, 0, r))] μ K := by
  have hR0 : μ.1 r = R 0 := hR 0 (by omega)
  refine vc_met2 P0_ok ok_X5_isStepTrueOf cm_X5_isStepTrueOf [] 4 t_X5_isStepTrueOf_0 (Nat.le_of_ble_eq_true rfl) ?_
  simp only [mArg_nil, mArg_I, mArg_L, mArg_A, Nat.reduceAdd]
  simp only [↓w_X5_isStepTrueOf_0, ↓w_X5_isStepTrueOf_44, ↓w_X5_isStepTrueOf_67, ↓w_X5_isStepTrueOf_68, ↓w_X5_isStepTrueOf_69, ↓w_X5_isStepTrueOf_92, ↓w_X5_isStepTrueOf_93, ↓w_X5_isStepTrueOf_94, ↓w_X5_isStepTrueOf_118, ↓w_X5_isStepTrueOf_119, ↓w_X5_isStepTrueOf_120, ↓w_X5_isStepTrueOf_133, ↓w_X5_isStepTrueOf_152, ↓w_X5_isStepTrueOf_172, ↓v_X5_isStepTrueOf_44, ↓v_X5_isStepTrueOf_67, ↓v_X5_isStepTrueOf_68, ↓v_X5_isStepTrueOf_69, ↓v_X5_isStepTrueOf_92, ↓v_X5_isStepTrueOf_93, ↓v_X5_isStepTrueOf_94, ↓v_X5_isStepTrueOf_118, ↓v_X5_isStepTrueOf_119, ↓v_X5_isStepTrueOf_120, ↓v_X5_isStepTrueOf_133, ↓v_X5_isStepTrueOf_152, ↓v_X5_isStepTrueOf_172, ↓b_aload, ↓b_aload_n, ↓b_bipush, ↓b_callV3_1, ↓b_getA, ↓b_getI, ↓b_goto, ↓b_iadd, ↓b_iaload, ↓b_iand, ↓b_ic_ne, ↓b_iconst, ↓b_if_le, ↓b_iload_n, ↓b_imul, ↓b_ishr, ↓b_isub, ↓b_tsw, ↓b_zret, ↓ldI_hit, ↓ldI_skip, ↓ldL_hit, ↓ldL_skip, ↓ldA_hit, ↓ldA_skip, ↓ldelK_nil, ↓ldelK_hit, ↓ldelK_skipI, ↓ldelK_skipA, ↓ldelK_skipL, lget_hit, lget_skip, ldel_nil, ldel_hit, ldel_skipI, ldel_skipA, ldel_skipL, ldel2_nil, ldel2_hit, ldel2_hit2, ldel2_skipI, ldel2_skipA, ldel2_skipL, vc_0, mCall_P0, mCat_nil, mCat_I, mCat_L, mCat_A, mRcv_A, mArg_nil, mArg_I, mArg_L, mArg_A, tsg, swt_nil, swt_cons, lkw_nil, lkw_cons, ↓reduceIte, Nat.reduceAdd, Nat.reduceEqDiff, Nat.reduceLeDiff, Nat.reduceMul, true_and, and_true, and_self, List.mem_cons, List.not_mem_nil, or_false, or_self, false_or, true_implies, false_implies, not_true_eq_false, not_false_eq_true, nI00, nI10, nI01, nI11, forall_const, implies_true]
  simp (disch := omega) only [ixq, ixz, sb_in, sb_in0, upI_sb, upI_sb0, sb_out, nI_add, nI_mul, nI_subq, Nat.zero_add, forall_eq, u2_at, u2_row, upd_at, upd_ne, nI0b, nI1b, nI00, nI10, nI01, nI11, true_implies, false_implies, not_true_eq_false, not_false_eq_true, and_true, true_and, implies_true, hS, hR0, hR, hB]
  have hz : ∀ sg x v : Int32, cmpF sg x v = 0 ∨ cmpF sg x v = 1 := fun sg x v => cmpF_b sg x v
  have n12 : ∀ k : Nat, 12 ≤ k → k ≤ 17 → (nI k).toInt = (k : Int) := fun k _ h2 => nI_toInt (by omega)
  unfold stepT at hK
  refine ⟨fun ho => ?_, fun e => ?_, fun e => ?_, fun e => ?_, fun e => ?_, fun e => ?_, fun e => ?_⟩
  · have hne : ∀ k : Nat, 12 ≤ k → k ≤ 17 → ¬ S 1 i = nI k := fun k h1 h2 e => by
      rw [e, n12 k h1 h2] at ho
      omega
    rw [if_neg (hne 12 (by omega) (by omega)), if_neg (hne 13 (by omega) (by omega)), if_neg (hne 14 (by omega) (by omega)), if_neg (hne 15 (by omega) (by omega)), if_neg (hne 16 (by omega) (by omega)), if_neg (hne 17 (by omega) (by omega))] at hK
    refine c_compares hi hS ?_
    simp only [↓w_X5_isStepTrueOf_0, ↓w_X5_isStepTrueOf_44, ↓w_X5_isStepTrueOf_67, ↓w_X5_isStepTrueOf_68, ↓w_X5_isStepTrueOf_69, ↓w_X5_isStepTrueOf_92, ↓w_X5_isStepTrueOf_93, ↓w_X5_isStepTrueOf_94, ↓w_X5_isStepTrueOf_118, ↓w_X5_isStepTrueOf_119, ↓w_X5_isStepTrueOf_120, ↓w_X5_isStepTrueOf_133, ↓w_X5_isStepTrueOf_152, ↓w_X5_isStepTrueOf_172, ↓v_X5_isStepTrueOf_44, ↓v_X5_isStepTrueOf_67, ↓v_X5_isStepTrueOf_68, ↓v_X5_isStepTrueOf_69, ↓v_X5_isStepTrueOf_92, ↓v_X5_isStepTrueOf_93, ↓v_X5_isStepTrueOf_94, ↓v_X5_isStepTrueOf_118, ↓v_X5_isStepTrueOf_119, ↓v_X5_isStepTrueOf_120, ↓v_X5_isStepTrueOf_133, ↓v_X5_isStepTrueOf_152, ↓v_X5_isStepTrueOf_172, ↓b_aload, ↓b_aload_n, ↓b_bipush, ↓b_callV3_1, ↓b_getA, ↓b_getI, ↓b_goto, ↓b_iadd, ↓b_iaload, ↓b_iand, ↓b_ic_ne, ↓b_iconst, ↓b_if_le, ↓b_iload_n, ↓b_imul, ↓b_ishr, ↓b_isub, ↓b_tsw, ↓b_zret, ↓ldI_hit, ↓ldI_skip, ↓ldL_hit, ↓ldL_skip, ↓ldA_hit, ↓ldA_skip, ↓ldelK_nil, ↓ldelK_hit, ↓ldelK_skipI, ↓ldelK_skipA, ↓ldelK_skipL, lget_hit, lget_skip, ldel_nil, ldel_hit, ldel_skipI, ldel_skipA, ldel_skipL, ldel2_nil, ldel2_hit, ldel2_hit2, ldel2_skipI, ldel2_skipA, ldel2_skipL, vc_0, mCall_P0, mCat_nil, mCat_I, mCat_L, mCat_A, mRcv_A, mArg_nil, mArg_I, mArg_L, mArg_A, tsg, swt_nil, swt_cons, lkw_nil, lkw_cons, ↓reduceIte, Nat.reduceAdd, Nat.reduceEqDiff, Nat.reduceLeDiff, Nat.reduceMul, true_and, and_true, and_self, List.mem_cons, List.not_mem_nil, or_false, or_self, false_or, true_implies, false_implies, not_true_eq_false, not_false_eq_true, nI00, nI10, nI01, nI11, forall_const, implies_true]
    exact ⟨hz _ _ _, hK⟩
  · obtain ⟨g, hg, hge⟩ := hv (Or.inl e)
    rw [if_pos e, hge, nI_clamp (by omega)] at hK
    rw [hge]
    simp (disch := omega) only [ixq, ixz, sb_in, sb_in0, upI_sb, upI_sb0, sb_out, nI_add, nI_mul, nI_subq, Nat.zero_add, forall_eq, u2_at, u2_row, upd_at, upd_ne, nI0b, nI1b, nI00, nI10, nI01, nI11, true_implies, false_implies, not_true_eq_false, not_false_eq_true, and_true, true_and, implies_true]
    refine ⟨fun hc => ?_, fun hc => ?_⟩
    · rw [bI_f (Int32.not_lt.mpr hc)] at hK
      exact hK
    · rw [bI_t (Int32.not_le.mp hc)] at hK
      exact hK
  · obtain ⟨g, hg, hge⟩ := hv (Or.inr e)
    rw [if_neg (by rw [e]; decide), if_pos e, hge, nI_clamp (by omega)] at hK
    rw [hge]
    simp (disch := omega) only [ixq, ixz, sb_in, sb_in0, upI_sb, upI_sb0, sb_out, nI_add, nI_mul, nI_subq, Nat.zero_add, forall_eq, u2_at, u2_row, upd_at, upd_ne, nI0b, nI1b, nI00, nI10, nI01, nI11, true_implies, false_implies, not_true_eq_false, not_false_eq_true, and_true, true_and, implies_true]
    refine ⟨fun hc => ?_, fun hc => ?_⟩
    · rw [bI_f (Int32.not_lt.mpr hc)] at hK
      exact hK
    · rw [bI_t (Int32.not_le.mp hc)] at hK
      exact hK
  · rw [if_neg (by rw [e]; decide), if_neg (by rw [e]; decide), if_pos e] at hK
    refine ⟨fun hc => ?_, fun hc => ?_⟩
    · rw [bI_f hc] at hK
      exact hK
    · rw [bI_t hc] at hK
      exact hK
  · rw [if_neg (by rw [e]; decide), if_neg (by rw [e]; decide), if_neg (by rw [e]; decide), if_pos e] at hK
    refine c_compares hi hS ?_
    simp only [↓w_X5_isStepTrueOf_0, ↓w_X5_isStepTrueOf_44, ↓w_X5_isStepTrueOf_67, ↓w_X5_isStepTrueOf_68, ↓w_X5_isStepTrueOf_69, ↓w_X5_isStepTrueOf_92, ↓w_X5_isStepTrueOf_93, ↓w_X5_isStepTrueOf_94, ↓w_X5_isStepTrueOf_118, ↓w_X5_isStepTrueOf_119, ↓w_X5_isStepTrueOf_120, ↓w_X5_isStepTrueOf_133, ↓w_X5_isStepTrueOf_152, ↓w_X5_isStepTrueOf_172, ↓v_X5_isStepTrueOf_44, ↓v_X5_isStepTrueOf_67, ↓v_X5_isStepTrueOf_68, ↓v_X5_isStepTrueOf_69, ↓v_X5_isStepTrueOf_92, ↓v_X5_isStepTrueOf_93, ↓v_X5_isStepTrueOf_94, ↓v_X5_isStepTrueOf_118, ↓v_X5_isStepTrueOf_119, ↓v_X5_isStepTrueOf_120, ↓v_X5_isStepTrueOf_133, ↓v_X5_isStepTrueOf_152, ↓v_X5_isStepTrueOf_172, ↓b_aload, ↓b_aload_n, ↓b_bipush, ↓b_callV3_1, ↓b_getA, ↓b_getI, ↓b_goto, ↓b_iadd, ↓b_iaload, ↓b_iand, ↓b_ic_ne, ↓b_iconst, ↓b_if_le, ↓b_iload_n, ↓b_imul, ↓b_ishr, ↓b_isub, ↓b_tsw, ↓b_zret, ↓ldI_hit, ↓ldI_skip, ↓ldL_hit, ↓ldL_skip, ↓ldA_hit, ↓ldA_skip, ↓ldelK_nil, ↓ldelK_hit, ↓ldelK_skipI, ↓ldelK_skipA, ↓ldelK_skipL, lget_hit, lget_skip, ldel_nil, ldel_hit, ldel_skipI, ldel_skipA, ldel_skipL, ldel2_nil, ldel2_hit, ldel2_hit2, ldel2_skipI, ldel2_skipA, ldel2_skipL, vc_0, mCall_P0, mCat_nil, mCat_I, mCat_L, mCat_A, mRcv_A, mArg_nil, mArg_I, mArg_L, mArg_A, tsg, swt_nil, swt_cons, lkw_nil, lkw_cons, ↓reduceIte, Nat.reduceAdd, Nat.reduceEqDiff, Nat.reduceLeDiff, Nat.reduceMul, true_and, and_true, and_self, List.mem_cons, List.not_mem_nil, or_false, or_self, false_or, true_implies, false_implies, not_true_eq_false, not_false_eq_true, nI00, nI10, nI01, nI11, forall_const, implies_true]
    exact ⟨hz _ _ _, hK⟩
  · rw [if_neg (by rw [e]; decide), if_neg (by rw [e]; decide), if_neg (by rw [e]; decide), if_neg (by rw [e]; decide), if_pos e] at hK
    refine c_compares hi hS ?_
    simp only [↓w_X5_isStepTrueOf_0, ↓w_X5_isStepTrueOf_44, ↓w_X5_isStepTrueOf_67, ↓w_X5_isStepTrueOf_68, ↓w_X5_isStepTrueOf_69, ↓w_X5_isStepTrueOf_92, ↓w_X5_isStepTrueOf_93, ↓w_X5_isStepTrueOf_94, ↓w_X5_isStepTrueOf_118, ↓w_X5_isStepTrueOf_119, ↓w_X5_isStepTrueOf_120, ↓w_X5_isStepTrueOf_133, ↓w_X5_isStepTrueOf_152, ↓w_X5_isStepTrueOf_172, ↓v_X5_isStepTrueOf_44, ↓v_X5_isStepTrueOf_67, ↓v_X5_isStepTrueOf_68, ↓v_X5_isStepTrueOf_69, ↓v_X5_isStepTrueOf_92, ↓v_X5_isStepTrueOf_93, ↓v_X5_isStepTrueOf_94, ↓v_X5_isStepTrueOf_118, ↓v_X5_isStepTrueOf_119, ↓v_X5_isStepTrueOf_120, ↓v_X5_isStepTrueOf_133, ↓v_X5_isStepTrueOf_152, ↓v_X5_isStepTrueOf_172, ↓b_aload, ↓b_aload_n, ↓b_bipush, ↓b_callV3_1, ↓b_getA, ↓b_getI, ↓b_goto, ↓b_iadd, ↓b_iaload, ↓b_iand, ↓b_ic_ne, ↓b_iconst, ↓b_if_le, ↓b_iload_n, ↓b_imul, ↓b_ishr, ↓b_isub, ↓b_tsw, ↓b_zret, ↓ldI_hit, ↓ldI_skip, ↓ldL_hit, ↓ldL_skip, ↓ldA_hit, ↓ldA_skip, ↓ldelK_nil, ↓ldelK_hit, ↓ldelK_skipI, ↓ldelK_skipA, ↓ldelK_skipL, lget_hit, lget_skip, ldel_nil, ldel_hit, ldel_skipI, ldel_skipA, ldel_skipL, ldel2_nil, ldel2_hit, ldel2_hit2, ldel2_skipI, ldel2_skipA, ldel2_skipL, vc_0, mCall_P0, mCat_nil, mCat_I, mCat_L, mCat_A, mRcv_A, mArg_nil, mArg_I, mArg_L, mArg_A, tsg, swt_nil, swt_cons, lkw_nil, lkw_cons, ↓reduceIte, Nat.reduceAdd, Nat.reduceEqDiff, Nat.reduceLeDiff, Nat.reduceMul, true_and, and_true, and_self, List.mem_cons, List.not_mem_nil, or_false, or_self, false_or, true_implies, false_implies, not_true_eq_false, not_false_eq_true, nI00, nI10, nI01, nI11, forall_const, implies_true]
    exact ⟨hz _ _ _, hK⟩
  · rw [if_neg (by rw [e]; decide), if_neg (by rw [e]; decide), if_neg (by rw [e]; decide), if_neg (by rw [e]; decide), if_neg (by rw [e]; decide), if_pos e] at hK
    refine c_compares hi hS ?_
    simp only [↓w_X5_isStepTrueOf_0, ↓w_X5_isStepTrueOf_44, ↓w_X5_isStepTrueOf_67, ↓w_X5_isStepTrueOf_68, ↓w_X5_isStepTrueOf_69, ↓w_X5_isStepTrueOf_92, ↓w_X5_isStepTrueOf_93, ↓w_X5_isStepTrueOf_94, ↓w_X5_isStepTrueOf_118, ↓w_X5_isStepTrueOf_119, ↓w_X5_isStepTrueOf_120, ↓w_X5_isStepTrueOf_133, ↓w_X5_isStepTrueOf_152, ↓w_X5_isStepTrueOf_172, ↓v_X5_isStepTrueOf_44, ↓v_X5_isStepTrueOf_67, ↓v_X5_isStepTrueOf_68, ↓v_X5_isStepTrueOf_69, ↓v_X5_isStepTrueOf_92, ↓v_X5_isStepTrueOf_93, ↓v_X5_isStepTrueOf_94, ↓v_X5_isStepTrueOf_118, ↓v_X5_isStepTrueOf_119, ↓v_X5_isStepTrueOf_120, ↓v_X5_isStepTrueOf_133, ↓v_X5_isStepTrueOf_152, ↓v_X5_isStepTrueOf_172, ↓b_aload, ↓b_aload_n, ↓b_bipush, ↓b_callV3_1, ↓b_getA, ↓b_getI, ↓b_goto, ↓b_iadd, ↓b_iaload, ↓b_iand, ↓b_ic_ne, ↓b_iconst, ↓b_if_le, ↓b_iload_n, ↓b_imul, ↓b_ishr, ↓b_isub, ↓b_tsw, ↓b_zret, ↓ldI_hit, ↓ldI_skip, ↓ldL_hit, ↓ldL_skip, ↓ldA_hit, ↓ldA_skip, ↓ldelK_nil, ↓ldelK_hit, ↓ldelK_skipI, ↓ldelK_skipA, ↓ldelK_skipL, lget_hit, lget_skip, ldel_nil, ldel_hit, ldel_skipI, ldel_skipA, ldel_skipL, ldel2_nil, ldel2_hit, ldel2_hit2, ldel2_skipI, ldel2_skipA, ldel2_skipL, vc_0, mCall_P0, mCat_nil, mCat_I, mCat_L, mCat_A, mRcv_A, mArg_nil, mArg_I, mArg_L, mArg_A, tsg, swt_nil, swt_cons, lkw_nil, lkw_cons, ↓reduceIte, Nat.reduceAdd, Nat.reduceEqDiff, Nat.reduceLeDiff, Nat.reduceMul, true_and, and_true, and_self, List.mem_cons, List.not_mem_nil, or_false, or_self, false_or, true_implies, false_implies, not_true_eq_false, not_false_eq_true, nI00, nI10, nI01, nI11, forall_const, implies_true]
    exact ⟨hz _ _ _, hK⟩
/-- the truths so far, as bits, behind step i -/
def truthF (B R S : Bk) (w i : Nat) (t : Int32) : Int32 :=
  if S 1 i = nI 11 then t ^^^ nI 1 else
  if S 1 i = nI 10 then (t >>> (nI 1 &&& 31)) &&& ((t &&& nI 1) ||| (-2)) else
  if S 1 i = nI 9 then (t >>> (nI 1 &&& 31)) ||| (t &&& nI 1) else
  t <<< (nI 1 &&& 31) ||| (if stepT B R S w i = 0 then nI 0 else nI 1)
theorem c_isTrueOf {w n : Nat} (hn : n ≤ 40) (hw : w < 8) (hS : ∀ k, k < 4 → μ.1 (s + k) = S k) (hB : ∀ k, k < 12 → μ.1 (b + k) = B k) (hR : ∀ k, k < 12 → μ.1 (r + k) = R k) (hL : S 0 1 = nI n) (hv : ∀ i, i < n → S 1 i = nI 12 ∨ S 1 i = nI 13 → ∃ g, g < 6 ∧ S 2 i = nI g) (hK : K (.inl (bI (fo n (truthF B R S w) (nI 0) &&& nI 1 = nI 1))) μ) : mMet X (h + 3) m_X5_isTrueOf [.inr (.inr (4, 0, s)), .inl (nI w), .inr (.inr (0, 0, b)), .inr (.inr (3, 0, r))] μ K := by
  have hS0 : μ.1 s = S 0 := hS 0 (by omega)
  refine vc_met2 P0_ok ok_X5_isTrueOf cm_X5_isTrueOf [6,116] 8 t_X5_isTrueOf_0 (Nat.le_of_ble_eq_true rfl) ?_
  simp only [mArg_nil, mArg_I, mArg_L, mArg_A, Nat.reduceAdd]
  simp only [↓w_X5_isTrueOf_0, ↓w_X5_isTrueOf_56, ↓w_X5_isTrueOf_65, ↓w_X5_isTrueOf_80, ↓w_X5_isTrueOf_92, ↓w_X5_isTrueOf_112, ↓w_X5_isTrueOf_113, ↓w_X5_isTrueOf_116, ↓w_X5_isTrueOf_122, ↓w_X5_isTrueOf_134, ↓w_X5_isTrueOf_135, ↓v_X5_isTrueOf_6, ↓v_X5_isTrueOf_56, ↓v_X5_isTrueOf_65, ↓v_X5_isTrueOf_80, ↓v_X5_isTrueOf_92, ↓v_X5_isTrueOf_112, ↓v_X5_isTrueOf_113, ↓v_X5_isTrueOf_116, ↓v_X5_isTrueOf_122, ↓v_X5_isTrueOf_134, ↓v_X5_isTrueOf_135, ↓b_aload_n, ↓b_bipush, ↓b_callV5_1, ↓b_getA, ↓b_getI, ↓b_goto, ↓b_iaload, ↓b_iand, ↓b_ic_ge, ↓b_ic_ne, ↓b_iconst, ↓b_if_eq, ↓n_iinc, ↓b_iload, ↓b_iload_n, ↓b_ior, ↓b_ishl, ↓b_ishr, ↓n_istore, ↓b_ixor, ↓b_tsw, ↓b_zret, ↓ldI_hit, ↓ldI_skip, ↓ldL_hit, ↓ldL_skip, ↓ldA_hit, ↓ldA_skip, ↓ldelK_nil, ↓ldelK_hit, ↓ldelK_skipI, ↓ldelK_skipA, ↓ldelK_skipL, lget_hit, lget_skip, ldel_nil, ldel_hit, ldel_skipI, ldel_skipA, ldel_skipL, ldel2_nil, ldel2_hit, ldel2_hit2, ldel2_skipI, ldel2_skipA, ldel2_skipL, vc_0, mCall_P0, mCat_nil, mCat_I, mCat_L, mCat_A, mRcv_A, mArg_nil, mArg_I, mArg_L, mArg_A, tsg, swt_nil, swt_cons, lkw_nil, lkw_cons, ↓reduceIte, Nat.reduceAdd, Nat.reduceEqDiff, Nat.reduceLeDiff, Nat.reduceMul, true_and, and_true, and_self, List.mem_cons, List.not_mem_nil, or_false, or_self, false_or, true_implies, false_implies, not_true_eq_false, not_false_eq_true, nI00, nI10, nI01, nI11, forall_const, implies_true]
  rintro _ rfl _ rfl
  refine loop_up (fun i => bb X P0 m_X5_isTrueOf (h + 2) K (vc X P0 m_X5_isTrueOf (h + 2) K k_X5_isTrueOf [6,116] 8) s_X5_isTrueOf_6 [(5, .inl (nI i)), (4, .inl (fo i (truthF B R S w) (nI 0))), (0, .inr (.inr (4, 0, s))), (1, .inl (nI w)), (2, .inr (.inr (0, 0, b))), (3, .inr (.inr (3, 0, r)))] [] μ) n ?_ ?_
  · simp only [↓w_X5_isTrueOf_0, ↓w_X5_isTrueOf_6, ↓w_X5_isTrueOf_56, ↓w_X5_isTrueOf_65, ↓w_X5_isTrueOf_80, ↓w_X5_isTrueOf_92, ↓w_X5_isTrueOf_112, ↓w_X5_isTrueOf_113, ↓w_X5_isTrueOf_116, ↓w_X5_isTrueOf_122, ↓w_X5_isTrueOf_134, ↓w_X5_isTrueOf_135, ↓v_X5_isTrueOf_6, ↓v_X5_isTrueOf_56, ↓v_X5_isTrueOf_65, ↓v_X5_isTrueOf_80, ↓v_X5_isTrueOf_92, ↓v_X5_isTrueOf_112, ↓v_X5_isTrueOf_113, ↓v_X5_isTrueOf_116, ↓v_X5_isTrueOf_122, ↓v_X5_isTrueOf_134, ↓v_X5_isTrueOf_135, ↓b_aload_n, ↓b_bipush, ↓b_callV5_1, ↓b_getA, ↓b_getI, ↓b_goto, ↓b_iaload, ↓b_iand, ↓b_ic_ge, ↓b_ic_ne, ↓b_iconst, ↓b_if_eq, ↓n_iinc, ↓b_iload, ↓b_iload_n, ↓b_ior, ↓b_ishl, ↓b_ishr, ↓n_istore, ↓b_ixor, ↓b_tsw, ↓b_zret, ↓ldI_hit, ↓ldI_skip, ↓ldL_hit, ↓ldL_skip, ↓ldA_hit, ↓ldA_skip, ↓ldelK_nil, ↓ldelK_hit, ↓ldelK_skipI, ↓ldelK_skipA, ↓ldelK_skipL, lget_hit, lget_skip, ldel_nil, ldel_hit, ldel_skipI, ldel_skipA, ldel_skipL, ldel2_nil, ldel2_hit, ldel2_hit2, ldel2_skipI, ldel2_skipA, ldel2_skipL, vc_0, mCall_P0, mCat_nil, mCat_I, mCat_L, mCat_A, mRcv_A, mArg_nil, mArg_I, mArg_L, mArg_A, tsg, swt_nil, swt_cons, lkw_nil, lkw_cons, ↓reduceIte, Nat.reduceAdd, Nat.reduceEqDiff, Nat.reduceLeDiff, Nat.reduceMul, true_and, and_true, and_self, List.mem_cons, List.not_mem_nil, or_false, or_self, false_or, true_implies, false_implies, not_true_eq_false, not_false_eq_true, nI00, nI10, nI01, nI11, forall_const, implies_true]
    simp (disch := omega) only [ixq, ixz, sb_in, sb_in0, upI_sb, upI_sb0, sb_out, nI_add, nI_mul, nI_subq, Nat.zero_add, forall_eq, u2_at, u2_row, upd_at, upd_ne, nI0b, nI1b, nI00, nI10, nI01, nI11, true_implies, false_implies, not_true_eq_false, not_false_eq_true, and_true, true_and, implies_true, hS, hS0, hL, nI_lq]
    refine ⟨fun _ => ⟨fun hc => ?_, fun hc => ?_⟩, fun hc => absurd (Nat.le_refl n) hc⟩
    · rw [bI_f hc] at hK
      exact hK
    · rw [bI_t hc] at hK
      exact hK
  · intro i hi ih
    rw [fo_s] at ih
    generalize fo i (truthF B R S w) (nI 0) = t at ih ⊢
    have fin : ∀ y t', t' = truthF B R S w i t → mAt X m_X5_isTrueOf (h + 2) K 116 [(6, .inl y), (5, .inl (nI i)), (4, .inl t'), (0, .inr (.inr (4, 0, s))), (1, .inl (nI w)), (2, .inr (.inr (0, 0, b))), (3, .inr (.inr (3, 0, r)))] [] μ := by
      intro y t' ht
      subst ht
      refine vc_from P0_ok ok_X5_isTrueOf [6, 116] 8 ?_
      rw [t_X5_isTrueOf_116]
      simp only [↓w_X5_isTrueOf_0, ↓w_X5_isTrueOf_6, ↓w_X5_isTrueOf_56, ↓w_X5_isTrueOf_65, ↓w_X5_isTrueOf_80, ↓w_X5_isTrueOf_92, ↓w_X5_isTrueOf_112, ↓w_X5_isTrueOf_113, ↓w_X5_isTrueOf_116, ↓w_X5_isTrueOf_122, ↓w_X5_isTrueOf_134, ↓w_X5_isTrueOf_135, ↓v_X5_isTrueOf_6, ↓v_X5_isTrueOf_56, ↓v_X5_isTrueOf_65, ↓v_X5_isTrueOf_80, ↓v_X5_isTrueOf_92, ↓v_X5_isTrueOf_112, ↓v_X5_isTrueOf_113, ↓v_X5_isTrueOf_116, ↓v_X5_isTrueOf_122, ↓v_X5_isTrueOf_134, ↓v_X5_isTrueOf_135, ↓b_aload_n, ↓b_bipush, ↓b_callV5_1, ↓b_getA, ↓b_getI, ↓b_goto, ↓b_iaload, ↓b_iand, ↓b_ic_ge, ↓b_ic_ne, ↓b_iconst, ↓b_if_eq, ↓n_iinc, ↓b_iload, ↓b_iload_n, ↓b_ior, ↓b_ishl, ↓b_ishr, ↓n_istore, ↓b_ixor, ↓b_tsw, ↓b_zret, ↓ldI_hit, ↓ldI_skip, ↓ldL_hit, ↓ldL_skip, ↓ldA_hit, ↓ldA_skip, ↓ldelK_nil, ↓ldelK_hit, ↓ldelK_skipI, ↓ldelK_skipA, ↓ldelK_skipL, lget_hit, lget_skip, ldel_nil, ldel_hit, ldel_skipI, ldel_skipA, ldel_skipL, ldel2_nil, ldel2_hit, ldel2_hit2, ldel2_skipI, ldel2_skipA, ldel2_skipL, vc_0, mCall_P0, mCat_nil, mCat_I, mCat_L, mCat_A, mRcv_A, mArg_nil, mArg_I, mArg_L, mArg_A, tsg, swt_nil, swt_cons, lkw_nil, lkw_cons, ↓reduceIte, Nat.reduceAdd, Nat.reduceEqDiff, Nat.reduceLeDiff, Nat.reduceMul, true_and, and_true, and_self, List.mem_cons, List.not_mem_nil, or_false, or_self, false_or, true_implies, false_implies, not_true_eq_false, not_false_eq_true, nI00, nI10, nI01, nI11, forall_const, implies_true]
      simp (disch := omega) only [ixq, ixz, sb_in, sb_in0, upI_sb, upI_sb0, sb_out, nI_add, nI_mul, nI_subq, Nat.zero_add, forall_eq, u2_at, u2_row, upd_at, upd_ne, nI0b, nI1b, nI00, nI10, nI01, nI11, true_implies, false_implies, not_true_eq_false, not_false_eq_true, and_true, true_and, implies_true]
      exact vc_back P0_ok ok_X5_isTrueOf [6, 116] 8 t_X5_isTrueOf_6 ih (by simp) rfl
    simp only [↓w_X5_isTrueOf_0, ↓w_X5_isTrueOf_6, ↓w_X5_isTrueOf_56, ↓w_X5_isTrueOf_65, ↓w_X5_isTrueOf_80, ↓w_X5_isTrueOf_92, ↓w_X5_isTrueOf_112, ↓w_X5_isTrueOf_113, ↓w_X5_isTrueOf_116, ↓w_X5_isTrueOf_122, ↓w_X5_isTrueOf_134, ↓w_X5_isTrueOf_135, ↓v_X5_isTrueOf_6, ↓v_X5_isTrueOf_56, ↓v_X5_isTrueOf_65, ↓v_X5_isTrueOf_80, ↓v_X5_isTrueOf_92, ↓v_X5_isTrueOf_112, ↓v_X5_isTrueOf_113, ↓v_X5_isTrueOf_116, ↓v_X5_isTrueOf_122, ↓v_X5_isTrueOf_134, ↓v_X5_isTrueOf_135, ↓b_aload_n, ↓b_bipush, ↓b_callV5_1, ↓b_getA, ↓b_getI, ↓b_goto, ↓b_iaload, ↓b_iand, ↓b_ic_ge, ↓b_ic_ne, ↓b_iconst, ↓b_if_eq, ↓n_iinc, ↓b_iload, ↓b_iload_n, ↓b_ior, ↓b_ishl, ↓b_ishr, ↓n_istore, ↓b_ixor, ↓b_tsw, ↓b_zret, ↓ldI_hit, ↓ldI_skip, ↓ldL_hit, ↓ldL_skip, ↓ldA_hit, ↓ldA_skip, ↓ldelK_nil, ↓ldelK_hit, ↓ldelK_skipI, ↓ldelK_skipA, ↓ldelK_skipL, lget_hit, lget_skip, ldel_nil, ldel_hit, ldel_skipI, ldel_skipA, ldel_skipL, ldel2_nil, ldel2_hit, ldel2_hit2, ldel2_skipI, ldel2_skipA, ldel2_skipL, vc_0, mCall_P0, mCat_nil, mCat_I, mCat_L, mCat_A, mRcv_A, mArg_nil, mArg_I, mArg_L, mArg_A, tsg, swt_nil, swt_cons, lkw_nil, lkw_cons, ↓reduceIte, Nat.reduceAdd, Nat.reduceEqDiff, Nat.reduceLeDiff, Nat.reduceMul, true_and, and_true, and_self, List.mem_cons, List.not_mem_nil, or_false, or_self, false_or, true_implies, false_implies, not_true_eq_false, not_false_eq_true, nI00, nI10, nI01, nI11, forall_const, implies_true]
    simp (disch := omega) only [ixq, ixz, sb_in, sb_in0, upI_sb, upI_sb0, sb_out, nI_add, nI_mul, nI_subq, Nat.zero_add, forall_eq, u2_at, u2_row, upd_at, upd_ne, nI0b, nI1b, nI00, nI10, nI01, nI11, true_implies, false_implies, not_true_eq_false, not_false_eq_true, and_true, true_and, implies_true, hS, hS0, hL, nI_lq]
    refine ⟨fun hc => absurd hc (by omega), fun _ => ⟨fun ho => ?_, fun e => ?_, fun e => ?_, fun e => ?_⟩⟩
    · have hne : ∀ k : Nat, 9 ≤ k → k ≤ 11 → ¬ S 1 i = nI k := fun k h1 h2 e => by
        rw [e, nI_toInt (by omega)] at ho
        omega
      have e0 : truthF B R S w i t = t <<< (nI 1 &&& 31) ||| (if stepT B R S w i = 0 then nI 0 else nI 1) := by
        unfold truthF
        rw [if_neg (hne 11 (by omega) (by omega)), if_neg (hne 10 (by omega) (by omega)), if_neg (hne 9 (by omega) (by omega))]
      rw [e0] at ih
      refine c_stepTrue (by omega) hw hS hB hR (hv i hi) ?_
      simp only [↓w_X5_isTrueOf_0, ↓w_X5_isTrueOf_6, ↓w_X5_isTrueOf_56, ↓w_X5_isTrueOf_65, ↓w_X5_isTrueOf_80, ↓w_X5_isTrueOf_92, ↓w_X5_isTrueOf_112, ↓w_X5_isTrueOf_113, ↓w_X5_isTrueOf_116, ↓w_X5_isTrueOf_122, ↓w_X5_isTrueOf_134, ↓w_X5_isTrueOf_135, ↓v_X5_isTrueOf_6, ↓v_X5_isTrueOf_56, ↓v_X5_isTrueOf_65, ↓v_X5_isTrueOf_80, ↓v_X5_isTrueOf_92, ↓v_X5_isTrueOf_112, ↓v_X5_isTrueOf_113, ↓v_X5_isTrueOf_116, ↓v_X5_isTrueOf_122, ↓v_X5_isTrueOf_134, ↓v_X5_isTrueOf_135, ↓b_aload_n, ↓b_bipush, ↓b_callV5_1, ↓b_getA, ↓b_getI, ↓b_goto, ↓b_iaload, ↓b_iand, ↓b_ic_ge, ↓b_ic_ne, ↓b_iconst, ↓b_if_eq, ↓n_iinc, ↓b_iload, ↓b_iload_n, ↓b_ior, ↓b_ishl, ↓b_ishr, ↓n_istore, ↓b_ixor, ↓b_tsw, ↓b_zret, ↓ldI_hit, ↓ldI_skip, ↓ldL_hit, ↓ldL_skip, ↓ldA_hit, ↓ldA_skip, ↓ldelK_nil, ↓ldelK_hit, ↓ldelK_skipI, ↓ldelK_skipA, ↓ldelK_skipL, lget_hit, lget_skip, ldel_nil, ldel_hit, ldel_skipI, ldel_skipA, ldel_skipL, ldel2_nil, ldel2_hit, ldel2_hit2, ldel2_skipI, ldel2_skipA, ldel2_skipL, vc_0, mCall_P0, mCat_nil, mCat_I, mCat_L, mCat_A, mRcv_A, mArg_nil, mArg_I, mArg_L, mArg_A, tsg, swt_nil, swt_cons, lkw_nil, lkw_cons, ↓reduceIte, Nat.reduceAdd, Nat.reduceEqDiff, Nat.reduceLeDiff, Nat.reduceMul, true_and, and_true, and_self, List.mem_cons, List.not_mem_nil, or_false, or_self, false_or, true_implies, false_implies, not_true_eq_false, not_false_eq_true, nI00, nI10, nI01, nI11, forall_const, implies_true]
      simp (disch := omega) only [ixq, ixz, sb_in, sb_in0, upI_sb, upI_sb0, sb_out, nI_add, nI_mul, nI_subq, Nat.zero_add, forall_eq, u2_at, u2_row, upd_at, upd_ne, nI0b, nI1b, nI00, nI10, nI01, nI11, true_implies, false_implies, not_true_eq_false, not_false_eq_true, and_true, true_and, implies_true]
      refine ⟨fun hz => ?_, fun hz => ?_⟩
      · rw [if_pos hz] at ih
        exact vc_back P0_ok ok_X5_isTrueOf [6, 116] 8 t_X5_isTrueOf_6 ih (by simp) rfl
      · rw [if_neg hz] at ih
        exact vc_back P0_ok ok_X5_isTrueOf [6, 116] 8 t_X5_isTrueOf_6 ih (by simp) rfl
    · refine mAt_sub ?_ (fin (t &&& nI 1) (t >>> (nI 1 &&& 31) ||| t &&& nI 1) ?_)
      · simp
      · unfold truthF
        rw [if_neg (by rw [e]; decide), if_neg (by rw [e]; decide), if_pos e]
    · refine mAt_sub ?_ (fin (t &&& nI 1) (t >>> (nI 1 &&& 31) &&& (t &&& nI 1 ||| -2)) ?_)
      · simp
      · unfold truthF
        rw [if_neg (by rw [e]; decide), if_pos e]
    · refine mAt_sub ?_ (fin (t &&& nI 1) (t ^^^ nI 1) ?_)
      · simp
      · unfold truthF
        rw [if_pos e]
end MSe
