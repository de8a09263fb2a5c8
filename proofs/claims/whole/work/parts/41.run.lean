def cpR (n : Nat) (f g : Nat → Int32) : Nat → Int32 := fun j => if j < n then f j else g j
theorem cpR_0 {f g : Nat → Int32} : cpR 0 f g = g := funext fun j => if_neg (Nat.not_lt_zero j)
theorem cpR_s {n : Nat} {f g : Nat → Int32} : upd (cpR n f g) n (f n) = cpR (n + 1) f g := by
  funext j
  unfold upd cpR
  by_cases h1 : j = n
  · subst h1; rw [if_pos rfl, if_pos (by omega)]
  · rw [if_neg h1]
    by_cases h2 : j < n
    · rw [if_pos h2, if_pos (by omega)]
    · rw [if_neg h2, if_neg (by omega)]
theorem cpR_in {n j : Nat} {f g : Nat → Int32} (h : j < n) : cpR n f g j = f j := if_pos h
theorem vup_id {Q : Bk} {k : Nat} : va_up Q k (Q k) = Q := by
  funext a
  by_cases h : a = k
  · subst h; rw [up_at]
  · rw [up_row h]
theorem u2_vup {Q : Bk} {k j : Nat} {F : Nat → Int32} {x : Int32} : u2 (va_up Q k F) k j x = va_up Q k (upd F j x) := by
  funext a
  by_cases h : a = k
  · subst h; rw [u2_at, up_at, up_at]
  · rw [u2_row h, up_row h, up_row h]
def layF (Q : Bk) : Bk := u2 (u2 (u2 (va_up Q 10 (cpR 278 (Q 2) (Q 10))) 0 27 (nI 0)) 0 28 (-1)) 0 29 (nI 0)
def startV (f : Nat → Int32) (V : Bk) : Bk := fo 8 (fun w V => u2 V 9 w (-1)) (fo 48 (fun c V => u2 V 1 c (f (134 + c))) (u2 (fo 296 (fun k V => u2 V (dk k).1 (dk k).2 (nI 0)) V) 18 0 (nI 1)))
def madeV (V : Bk) : Int32 := fo 8 (fun w s => s + V 13 w) (nI 0)
def runV (G W : Nat) (f : Nat → Int32) (fr : Nat → Int32) (n : Nat) (V : Bk) : Bk := fo n (fun k V => hourV G W f (fr k) (nI k) V) (startV f V)
section MRn
variable {X : mC} {h m r base n : Nat} {K : MV → Mem → Prop} {μ : Mem} {Q V : Bk} {G W L : Nat}
theorem c_layRule (hK : K (.inl 0) (sb μ m 21 (layF Q))) : mMet X (h + 1) m_X9_layRule [.inr (.inr (8, 0, m))] (sb μ m 21 Q) K := by
  (refine vc_met2 P0_ok ok_X9_layRule cm_X9_layRule [2] 4 t_X9_layRule_0 (Nat.le_of_ble_eq_true rfl) ?_; simp only [mArg_nil, mArg_I, mArg_L, mArg_A, Nat.reduceAdd])
  simp only [↓w_X9_layRule_0, ↓w_X9_layRule_27, ↓v_X9_layRule_2, ↓v_X9_layRule_27, ↓b_aload_n, ↓b_getA, ↓b_goto, ↓b_iaload, ↓n_iastore, ↓b_ic_ge, ↓b_iconst, ↓n_iinc, ↓b_iload_n, ↓n_istore_n, ↓n_putI, ↓n_putZ, ↓b_sipush, ↓b_vret, ↓ldI_hit, ↓ldI_skip, ↓ldL_hit, ↓ldL_skip, ↓ldA_hit, ↓ldA_skip, ↓ldelK_nil, ↓ldelK_hit, ↓ldelK_skipI, ↓ldelK_skipA, ↓ldelK_skipL, lget_hit, lget_skip, ldel_nil, ldel_hit, ldel_skipI, ldel_skipA, ldel_skipL, ldel2_nil, ldel2_hit, ldel2_hit2, ldel2_skipI, ldel2_skipA, ldel2_skipL, vc_0, mCall_P0, mCat_nil, mCat_I, mCat_L, mCat_A, mRcv_A, mArg_nil, mArg_I, mArg_L, mArg_A, tsg, swt_nil, swt_cons, lkw_nil, lkw_cons, ↓reduceIte, Nat.reduceAdd, Nat.reduceEqDiff, Nat.reduceLeDiff, Nat.reduceMul, true_and, and_true, and_self, List.mem_cons, List.not_mem_nil, or_false, or_self, false_or, true_implies, false_implies, not_true_eq_false, not_false_eq_true, nI00, nI10, nI01, nI11, forall_const, implies_true]
  rintro _ rfl
  have := loop_up (fun k => bb X P0 m_X9_layRule (h) K (vc X P0 m_X9_layRule (h) K k_X9_layRule [2] 4) s_X9_layRule_2 [(1, .inl (nI k)), (0, .inr (.inr (8, 0, m)))] [] (sb μ m 21 (va_up Q 10 (cpR k (Q 2) (Q 10))))) 278 ?_ ?_
  · rw [cpR_0, vup_id] at this
    exact this
  · simp only [↓w_X9_layRule_0, ↓w_X9_layRule_2, ↓w_X9_layRule_27, ↓v_X9_layRule_2, ↓v_X9_layRule_27, ↓b_aload_n, ↓b_getA, ↓b_goto, ↓b_iaload, ↓n_iastore, ↓b_ic_ge, ↓b_iconst, ↓n_iinc, ↓b_iload_n, ↓n_istore_n, ↓n_putI, ↓n_putZ, ↓b_sipush, ↓b_vret, ↓ldI_hit, ↓ldI_skip, ↓ldL_hit, ↓ldL_skip, ↓ldA_hit, ↓ldA_skip, ↓ldelK_nil, ↓ldelK_hit, ↓ldelK_skipI, ↓ldelK_skipA, ↓ldelK_skipL, lget_hit, lget_skip, ldel_nil, ldel_hit, ldel_skipI, ldel_skipA, ldel_skipL, ldel2_nil, ldel2_hit, ldel2_hit2, ldel2_skipI, ldel2_skipA, ldel2_skipL, vc_0, mCall_P0, mCat_nil, mCat_I, mCat_L, mCat_A, mRcv_A, mArg_nil, mArg_I, mArg_L, mArg_A, tsg, swt_nil, swt_cons, lkw_nil, lkw_cons, ↓reduceIte, Nat.reduceAdd, Nat.reduceEqDiff, Nat.reduceLeDiff, Nat.reduceMul, true_and, and_true, and_self, List.mem_cons, List.not_mem_nil, or_false, or_self, false_or, true_implies, false_implies, not_true_eq_false, not_false_eq_true, nI00, nI10, nI01, nI11, forall_const, implies_true]
    simp (disch := omega) only [ixq, ixz, sb_in, sb_in0, upI_sb, upI_sb0, sb_out, nI_add, nI_mul, nI_subq, Nat.zero_add, forall_eq, u2_at, u2_row, upd_at, upd_ne, nI0b, nI1b, nI00, nI10, nI01, nI11, true_implies, false_implies, not_true_eq_false, not_false_eq_true, and_true, true_and, implies_true, nI_lq]
    exact ⟨fun _ => hK, fun hc => absurd (Nat.le_refl 278) hc⟩
  · intro k hk ih
    rw [← cpR_s] at ih
    simp only [↓w_X9_layRule_0, ↓w_X9_layRule_2, ↓w_X9_layRule_27, ↓v_X9_layRule_2, ↓v_X9_layRule_27, ↓b_aload_n, ↓b_getA, ↓b_goto, ↓b_iaload, ↓n_iastore, ↓b_ic_ge, ↓b_iconst, ↓n_iinc, ↓b_iload_n, ↓n_istore_n, ↓n_putI, ↓n_putZ, ↓b_sipush, ↓b_vret, ↓ldI_hit, ↓ldI_skip, ↓ldL_hit, ↓ldL_skip, ↓ldA_hit, ↓ldA_skip, ↓ldelK_nil, ↓ldelK_hit, ↓ldelK_skipI, ↓ldelK_skipA, ↓ldelK_skipL, lget_hit, lget_skip, ldel_nil, ldel_hit, ldel_skipI, ldel_skipA, ldel_skipL, ldel2_nil, ldel2_hit, ldel2_hit2, ldel2_skipI, ldel2_skipA, ldel2_skipL, vc_0, mCall_P0, mCat_nil, mCat_I, mCat_L, mCat_A, mRcv_A, mArg_nil, mArg_I, mArg_L, mArg_A, tsg, swt_nil, swt_cons, lkw_nil, lkw_cons, ↓reduceIte, Nat.reduceAdd, Nat.reduceEqDiff, Nat.reduceLeDiff, Nat.reduceMul, true_and, and_true, and_self, List.mem_cons, List.not_mem_nil, or_false, or_self, false_or, true_implies, false_implies, not_true_eq_false, not_false_eq_true, nI00, nI10, nI01, nI11, forall_const, implies_true]
    simp (disch := omega) only [ixq, ixz, sb_in, sb_in0, upI_sb, upI_sb0, sb_out, nI_add, nI_mul, nI_subq, Nat.zero_add, forall_eq, u2_at, u2_row, upd_at, upd_ne, nI0b, nI1b, nI00, nI10, nI01, nI11, true_implies, false_implies, not_true_eq_false, not_false_eq_true, and_true, true_and, implies_true, nI_lq, u2_vup, up_row]
    refine ⟨fun hc => absurd hc (by omega), fun _ => ?_⟩
    exact vc_back P0_ok ok_X9_layRule [2] 4 t_X9_layRule_2 (ih) (by simp) (rfl)
theorem c_startR (hr : r = 2 ∨ r = 11) (hn : base + 296 ≤ n) (hn2 : n ≤ 925) (hK : K (.inl 0) (sb μ m 21 (rb r base Q (startV (Q 10) V)))) : mMet X (h + 1) m_X9_start [.inr (.inr (8, 0, m)), .inr (.inr (16, n, m + r)), .inl (nI base)] (sb μ m 21 (rb r base Q V)) K := by
  unfold startV at hK
  (refine vc_met2 P0_ok ok_X9_start cm_X9_start [2,21,29,58,60] 6 t_X9_start_0 (Nat.le_of_ble_eq_true rfl) ?_; simp only [mArg_nil, mArg_I, mArg_L, mArg_A, Nat.reduceAdd])
  generalize hV1 : fo 296 (fun k (V : Bk) => u2 V (dk k).1 (dk k).2 (nI 0)) V = V1 at hK
  generalize hV2 : fo 48 (fun c (V : Bk) => u2 V 1 c (Q 10 (134 + c))) (u2 V1 18 0 (nI 1)) = V2 at hK
  have k58 : ∀ y, mAt X m_X9_start (h) K 58 [(3, .inl y), (0, .inr (.inr (8, 0, m))), (1, .inr (.inr (16, n, m + r))), (2, .inl (nI base))] [] (sb μ m 21 (rb r base Q V2)) := by
    intro y
    (refine vc_from P0_ok ok_X9_start [2,21,29,58,60] 6 ?_; rw [t_X9_start_58])
    simp only [↓w_X9_start_0, ↓w_X9_start_2, ↓w_X9_start_21, ↓w_X9_start_29, ↓w_X9_start_58, ↓w_X9_start_82, ↓v_X9_start_2, ↓v_X9_start_21, ↓v_X9_start_29, ↓v_X9_start_58, ↓v_X9_start_60, ↓v_X9_start_82, ↓b_aload_n, ↓b_bipush, ↓b_getA, ↓b_goto, ↓b_iadd, ↓b_iaload, ↓n_iastore, ↓b_ic_ge, ↓b_iconst, ↓n_iinc, ↓b_iload_n, ↓n_istore_n, ↓b_sipush, ↓b_vret, ↓ldI_hit, ↓ldI_skip, ↓ldL_hit, ↓ldL_skip, ↓ldA_hit, ↓ldA_skip, ↓ldelK_nil, ↓ldelK_hit, ↓ldelK_skipI, ↓ldelK_skipA, ↓ldelK_skipL, lget_hit, lget_skip, ldel_nil, ldel_hit, ldel_skipI, ldel_skipA, ldel_skipL, ldel2_nil, ldel2_hit, ldel2_hit2, ldel2_skipI, ldel2_skipA, ldel2_skipL, vc_0, mCall_P0, mCat_nil, mCat_I, mCat_L, mCat_A, mRcv_A, mArg_nil, mArg_I, mArg_L, mArg_A, tsg, swt_nil, swt_cons, lkw_nil, lkw_cons, ↓reduceIte, Nat.reduceAdd, Nat.reduceEqDiff, Nat.reduceLeDiff, Nat.reduceMul, true_and, and_true, and_self, List.mem_cons, List.not_mem_nil, or_false, or_self, false_or, true_implies, false_implies, not_true_eq_false, not_false_eq_true, nI00, nI10, nI01, nI11, forall_const, implies_true]
    rintro _ rfl
    refine loop_up (fun k => bb X P0 m_X9_start (h) K (vc X P0 m_X9_start (h) K k_X9_start [2,21,29,58,60] 6) s_X9_start_60 [(3, .inl (nI k)), (0, .inr (.inr (8, 0, m))), (1, .inr (.inr (16, n, m + r))), (2, .inl (nI base))] [] (sb μ m 21 (rb r base Q (fo k (fun w (V : Bk) => u2 V 9 w (-1)) V2)))) 8 ?_ ?_
    · simp only [↓w_X9_start_0, ↓w_X9_start_2, ↓w_X9_start_21, ↓w_X9_start_29, ↓w_X9_start_58, ↓w_X9_start_60, ↓w_X9_start_82, ↓v_X9_start_2, ↓v_X9_start_21, ↓v_X9_start_29, ↓v_X9_start_58, ↓v_X9_start_60, ↓v_X9_start_82, ↓b_aload_n, ↓b_bipush, ↓b_getA, ↓b_goto, ↓b_iadd, ↓b_iaload, ↓n_iastore, ↓b_ic_ge, ↓b_iconst, ↓n_iinc, ↓b_iload_n, ↓n_istore_n, ↓b_sipush, ↓b_vret, ↓ldI_hit, ↓ldI_skip, ↓ldL_hit, ↓ldL_skip, ↓ldA_hit, ↓ldA_skip, ↓ldelK_nil, ↓ldelK_hit, ↓ldelK_skipI, ↓ldelK_skipA, ↓ldelK_skipL, lget_hit, lget_skip, ldel_nil, ldel_hit, ldel_skipI, ldel_skipA, ldel_skipL, ldel2_nil, ldel2_hit, ldel2_hit2, ldel2_skipI, ldel2_skipA, ldel2_skipL, vc_0, mCall_P0, mCat_nil, mCat_I, mCat_L, mCat_A, mRcv_A, mArg_nil, mArg_I, mArg_L, mArg_A, tsg, swt_nil, swt_cons, lkw_nil, lkw_cons, ↓reduceIte, Nat.reduceAdd, Nat.reduceEqDiff, Nat.reduceLeDiff, Nat.reduceMul, true_and, and_true, and_self, List.mem_cons, List.not_mem_nil, or_false, or_self, false_or, true_implies, false_implies, not_true_eq_false, not_false_eq_true, nI00, nI10, nI01, nI11, forall_const, implies_true]
      simp (disch := omega) only [ixq, ixz, sb_in, sb_in0, upI_sb, upI_sb0, sb_out, nI_add, nI_mul, nI_subq, Nat.zero_add, forall_eq, u2_at, u2_row, upd_at, upd_ne, nI0b, nI1b, nI00, nI10, nI01, nI11, true_implies, false_implies, not_true_eq_false, not_false_eq_true, and_true, true_and, implies_true, nI_lq]
      exact ⟨fun _ => hK, fun hc => absurd (Nat.le_refl 8) hc⟩
    · intro k hk ih
      rw [fo_s] at ih
      simp only [↓w_X9_start_0, ↓w_X9_start_2, ↓w_X9_start_21, ↓w_X9_start_29, ↓w_X9_start_58, ↓w_X9_start_60, ↓w_X9_start_82, ↓v_X9_start_2, ↓v_X9_start_21, ↓v_X9_start_29, ↓v_X9_start_58, ↓v_X9_start_60, ↓v_X9_start_82, ↓b_aload_n, ↓b_bipush, ↓b_getA, ↓b_goto, ↓b_iadd, ↓b_iaload, ↓n_iastore, ↓b_ic_ge, ↓b_iconst, ↓n_iinc, ↓b_iload_n, ↓n_istore_n, ↓b_sipush, ↓b_vret, ↓ldI_hit, ↓ldI_skip, ↓ldL_hit, ↓ldL_skip, ↓ldA_hit, ↓ldA_skip, ↓ldelK_nil, ↓ldelK_hit, ↓ldelK_skipI, ↓ldelK_skipA, ↓ldelK_skipL, lget_hit, lget_skip, ldel_nil, ldel_hit, ldel_skipI, ldel_skipA, ldel_skipL, ldel2_nil, ldel2_hit, ldel2_hit2, ldel2_skipI, ldel2_skipA, ldel2_skipL, vc_0, mCall_P0, mCat_nil, mCat_I, mCat_L, mCat_A, mRcv_A, mArg_nil, mArg_I, mArg_L, mArg_A, tsg, swt_nil, swt_cons, lkw_nil, lkw_cons, ↓reduceIte, Nat.reduceAdd, Nat.reduceEqDiff, Nat.reduceLeDiff, Nat.reduceMul, true_and, and_true, and_self, List.mem_cons, List.not_mem_nil, or_false, or_self, false_or, true_implies, false_implies, not_true_eq_false, not_false_eq_true, nI00, nI10, nI01, nI11, forall_const, implies_true]
      simp (disch := omega) only [ixq, ixz, sb_in, sb_in0, upI_sb, upI_sb0, sb_out, nI_add, nI_mul, nI_subq, Nat.zero_add, forall_eq, u2_at, u2_row, upd_at, upd_ne, nI0b, nI1b, nI00, nI10, nI01, nI11, true_implies, false_implies, not_true_eq_false, not_false_eq_true, and_true, true_and, implies_true, nI_lq, rb_12, rb_13, rb_14, rb_up12, rb_up13, rb_up14, rb_else, rd_is, ru_is, rd_hour, ru_hour, rd_vat, ru_vat, rd_mark, ru_mark, rd_comes, ru_comes, rd_lacks, ru_lacks, rd_way, ru_way, rd_wmark, ru_wmark, rd_wfrom, ru_wfrom, rd_went, ru_went, rd_stood, ru_stood, rd_made, ru_made, rd_found, ru_found, rd_latest, ru_latest, rd_now, ru_now, rd_fed, ru_fed, rd_brought, ru_brought, rd_given, ru_given, rd_used, ru_used, rd_lost, ru_lost, rd_out, ru_out]
      refine ⟨fun hc => absurd hc (by omega), fun _ => ?_⟩
      exact vc_back P0_ok ok_X9_start [2,21,29,58,60] 6 t_X9_start_60 (ih) (by simp) (rfl)
  have k21 : ∀ y, mAt X m_X9_start (h) K 21 [(3, .inl y), (0, .inr (.inr (8, 0, m))), (1, .inr (.inr (16, n, m + r))), (2, .inl (nI base))] [] (sb μ m 21 (rb r base Q V1)) := by
    intro y
    (refine vc_from P0_ok ok_X9_start [2,21,29,58,60] 6 ?_; rw [t_X9_start_21])
    simp only [↓w_X9_start_0, ↓w_X9_start_2, ↓w_X9_start_21, ↓w_X9_start_58, ↓w_X9_start_60, ↓w_X9_start_82, ↓v_X9_start_2, ↓v_X9_start_21, ↓v_X9_start_29, ↓v_X9_start_58, ↓v_X9_start_60, ↓v_X9_start_82, ↓b_aload_n, ↓b_bipush, ↓b_getA, ↓b_goto, ↓b_iadd, ↓b_iaload, ↓n_iastore, ↓b_ic_ge, ↓b_iconst, ↓n_iinc, ↓b_iload_n, ↓n_istore_n, ↓b_sipush, ↓b_vret, ↓ldI_hit, ↓ldI_skip, ↓ldL_hit, ↓ldL_skip, ↓ldA_hit, ↓ldA_skip, ↓ldelK_nil, ↓ldelK_hit, ↓ldelK_skipI, ↓ldelK_skipA, ↓ldelK_skipL, lget_hit, lget_skip, ldel_nil, ldel_hit, ldel_skipI, ldel_skipA, ldel_skipL, ldel2_nil, ldel2_hit, ldel2_hit2, ldel2_skipI, ldel2_skipA, ldel2_skipL, vc_0, mCall_P0, mCat_nil, mCat_I, mCat_L, mCat_A, mRcv_A, mArg_nil, mArg_I, mArg_L, mArg_A, tsg, swt_nil, swt_cons, lkw_nil, lkw_cons, ↓reduceIte, Nat.reduceAdd, Nat.reduceEqDiff, Nat.reduceLeDiff, Nat.reduceMul, true_and, and_true, and_self, List.mem_cons, List.not_mem_nil, or_false, or_self, false_or, true_implies, false_implies, not_true_eq_false, not_false_eq_true, nI00, nI10, nI01, nI11, forall_const, implies_true]
    simp (disch := omega) only [ixq, ixz, sb_in, sb_in0, upI_sb, upI_sb0, sb_out, nI_add, nI_mul, nI_subq, Nat.zero_add, forall_eq, u2_at, u2_row, upd_at, upd_ne, nI0b, nI1b, nI00, nI10, nI01, nI11, true_implies, false_implies, not_true_eq_false, not_false_eq_true, and_true, true_and, implies_true, rb_12, rb_13, rb_14, rb_up12, rb_up13, rb_up14, rb_else, rd_is, ru_is, rd_hour, ru_hour, rd_vat, ru_vat, rd_mark, ru_mark, rd_comes, ru_comes, rd_lacks, ru_lacks, rd_way, ru_way, rd_wmark, ru_wmark, rd_wfrom, ru_wfrom, rd_went, ru_went, rd_stood, ru_stood, rd_made, ru_made, rd_found, ru_found, rd_latest, ru_latest, rd_now, ru_now, rd_fed, ru_fed, rd_brought, ru_brought, rd_given, ru_given, rd_used, ru_used, rd_lost, ru_lost, rd_out, ru_out]
    refine loop_up (fun k => bb X P0 m_X9_start (h) K (vc X P0 m_X9_start (h) K k_X9_start [2,21,29,58,60] 6) s_X9_start_29 [(3, .inl (nI k)), (0, .inr (.inr (8, 0, m))), (1, .inr (.inr (16, n, m + r))), (2, .inl (nI base))] [] (sb μ m 21 (rb r base Q (fo k (fun c (V : Bk) => u2 V 1 c (Q 10 (134 + c))) (u2 V1 18 0 (nI 1)))))) 48 ?_ ?_
    · simp only [↓w_X9_start_0, ↓w_X9_start_2, ↓w_X9_start_21, ↓w_X9_start_29, ↓w_X9_start_58, ↓w_X9_start_60, ↓w_X9_start_82, ↓v_X9_start_2, ↓v_X9_start_21, ↓v_X9_start_29, ↓v_X9_start_58, ↓v_X9_start_60, ↓v_X9_start_82, ↓b_aload_n, ↓b_bipush, ↓b_getA, ↓b_goto, ↓b_iadd, ↓b_iaload, ↓n_iastore, ↓b_ic_ge, ↓b_iconst, ↓n_iinc, ↓b_iload_n, ↓n_istore_n, ↓b_sipush, ↓b_vret, ↓ldI_hit, ↓ldI_skip, ↓ldL_hit, ↓ldL_skip, ↓ldA_hit, ↓ldA_skip, ↓ldelK_nil, ↓ldelK_hit, ↓ldelK_skipI, ↓ldelK_skipA, ↓ldelK_skipL, lget_hit, lget_skip, ldel_nil, ldel_hit, ldel_skipI, ldel_skipA, ldel_skipL, ldel2_nil, ldel2_hit, ldel2_hit2, ldel2_skipI, ldel2_skipA, ldel2_skipL, vc_0, mCall_P0, mCat_nil, mCat_I, mCat_L, mCat_A, mRcv_A, mArg_nil, mArg_I, mArg_L, mArg_A, tsg, swt_nil, swt_cons, lkw_nil, lkw_cons, ↓reduceIte, Nat.reduceAdd, Nat.reduceEqDiff, Nat.reduceLeDiff, Nat.reduceMul, true_and, and_true, and_self, List.mem_cons, List.not_mem_nil, or_false, or_self, false_or, true_implies, false_implies, not_true_eq_false, not_false_eq_true, nI00, nI10, nI01, nI11, forall_const, implies_true]
      simp (disch := omega) only [ixq, ixz, sb_in, sb_in0, upI_sb, upI_sb0, sb_out, nI_add, nI_mul, nI_subq, Nat.zero_add, forall_eq, u2_at, u2_row, upd_at, upd_ne, nI0b, nI1b, nI00, nI10, nI01, nI11, true_implies, false_implies, not_true_eq_false, not_false_eq_true, and_true, true_and, implies_true, nI_lq]
      rw [hV2]
      exact ⟨fun _ => k58 _, fun hc => absurd (Nat.le_refl 48) hc⟩
    · intro k hk ih
      rw [fo_s] at ih
      simp only [↓w_X9_start_0, ↓w_X9_start_2, ↓w_X9_start_21, ↓w_X9_start_29, ↓w_X9_start_58, ↓w_X9_start_60, ↓w_X9_start_82, ↓v_X9_start_2, ↓v_X9_start_21, ↓v_X9_start_29, ↓v_X9_start_58, ↓v_X9_start_60, ↓v_X9_start_82, ↓b_aload_n, ↓b_bipush, ↓b_getA, ↓b_goto, ↓b_iadd, ↓b_iaload, ↓n_iastore, ↓b_ic_ge, ↓b_iconst, ↓n_iinc, ↓b_iload_n, ↓n_istore_n, ↓b_sipush, ↓b_vret, ↓ldI_hit, ↓ldI_skip, ↓ldL_hit, ↓ldL_skip, ↓ldA_hit, ↓ldA_skip, ↓ldelK_nil, ↓ldelK_hit, ↓ldelK_skipI, ↓ldelK_skipA, ↓ldelK_skipL, lget_hit, lget_skip, ldel_nil, ldel_hit, ldel_skipI, ldel_skipA, ldel_skipL, ldel2_nil, ldel2_hit, ldel2_hit2, ldel2_skipI, ldel2_skipA, ldel2_skipL, vc_0, mCall_P0, mCat_nil, mCat_I, mCat_L, mCat_A, mRcv_A, mArg_nil, mArg_I, mArg_L, mArg_A, tsg, swt_nil, swt_cons, lkw_nil, lkw_cons, ↓reduceIte, Nat.reduceAdd, Nat.reduceEqDiff, Nat.reduceLeDiff, Nat.reduceMul, true_and, and_true, and_self, List.mem_cons, List.not_mem_nil, or_false, or_self, false_or, true_implies, false_implies, not_true_eq_false, not_false_eq_true, nI00, nI10, nI01, nI11, forall_const, implies_true]
      simp (disch := omega) only [ixq, ixz, sb_in, sb_in0, upI_sb, upI_sb0, sb_out, nI_add, nI_mul, nI_subq, Nat.zero_add, forall_eq, u2_at, u2_row, upd_at, upd_ne, nI0b, nI1b, nI00, nI10, nI01, nI11, true_implies, false_implies, not_true_eq_false, not_false_eq_true, and_true, true_and, implies_true, nI_lq, rb_12, rb_13, rb_14, rb_up12, rb_up13, rb_up14, rb_else, rd_is, ru_is, rd_hour, ru_hour, rd_vat, ru_vat, rd_mark, ru_mark, rd_comes, ru_comes, rd_lacks, ru_lacks, rd_way, ru_way, rd_wmark, ru_wmark, rd_wfrom, ru_wfrom, rd_went, ru_went, rd_stood, ru_stood, rd_made, ru_made, rd_found, ru_found, rd_latest, ru_latest, rd_now, ru_now, rd_fed, ru_fed, rd_brought, ru_brought, rd_given, ru_given, rd_used, ru_used, rd_lost, ru_lost, rd_out, ru_out]
      refine ⟨fun hc => absurd hc (by omega), fun _ => ?_⟩
      exact vc_back P0_ok ok_X9_start [2,21,29,58,60] 6 t_X9_start_29 (ih) (by simp) (rfl)
  simp only [↓w_X9_start_0, ↓w_X9_start_21, ↓w_X9_start_29, ↓w_X9_start_58, ↓w_X9_start_60, ↓w_X9_start_82, ↓v_X9_start_2, ↓v_X9_start_21, ↓v_X9_start_29, ↓v_X9_start_58, ↓v_X9_start_60, ↓v_X9_start_82, ↓b_aload_n, ↓b_bipush, ↓b_getA, ↓b_goto, ↓b_iadd, ↓b_iaload, ↓n_iastore, ↓b_ic_ge, ↓b_iconst, ↓n_iinc, ↓b_iload_n, ↓n_istore_n, ↓b_sipush, ↓b_vret, ↓ldI_hit, ↓ldI_skip, ↓ldL_hit, ↓ldL_skip, ↓ldA_hit, ↓ldA_skip, ↓ldelK_nil, ↓ldelK_hit, ↓ldelK_skipI, ↓ldelK_skipA, ↓ldelK_skipL, lget_hit, lget_skip, ldel_nil, ldel_hit, ldel_skipI, ldel_skipA, ldel_skipL, ldel2_nil, ldel2_hit, ldel2_hit2, ldel2_skipI, ldel2_skipA, ldel2_skipL, vc_0, mCall_P0, mCat_nil, mCat_I, mCat_L, mCat_A, mRcv_A, mArg_nil, mArg_I, mArg_L, mArg_A, tsg, swt_nil, swt_cons, lkw_nil, lkw_cons, ↓reduceIte, Nat.reduceAdd, Nat.reduceEqDiff, Nat.reduceLeDiff, Nat.reduceMul, true_and, and_true, and_self, List.mem_cons, List.not_mem_nil, or_false, or_self, false_or, true_implies, false_implies, not_true_eq_false, not_false_eq_true, nI00, nI10, nI01, nI11, forall_const, implies_true]
  rintro _ rfl
  refine loop_up (fun k => bb X P0 m_X9_start (h) K (vc X P0 m_X9_start (h) K k_X9_start [2,21,29,58,60] 6) s_X9_start_2 [(3, .inl (nI k)), (0, .inr (.inr (8, 0, m))), (1, .inr (.inr (16, n, m + r))), (2, .inl (nI base))] [] (sb μ m 21 (rb r base Q (fo k (fun k (V : Bk) => u2 V (dk k).1 (dk k).2 (nI 0)) V)))) 296 ?_ ?_
  · simp only [↓w_X9_start_0, ↓w_X9_start_2, ↓w_X9_start_21, ↓w_X9_start_29, ↓w_X9_start_58, ↓w_X9_start_60, ↓w_X9_start_82, ↓v_X9_start_2, ↓v_X9_start_21, ↓v_X9_start_29, ↓v_X9_start_58, ↓v_X9_start_60, ↓v_X9_start_82, ↓b_aload_n, ↓b_bipush, ↓b_getA, ↓b_goto, ↓b_iadd, ↓b_iaload, ↓n_iastore, ↓b_ic_ge, ↓b_iconst, ↓n_iinc, ↓b_iload_n, ↓n_istore_n, ↓b_sipush, ↓b_vret, ↓ldI_hit, ↓ldI_skip, ↓ldL_hit, ↓ldL_skip, ↓ldA_hit, ↓ldA_skip, ↓ldelK_nil, ↓ldelK_hit, ↓ldelK_skipI, ↓ldelK_skipA, ↓ldelK_skipL, lget_hit, lget_skip, ldel_nil, ldel_hit, ldel_skipI, ldel_skipA, ldel_skipL, ldel2_nil, ldel2_hit, ldel2_hit2, ldel2_skipI, ldel2_skipA, ldel2_skipL, vc_0, mCall_P0, mCat_nil, mCat_I, mCat_L, mCat_A, mRcv_A, mArg_nil, mArg_I, mArg_L, mArg_A, tsg, swt_nil, swt_cons, lkw_nil, lkw_cons, ↓reduceIte, Nat.reduceAdd, Nat.reduceEqDiff, Nat.reduceLeDiff, Nat.reduceMul, true_and, and_true, and_self, List.mem_cons, List.not_mem_nil, or_false, or_self, false_or, true_implies, false_implies, not_true_eq_false, not_false_eq_true, nI00, nI10, nI01, nI11, forall_const, implies_true]
    simp (disch := omega) only [ixq, ixz, sb_in, sb_in0, upI_sb, upI_sb0, sb_out, nI_add, nI_mul, nI_subq, Nat.zero_add, forall_eq, u2_at, u2_row, upd_at, upd_ne, nI0b, nI1b, nI00, nI10, nI01, nI11, true_implies, false_implies, not_true_eq_false, not_false_eq_true, and_true, true_and, implies_true, nI_lq]
    rw [hV1]
    exact ⟨fun _ => k21 _, fun hc => absurd (Nat.le_refl 296) hc⟩
  · intro k hk ih
    rw [fo_s] at ih
    simp only [↓w_X9_start_0, ↓w_X9_start_2, ↓w_X9_start_21, ↓w_X9_start_29, ↓w_X9_start_58, ↓w_X9_start_60, ↓w_X9_start_82, ↓v_X9_start_2, ↓v_X9_start_21, ↓v_X9_start_29, ↓v_X9_start_58, ↓v_X9_start_60, ↓v_X9_start_82, ↓b_aload_n, ↓b_bipush, ↓b_getA, ↓b_goto, ↓b_iadd, ↓b_iaload, ↓n_iastore, ↓b_ic_ge, ↓b_iconst, ↓n_iinc, ↓b_iload_n, ↓n_istore_n, ↓b_sipush, ↓b_vret, ↓ldI_hit, ↓ldI_skip, ↓ldL_hit, ↓ldL_skip, ↓ldA_hit, ↓ldA_skip, ↓ldelK_nil, ↓ldelK_hit, ↓ldelK_skipI, ↓ldelK_skipA, ↓ldelK_skipL, lget_hit, lget_skip, ldel_nil, ldel_hit, ldel_skipI, ldel_skipA, ldel_skipL, ldel2_nil, ldel2_hit, ldel2_hit2, ldel2_skipI, ldel2_skipA, ldel2_skipL, vc_0, mCall_P0, mCat_nil, mCat_I, mCat_L, mCat_A, mRcv_A, mArg_nil, mArg_I, mArg_L, mArg_A, tsg, swt_nil, swt_cons, lkw_nil, lkw_cons, ↓reduceIte, Nat.reduceAdd, Nat.reduceEqDiff, Nat.reduceLeDiff, Nat.reduceMul, true_and, and_true, and_self, List.mem_cons, List.not_mem_nil, or_false, or_self, false_or, true_implies, false_implies, not_true_eq_false, not_false_eq_true, nI00, nI10, nI01, nI11, forall_const, implies_true]
    simp (disch := omega) only [ixq, ixz, sb_in, sb_in0, upI_sb, upI_sb0, sb_out, nI_add, nI_mul, nI_subq, Nat.zero_add, forall_eq, u2_at, u2_row, upd_at, upd_ne, nI0b, nI1b, nI00, nI10, nI01, nI11, true_implies, false_implies, not_true_eq_false, not_false_eq_true, and_true, true_and, implies_true, nI_lq, rb_up]
    refine ⟨fun hc => absurd hc (by omega), fun _ => ?_⟩
    exact vc_back P0_ok ok_X9_start [2,21,29,58,60] 6 t_X9_start_2 (ih) (by simp) (rfl)
theorem c_madeIn (hr : r = 2 ∨ r = 11) (hn : base + 296 ≤ n) (hn2 : n ≤ 925) (hK : K (.inl (madeV V)) (sb μ m 21 (rb r base Q V))) : mMet X (h + 1) m_X9_madeIn [.inr (.inr (8, 0, m)), .inr (.inr (16, n, m + r)), .inl (nI base)] (sb μ m 21 (rb r base Q V)) K := by
  (refine vc_met2 P0_ok ok_X9_madeIn cm_X9_madeIn [5] 6 t_X9_madeIn_0 (Nat.le_of_ble_eq_true rfl) ?_; simp only [mArg_nil, mArg_I, mArg_L, mArg_A, Nat.reduceAdd])
  simp only [↓w_X9_madeIn_0, ↓w_X9_madeIn_31, ↓v_X9_madeIn_5, ↓v_X9_madeIn_31, ↓b_aload_n, ↓b_bipush, ↓b_goto, ↓b_iadd, ↓b_iaload, ↓b_ic_ge, ↓b_iconst, ↓n_iinc, ↓b_iload, ↓b_iload_n, ↓b_iret, ↓n_istore, ↓n_istore_n, ↓b_sipush, ↓ldI_hit, ↓ldI_skip, ↓ldL_hit, ↓ldL_skip, ↓ldA_hit, ↓ldA_skip, ↓ldelK_nil, ↓ldelK_hit, ↓ldelK_skipI, ↓ldelK_skipA, ↓ldelK_skipL, lget_hit, lget_skip, ldel_nil, ldel_hit, ldel_skipI, ldel_skipA, ldel_skipL, ldel2_nil, ldel2_hit, ldel2_hit2, ldel2_skipI, ldel2_skipA, ldel2_skipL, vc_0, mCall_P0, mCat_nil, mCat_I, mCat_L, mCat_A, mRcv_A, mArg_nil, mArg_I, mArg_L, mArg_A, tsg, swt_nil, swt_cons, lkw_nil, lkw_cons, ↓reduceIte, Nat.reduceAdd, Nat.reduceEqDiff, Nat.reduceLeDiff, Nat.reduceMul, true_and, and_true, and_self, List.mem_cons, List.not_mem_nil, or_false, or_self, false_or, true_implies, false_implies, not_true_eq_false, not_false_eq_true, nI00, nI10, nI01, nI11, forall_const, implies_true]
  rintro _ rfl _ rfl
  refine loop_up (fun k => bb X P0 m_X9_madeIn (h) K (vc X P0 m_X9_madeIn (h) K k_X9_madeIn [5] 6) s_X9_madeIn_5 [(4, .inl (nI k)), (3, .inl (fo k (fun w s => s + V 13 w) (nI 0))), (0, .inr (.inr (8, 0, m))), (1, .inr (.inr (16, n, m + r))), (2, .inl (nI base))] [] (sb μ m 21 (rb r base Q V))) 8 ?_ ?_
  · simp only [↓w_X9_madeIn_0, ↓w_X9_madeIn_5, ↓w_X9_madeIn_31, ↓v_X9_madeIn_5, ↓v_X9_madeIn_31, ↓b_aload_n, ↓b_bipush, ↓b_goto, ↓b_iadd, ↓b_iaload, ↓b_ic_ge, ↓b_iconst, ↓n_iinc, ↓b_iload, ↓b_iload_n, ↓b_iret, ↓n_istore, ↓n_istore_n, ↓b_sipush, ↓ldI_hit, ↓ldI_skip, ↓ldL_hit, ↓ldL_skip, ↓ldA_hit, ↓ldA_skip, ↓ldelK_nil, ↓ldelK_hit, ↓ldelK_skipI, ↓ldelK_skipA, ↓ldelK_skipL, lget_hit, lget_skip, ldel_nil, ldel_hit, ldel_skipI, ldel_skipA, ldel_skipL, ldel2_nil, ldel2_hit, ldel2_hit2, ldel2_skipI, ldel2_skipA, ldel2_skipL, vc_0, mCall_P0, mCat_nil, mCat_I, mCat_L, mCat_A, mRcv_A, mArg_nil, mArg_I, mArg_L, mArg_A, tsg, swt_nil, swt_cons, lkw_nil, lkw_cons, ↓reduceIte, Nat.reduceAdd, Nat.reduceEqDiff, Nat.reduceLeDiff, Nat.reduceMul, true_and, and_true, and_self, List.mem_cons, List.not_mem_nil, or_false, or_self, false_or, true_implies, false_implies, not_true_eq_false, not_false_eq_true, nI00, nI10, nI01, nI11, forall_const, implies_true]
    simp (disch := omega) only [ixq, ixz, sb_in, sb_in0, upI_sb, upI_sb0, sb_out, nI_add, nI_mul, nI_subq, Nat.zero_add, forall_eq, u2_at, u2_row, upd_at, upd_ne, nI0b, nI1b, nI00, nI10, nI01, nI11, true_implies, false_implies, not_true_eq_false, not_false_eq_true, and_true, true_and, implies_true, nI_lq]
    exact ⟨fun _ => hK, fun hc => absurd (Nat.le_refl 8) hc⟩
  · intro k hk ih
    rw [fo_s] at ih
    simp only [↓w_X9_madeIn_0, ↓w_X9_madeIn_5, ↓w_X9_madeIn_31, ↓v_X9_madeIn_5, ↓v_X9_madeIn_31, ↓b_aload_n, ↓b_bipush, ↓b_goto, ↓b_iadd, ↓b_iaload, ↓b_ic_ge, ↓b_iconst, ↓n_iinc, ↓b_iload, ↓b_iload_n, ↓b_iret, ↓n_istore, ↓n_istore_n, ↓b_sipush, ↓ldI_hit, ↓ldI_skip, ↓ldL_hit, ↓ldL_skip, ↓ldA_hit, ↓ldA_skip, ↓ldelK_nil, ↓ldelK_hit, ↓ldelK_skipI, ↓ldelK_skipA, ↓ldelK_skipL, lget_hit, lget_skip, ldel_nil, ldel_hit, ldel_skipI, ldel_skipA, ldel_skipL, ldel2_nil, ldel2_hit, ldel2_hit2, ldel2_skipI, ldel2_skipA, ldel2_skipL, vc_0, mCall_P0, mCat_nil, mCat_I, mCat_L, mCat_A, mRcv_A, mArg_nil, mArg_I, mArg_L, mArg_A, tsg, swt_nil, swt_cons, lkw_nil, lkw_cons, ↓reduceIte, Nat.reduceAdd, Nat.reduceEqDiff, Nat.reduceLeDiff, Nat.reduceMul, true_and, and_true, and_self, List.mem_cons, List.not_mem_nil, or_false, or_self, false_or, true_implies, false_implies, not_true_eq_false, not_false_eq_true, nI00, nI10, nI01, nI11, forall_const, implies_true]
    simp (disch := omega) only [ixq, ixz, sb_in, sb_in0, upI_sb, upI_sb0, sb_out, nI_add, nI_mul, nI_subq, Nat.zero_add, forall_eq, u2_at, u2_row, upd_at, upd_ne, nI0b, nI1b, nI00, nI10, nI01, nI11, true_implies, false_implies, not_true_eq_false, not_false_eq_true, and_true, true_and, implies_true, nI_lq, rb_12, rb_13, rb_14, rb_up12, rb_up13, rb_up14, rb_else, rd_is, ru_is, rd_hour, ru_hour, rd_vat, ru_vat, rd_mark, ru_mark, rd_comes, ru_comes, rd_lacks, ru_lacks, rd_way, ru_way, rd_wmark, ru_wmark, rd_wfrom, ru_wfrom, rd_went, ru_went, rd_stood, ru_stood, rd_made, ru_made, rd_found, ru_found, rd_latest, ru_latest, rd_now, ru_now, rd_fed, ru_fed, rd_brought, ru_brought, rd_given, ru_given, rd_used, ru_used, rd_lost, ru_lost, rd_out, ru_out]
    refine ⟨fun hc => absurd hc (by omega), fun _ => ?_⟩
    exact vc_back P0_ok ok_X9_madeIn [5] 6 t_X9_madeIn_5 (ih) (by simp) (rfl)
end MRn
/-! the reference's own rows: its HOUR is counted, nothing else of row 0 -/
section MRo
variable {G W n : Nat} {V : Bk} {f : Nat → Int32} {free hour : Int32}
theorem go_0 {w : Nat} : goV G f w hour V 0 = V 0 := by
  unfold goV
  rw [u2_row (by decide), u2_row (by decide), u2_row (by decide), u2_row (by decide)]
  have h1 := fo_inv (P := fun _ (p : Bk × Int32) => KV p.1 V) (fa := useV f w) (a := (V, nI 0)) G KV_rf (fun i p _ hp => KV_tr use_kv hp)
  have h2 := fo_inv (P := fun _ (V' : Bk) => KV V' V) (fa := giveV f w (fo G (useV f w) (V, nI 0)).2) (a := (fo G (useV f w) (V, nI 0)).1) G h1 (fun i p _ hp => KV_tr give_kv hp)
  exact h2 0 (by omega)
theorem work_0 {w : Nat} : workV G W f free hour w V 0 = V 0 := by
  have h1 := fo_inv (P := fun _ (V' : Bk) => KV V' V) (fa := fillV f w) (a := V) G KV_rf (fun i p _ hp => KV_tr fill_kv hp)
  have h2 : KV (mayV G f free (hodOf hour) w (fo G (fillV f w) V)).1 V := by
    unfold mayV
    by_cases hc : (f (14 + w) ≤ hodOf hour ∧ hodOf hour ≤ f (22 + w)) ∧ free >>> (nI w &&& 31) &&& nI 1 = nI 1
    · rw [if_pos hc]
      exact fo_inv (P := fun _ (p : Bk × Int32) => KV p.1 V) (fa := hasF (rv f) w) (a := (fo G (fillV f w) V, nI 1)) G h1 (fun i p _ hp => KV_tr has_kv hp)
    · rw [if_neg hc]; exact h1
  have h3 : stepV G f hour w (mayV G f free (hodOf hour) w (fo G (fillV f w) V)) 0 = V 0 := by
    unfold stepV
    by_cases hc : (mayV G f free (hodOf hour) w (fo G (fillV f w) V)).2 = 0
    · rw [if_pos hc, u2_row (by decide), u2_row (by decide)]; exact h2 0 (by omega)
    · rw [if_neg hc, go_0, u2_row (by decide)]; exact h2 0 (by omega)
  unfold workV
  by_cases hc : w + 1 < W
  · rw [if_pos hc]
    have h4 := fo_inv (P := fun _ (V' : Bk) => V' 0 = V 0) (fa := loseV f) (a := stepV G f hour w (mayV G f free (hodOf hour) w (fo G (fillV f w) V))) G h3 (fun i p _ hp => (lose_kv 0 (by omega)).trans hp)
    exact h4
  · rw [if_neg hc]; exact h3
theorem pass_0 : passV G W f free hour V 0 = V 0 := by
  unfold passV
  have h1 := fo_inv (P := fun _ (V' : Bk) => V' 0 = V 0) (fa := loadV f) (a := V) G rfl (fun i p _ hp => by
    unfold loadV
    by_cases hc : f 2 ≤ 0
    · rw [if_pos hc, u2_row (by decide), u2_row (by decide), u2_row (by decide)]; exact hp
    · rw [if_neg hc, lose_kv 0 (by omega), u2_row (by decide), u2_row (by decide), u2_row (by decide)]; exact hp)
  have h2 := fo_inv (P := fun _ (V' : Bk) => V' 0 = V 0) (fa := workV G W f free hour) (a := fo G (loadV f) V) W h1 (fun i p _ hp => work_0.trans hp)
  exact fo_inv (P := fun _ (V' : Bk) => V' 0 = V 0) (fa := storeV f) (a := fo W (workV G W f free hour) (fo G (loadV f) V)) G h2 (fun i p _ hp => by
    unfold storeV
    by_cases hc : f 2 ≤ 0
    · rw [if_pos hc, u2_row (by decide), u2_row (by decide), u2_row (by decide), u2_row (by decide)]; exact hp
    · rw [if_neg hc, u2_row (by decide), u2_row (by decide), u2_row (by decide)]; exact hp)
theorem zero_at {V : Bk} : ∀ n, ∀ o, o < n → fo n (fun k (V : Bk) => u2 V (dk k).1 (dk k).2 (nI 0)) V (dk o).1 (dk o).2 = nI 0 := by
  intro n
  induction n with
  | zero => intro o ho; omega
  | succ n ih =>
    intro o ho
    rw [fo_s]
    by_cases h1 : (dk o).1 = (dk n).1
    · rw [h1, u2_at]
      by_cases h2 : (dk o).2 = (dk n).2
      · rw [h2, upd_at]
      · rw [upd_ne h2, ← h1]
        exact ih o (by
          have : o ≠ n := fun e => h2 (by rw [e])
          omega)
    · rw [u2_row h1]
      exact ih o (by
        have : o ≠ n := fun e => h1 (by rw [e])
        omega)
theorem zero_k {V : Bk} {k j o : Nat} (h : dk o = (k, j)) (ho : o < 296) : fo 296 (fun k (V : Bk) => u2 V (dk k).1 (dk k).2 (nI 0)) V k j = nI 0 := by
  have := zero_at (V := V) 296 o ho
  rw [h] at this
  exact this
theorem start_at {V : Bk} : (∀ c, c < 48 → startV f V 1 c = f (134 + c)) ∧ (∀ w, w < 8 → startV f V 9 w = -1) ∧ startV f V 18 0 = nI 1 ∧ ∀ k, k ≠ 1 → k ≠ 9 → k ≠ 18 → startV f V k = fo 296 (fun k (V : Bk) => u2 V (dk k).1 (dk k).2 (nI 0)) V k := by
  unfold startV
  generalize fo 296 (fun k (V : Bk) => u2 V (dk k).1 (dk k).2 (nI 0)) V = V1
  have q1 := fo_inv (P := fun i (V' : Bk) => (∀ c, c < i → V' 1 c = f (134 + c)) ∧ ∀ k, k ≠ 1 → V' k = (u2 V1 18 0 (nI 1)) k) (fa := fun c (V : Bk) => u2 V 1 c (f (134 + c))) (a := u2 V1 18 0 (nI 1)) 48 ⟨fun c hc => absurd hc (Nat.not_lt_zero c), fun _ _ => rfl⟩ (fun i V' hi hp => ⟨fun c hc => by
    show u2 V' 1 i (f (134 + i)) 1 c = _
    rw [u2_at]
    by_cases hci : c = i
    · subst hci; rw [upd_at]
    · rw [upd_ne hci]; exact hp.1 c (by omega), fun k hk => by
    show u2 V' 1 i (f (134 + i)) k = _
    rw [u2_row hk]; exact hp.2 k hk⟩)
  generalize fo 48 (fun c (V : Bk) => u2 V 1 c (f (134 + c))) (u2 V1 18 0 (nI 1)) = V2 at q1 ⊢
  have q2 := fo_inv (P := fun i (V' : Bk) => (∀ w, w < i → V' 9 w = -1) ∧ ∀ k, k ≠ 9 → V' k = V2 k) (fa := fun w (V : Bk) => u2 V 9 w (-1)) (a := V2) 8 ⟨fun c hc => absurd hc (Nat.not_lt_zero c), fun _ _ => rfl⟩ (fun i V' hi hp => ⟨fun c hc => by
    show u2 V' 9 i (-1) 9 c = _
    rw [u2_at]
    by_cases hci : c = i
    · subst hci; rw [upd_at]
    · rw [upd_ne hci]; exact hp.1 c (by omega), fun k hk => by
    show u2 V' 9 i (-1) k = _
    rw [u2_row hk]; exact hp.2 k hk⟩)
  refine ⟨fun c hc => ?_, q2.1, ?_, fun k h1 h9 h18 => ?_⟩
  · rw [q2.2 1 (by decide)]; exact q1.1 c hc
  · rw [q2.2 18 (by decide), q1.2 18 (by decide), u2_at, upd_at]
  · rw [q2.2 k h9, q1.2 k h1, u2_row h18]
theorem start_0 {V : Bk} : startV f V 0 0 = nI 0 := by
  rw [start_at.2.2.2 0 (by decide) (by decide) (by decide)]
  exact zero_k (o := 1) (by rfl) (by decide)
theorem run_0 {fr : Nat → Int32} {S : Bk} (hS : S 0 0 = nI 0) : ∀ n, fo n (fun k V => hourV G W f (fr k) (nI k) V) S 0 0 = nI n := by
  intro n
  induction n with
  | zero => exact hS
  | succ n ih =>
    rw [fo_s]
    generalize fo n (fun k V => hourV G W f (fr k) (nI k) V) S = V1 at ih ⊢
    unfold hourV
    rw [u2_at, upd_at, pass_0, ih, nI_add]
end MRo
