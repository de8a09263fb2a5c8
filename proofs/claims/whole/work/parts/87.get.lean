theorem ixP {g : Int32} {n : Nat} (hn : n < 2 ^ 31) : (0 ≤ g ∧ g < nI n) = ∃ j, j < n ∧ g = nI j := by
  apply propext
  constructor
  · rintro ⟨h1, h2⟩
    rcases pk_ix g hn with h | h | h
    · exact absurd h1 (Int32.not_le.mpr h)
    · exact absurd h2 (Int32.not_lt.mpr h)
    · exact h
  · rintro ⟨j, hj, rfl⟩
    exact ⟨nI_pos' (by omega), (nI_ltI (by omega) hn).mpr hj⟩
theorem exn {j n : Nat} (hj : j < n) (hn : n < 2 ^ 31) : (∃ i, i < n ∧ nI j = nI i) = True := by
  apply propext
  exact ⟨fun _ => trivial, fun _ => ⟨j, hj, rfl⟩⟩
theorem z0 : ((0 : Int32) < nI 0) = False := propext ⟨fun h => absurd h (by decide), False.elim⟩
theorem z1 : ((0 : Int32) < nI 1) = True := propext ⟨fun _ => trivial, fun _ => by decide⟩
section MG1
variable {X : mC} {h x m : Nat} {μ : Mem}
/-- the reference begins by forgetting what it threw -/
theorem Rel_thr {y : Int32} (hx : x + 164 = m) (hr : Rel x m μ) : Rel x m (sb μ m 21 (u2 (bk μ m) 0 0 y)) := Rel_ref hx hr (fun k hk => by rw [u2_row (by omega)]; rfl) (fun j hj => by rw [u2_at, upd_ne (by omega)]; rfl)
theorem ref_in {M H : Nat} {as : List MV} {K : MV → Mem → Prop} (h : mMet X H M as (sb μ m 21 (bk μ m)) K) : mMet X H M as μ K := by
  rw [sb_self] at h
  exact h
/-- class, then reference: the same answer, and Rel behind -/
def PAIR (X : mC) (H M8 M9 x m : Nat) (as : List MV) (μ : Mem) : Prop := mMet X H M8 (.inr (.inr (7, 0, x)) :: as) μ (fun a μ1 => mMet X H M9 (.inr (.inr (8, 0, m)) :: as) μ1 (fun b μ2 => a = b ∧ Rel x m μ2))
theorem get {H M8 M9 : Nat} {as : List MV} (v : MV) (hx : x + 164 = m) (hr : Rel x m μ) (hc : ∀ K : MV → Mem → Prop, K v μ → mMet X H M8 (.inr (.inr (7, 0, x)) :: as) μ K) (hd : ∀ K : MV → Mem → Prop, K v (sb μ m 21 (u2 (bk μ m) 0 0 (nI 0))) → mMet X H M9 (.inr (.inr (8, 0, m)) :: as) (sb μ m 21 (bk μ m)) K) : PAIR X H M8 M9 x m as μ := hc _ (ref_in (hd _ ⟨rfl, Rel_thr hx hr⟩))
theorem f_loss {g : Int32} (hx : x + 164 = m) (hr : Rel x m μ) : PAIR X (h + 3) m_X8_loss m_X9_loss x m [.inl g] μ := by
  obtain ⟨G, W, rb, pl, sn, rn⟩ := id hr.2.2.1
  have b0 : μ.1 (x + 4) 0 = nI G := rb.b0
  have b1 : μ.1 (x + 4) 1 = nI W := rb.b1
  have q0 : bk μ m 2 0 = nI G := rb.q0
  have q1 : bk μ m 2 1 = nI W := rb.q1
  have g6 := rb.g6
  have w8 := rb.w8
  by_cases hg : ∃ j, j < G ∧ g = nI j
  · obtain ⟨j, hj, rfl⟩ := hg
    have el : bk μ m 2 (8 + j) = μ.1 (x + 4 + 3) j := (rb.ls j hj).1
    refine get (.inl (μ.1 (x + 4 + 3) j)) hx hr (fun K hK => ?_) (fun K hK => ?_)
    · (refine vc_met2 P2_ok ok_X8_loss cm_X8_loss [] 6 t_X8_loss_0 (Nat.le_of_ble_eq_true rfl) ?_; simp only [mArg_nil, mArg_I, mArg_L, mArg_A, Nat.reduceAdd])
      simp only [↓w_X8_loss_0, ↓w_X8_loss_20, ↓w_X8_loss_21, ↓v_X8_loss_20, ↓v_X8_loss_21, ↓b_aload_n, ↓b_callV2_1, ↓b_getA, ↓b_goto, ↓b_iaload, ↓b_iconst, ↓b_if_eq, ↓b_iload_n, ↓b_iret, ↓ldI_hit, ↓ldI_skip, ↓ldL_hit, ↓ldL_skip, ↓ldA_hit, ↓ldA_skip, ↓ldelK_nil, ↓ldelK_hit, ↓ldelK_skipI, ↓ldelK_skipA, ↓ldelK_skipL, qP2_X8_isGood, ↓bI_b, bI_0, nnot, lget_hit, lget_skip, ldel_nil, ldel_hit, ldel_skipI, ldel_skipA, ldel_skipL, ldel2_nil, ldel2_hit, ldel2_hit2, ldel2_skipI, ldel2_skipA, ldel2_skipL, vc_0, mCat_nil, mCat_I, mCat_L, mCat_A, mRcv_A, mArg_nil, mArg_I, mArg_L, mArg_A, tsg, swt_nil, swt_cons, lkw_nil, lkw_cons, ↓reduceIte, Nat.reduceAdd, Nat.reduceEqDiff, Nat.reduceLeDiff, Nat.reduceMul, true_and, and_true, and_self, List.mem_cons, List.not_mem_nil, or_false, or_self, false_or, true_implies, false_implies, not_true_eq_false, not_false_eq_true, nI00, nI10, nI01, nI11, forall_const, implies_true]
      simp (disch := omega) only [ixq, ixz, sb_in, sb_in0, upI_sb, upI_sb0, sb_out, nI_add, nI_mul, nI_subq, Nat.zero_add, forall_eq, u2_at, u2_row, upd_at, upd_ne, nI0b, nI1b, nI00, nI10, nI01, nI11, true_implies, false_implies, not_true_eq_false, not_false_eq_true, and_true, true_and, implies_true, b0, ixP, exn]
      exact hK
    · (refine vc_met2 P2_ok ok_X9_loss cm_X9_loss [] 6 t_X9_loss_0 (Nat.le_of_ble_eq_true rfl) ?_; simp only [mArg_nil, mArg_I, mArg_L, mArg_A, Nat.reduceAdd])
      simp only [↓w_X9_loss_0, ↓w_X9_loss_25, ↓w_X9_loss_26, ↓v_X9_loss_25, ↓v_X9_loss_26, ↓b_aload_n, ↓b_bipush, ↓b_callV2_1, ↓b_getA, ↓b_goto, ↓b_iadd, ↓b_iaload, ↓b_iconst, ↓b_if_eq, ↓b_iload_n, ↓b_iret, ↓n_putI, ↓ldI_hit, ↓ldI_skip, ↓ldL_hit, ↓ldL_skip, ↓ldA_hit, ↓ldA_skip, ↓ldelK_nil, ↓ldelK_hit, ↓ldelK_skipI, ↓ldelK_skipA, ↓ldelK_skipL, qP2_X9_isGood, ↓bI_b, bI_0, nnot, lget_hit, lget_skip, ldel_nil, ldel_hit, ldel_skipI, ldel_skipA, ldel_skipL, ldel2_nil, ldel2_hit, ldel2_hit2, ldel2_skipI, ldel2_skipA, ldel2_skipL, vc_0, mCat_nil, mCat_I, mCat_L, mCat_A, mRcv_A, mArg_nil, mArg_I, mArg_L, mArg_A, tsg, swt_nil, swt_cons, lkw_nil, lkw_cons, ↓reduceIte, Nat.reduceAdd, Nat.reduceEqDiff, Nat.reduceLeDiff, Nat.reduceMul, true_and, and_true, and_self, List.mem_cons, List.not_mem_nil, or_false, or_self, false_or, true_implies, false_implies, not_true_eq_false, not_false_eq_true, nI00, nI10, nI01, nI11, forall_const, implies_true]
      simp (disch := omega) only [ixq, ixz, sb_in, sb_in0, upI_sb, upI_sb0, sb_out, nI_add, nI_mul, nI_subq, Nat.zero_add, forall_eq, u2_at, u2_row, upd_at, upd_ne, nI0b, nI1b, nI00, nI10, nI01, nI11, true_implies, false_implies, not_true_eq_false, not_false_eq_true, and_true, true_and, implies_true, q0, ixP, exn, el]
      exact hK
  · refine get (.inl (-1)) hx hr (fun K hK => ?_) (fun K hK => ?_)
    · (refine vc_met2 P2_ok ok_X8_loss cm_X8_loss [] 6 t_X8_loss_0 (Nat.le_of_ble_eq_true rfl) ?_; simp only [mArg_nil, mArg_I, mArg_L, mArg_A, Nat.reduceAdd])
      simp only [↓w_X8_loss_0, ↓w_X8_loss_20, ↓w_X8_loss_21, ↓v_X8_loss_20, ↓v_X8_loss_21, ↓b_aload_n, ↓b_callV2_1, ↓b_getA, ↓b_goto, ↓b_iaload, ↓b_iconst, ↓b_if_eq, ↓b_iload_n, ↓b_iret, ↓ldI_hit, ↓ldI_skip, ↓ldL_hit, ↓ldL_skip, ↓ldA_hit, ↓ldA_skip, ↓ldelK_nil, ↓ldelK_hit, ↓ldelK_skipI, ↓ldelK_skipA, ↓ldelK_skipL, qP2_X8_isGood, ↓bI_b, bI_0, nnot, lget_hit, lget_skip, ldel_nil, ldel_hit, ldel_skipI, ldel_skipA, ldel_skipL, ldel2_nil, ldel2_hit, ldel2_hit2, ldel2_skipI, ldel2_skipA, ldel2_skipL, vc_0, mCat_nil, mCat_I, mCat_L, mCat_A, mRcv_A, mArg_nil, mArg_I, mArg_L, mArg_A, tsg, swt_nil, swt_cons, lkw_nil, lkw_cons, ↓reduceIte, Nat.reduceAdd, Nat.reduceEqDiff, Nat.reduceLeDiff, Nat.reduceMul, true_and, and_true, and_self, List.mem_cons, List.not_mem_nil, or_false, or_self, false_or, true_implies, false_implies, not_true_eq_false, not_false_eq_true, nI00, nI10, nI01, nI11, forall_const, implies_true]
      simp (disch := omega) only [ixq, ixz, sb_in, sb_in0, upI_sb, upI_sb0, sb_out, nI_add, nI_mul, nI_subq, Nat.zero_add, forall_eq, u2_at, u2_row, upd_at, upd_ne, nI0b, nI1b, nI00, nI10, nI01, nI11, true_implies, false_implies, not_true_eq_false, not_false_eq_true, and_true, true_and, implies_true, b0, ixP, hg]
      exact hK
    · (refine vc_met2 P2_ok ok_X9_loss cm_X9_loss [] 6 t_X9_loss_0 (Nat.le_of_ble_eq_true rfl) ?_; simp only [mArg_nil, mArg_I, mArg_L, mArg_A, Nat.reduceAdd])
      simp only [↓w_X9_loss_0, ↓w_X9_loss_25, ↓w_X9_loss_26, ↓v_X9_loss_25, ↓v_X9_loss_26, ↓b_aload_n, ↓b_bipush, ↓b_callV2_1, ↓b_getA, ↓b_goto, ↓b_iadd, ↓b_iaload, ↓b_iconst, ↓b_if_eq, ↓b_iload_n, ↓b_iret, ↓n_putI, ↓ldI_hit, ↓ldI_skip, ↓ldL_hit, ↓ldL_skip, ↓ldA_hit, ↓ldA_skip, ↓ldelK_nil, ↓ldelK_hit, ↓ldelK_skipI, ↓ldelK_skipA, ↓ldelK_skipL, qP2_X9_isGood, ↓bI_b, bI_0, nnot, lget_hit, lget_skip, ldel_nil, ldel_hit, ldel_skipI, ldel_skipA, ldel_skipL, ldel2_nil, ldel2_hit, ldel2_hit2, ldel2_skipI, ldel2_skipA, ldel2_skipL, vc_0, mCat_nil, mCat_I, mCat_L, mCat_A, mRcv_A, mArg_nil, mArg_I, mArg_L, mArg_A, tsg, swt_nil, swt_cons, lkw_nil, lkw_cons, ↓reduceIte, Nat.reduceAdd, Nat.reduceEqDiff, Nat.reduceLeDiff, Nat.reduceMul, true_and, and_true, and_self, List.mem_cons, List.not_mem_nil, or_false, or_self, false_or, true_implies, false_implies, not_true_eq_false, not_false_eq_true, nI00, nI10, nI01, nI11, forall_const, implies_true]
      simp (disch := omega) only [ixq, ixz, sb_in, sb_in0, upI_sb, upI_sb0, sb_out, nI_add, nI_mul, nI_subq, Nat.zero_add, forall_eq, u2_at, u2_row, upd_at, upd_ne, nI0b, nI1b, nI00, nI10, nI01, nI11, true_implies, false_implies, not_true_eq_false, not_false_eq_true, and_true, true_and, implies_true, q0, ixP, hg]
      exact hK
theorem f_fault (hx : x + 164 = m) (hr : Rel x m μ) : PAIR X (h + 3) m_X8_fault m_X9_fault x m [] μ := by
  have e : μ.1 x 17 = bk μ m 0 10 := hr.2.2.2.2.2.2.2
  refine get (.inl (μ.1 x 17)) hx hr (fun K hK => ?_) (fun K hK => ?_)
  · (refine vc_met2 P2_ok ok_X8_fault cm_X8_fault [] 6 t_X8_fault_0 (Nat.le_of_ble_eq_true rfl) ?_; simp only [mArg_nil, mArg_I, mArg_L, mArg_A, Nat.reduceAdd])
    simp only [↓w_X8_fault_0, ↓b_aload_n, ↓b_getI, ↓b_iret, ↓ldI_hit, ↓ldI_skip, ↓ldL_hit, ↓ldL_skip, ↓ldA_hit, ↓ldA_skip, ↓ldelK_nil, ↓ldelK_hit, ↓ldelK_skipI, ↓ldelK_skipA, ↓ldelK_skipL, ↓bI_b, bI_0, nnot, lget_hit, lget_skip, ldel_nil, ldel_hit, ldel_skipI, ldel_skipA, ldel_skipL, ldel2_nil, ldel2_hit, ldel2_hit2, ldel2_skipI, ldel2_skipA, ldel2_skipL, vc_0, mCat_nil, mCat_I, mCat_L, mCat_A, mRcv_A, mArg_nil, mArg_I, mArg_L, mArg_A, tsg, swt_nil, swt_cons, lkw_nil, lkw_cons, ↓reduceIte, Nat.reduceAdd, Nat.reduceEqDiff, Nat.reduceLeDiff, Nat.reduceMul, true_and, and_true, and_self, List.mem_cons, List.not_mem_nil, or_false, or_self, false_or, true_implies, false_implies, not_true_eq_false, not_false_eq_true, nI00, nI10, nI01, nI11, forall_const, implies_true]
    exact hK
  · rw [e] at hK
    (refine vc_met2 P2_ok ok_X9_fault cm_X9_fault [] 6 t_X9_fault_0 (Nat.le_of_ble_eq_true rfl) ?_; simp only [mArg_nil, mArg_I, mArg_L, mArg_A, Nat.reduceAdd])
    simp only [↓w_X9_fault_0, ↓b_aload_n, ↓b_getI, ↓b_iconst, ↓b_iret, ↓n_putI, ↓ldI_hit, ↓ldI_skip, ↓ldL_hit, ↓ldL_skip, ↓ldA_hit, ↓ldA_skip, ↓ldelK_nil, ↓ldelK_hit, ↓ldelK_skipI, ↓ldelK_skipA, ↓ldelK_skipL, ↓bI_b, bI_0, nnot, lget_hit, lget_skip, ldel_nil, ldel_hit, ldel_skipI, ldel_skipA, ldel_skipL, ldel2_nil, ldel2_hit, ldel2_hit2, ldel2_skipI, ldel2_skipA, ldel2_skipL, vc_0, mCat_nil, mCat_I, mCat_L, mCat_A, mRcv_A, mArg_nil, mArg_I, mArg_L, mArg_A, tsg, swt_nil, swt_cons, lkw_nil, lkw_cons, ↓reduceIte, Nat.reduceAdd, Nat.reduceEqDiff, Nat.reduceLeDiff, Nat.reduceMul, true_and, and_true, and_self, List.mem_cons, List.not_mem_nil, or_false, or_self, false_or, true_implies, false_implies, not_true_eq_false, not_false_eq_true, nI00, nI10, nI01, nI11, forall_const, implies_true]
    simp (disch := omega) only [ixq, ixz, sb_in, sb_in0, upI_sb, upI_sb0, sb_out, nI_add, nI_mul, nI_subq, Nat.zero_add, forall_eq, u2_at, u2_row, upd_at, upd_ne, nI0b, nI1b, nI00, nI10, nI01, nI11, true_implies, false_implies, not_true_eq_false, not_false_eq_true, and_true, true_and, implies_true]
    exact hK
theorem f_kindled (hx : x + 164 = m) (hr : Rel x m μ) : PAIR X (h + 3) m_X8_kindled m_X9_kindled x m [] μ := by
  have e : μ.1 x 16 = bk μ m 0 35 := hr.2.2.2.2.2.2.1
  refine get (.inl (μ.1 x 16)) hx hr (fun K hK => ?_) (fun K hK => ?_)
  · (refine vc_met2 P2_ok ok_X8_kindled cm_X8_kindled [] 6 t_X8_kindled_0 (Nat.le_of_ble_eq_true rfl) ?_; simp only [mArg_nil, mArg_I, mArg_L, mArg_A, Nat.reduceAdd])
    simp only [↓w_X8_kindled_0, ↓b_aload_n, ↓b_getI, ↓b_iret, ↓ldI_hit, ↓ldI_skip, ↓ldL_hit, ↓ldL_skip, ↓ldA_hit, ↓ldA_skip, ↓ldelK_nil, ↓ldelK_hit, ↓ldelK_skipI, ↓ldelK_skipA, ↓ldelK_skipL, ↓bI_b, bI_0, nnot, lget_hit, lget_skip, ldel_nil, ldel_hit, ldel_skipI, ldel_skipA, ldel_skipL, ldel2_nil, ldel2_hit, ldel2_hit2, ldel2_skipI, ldel2_skipA, ldel2_skipL, vc_0, mCat_nil, mCat_I, mCat_L, mCat_A, mRcv_A, mArg_nil, mArg_I, mArg_L, mArg_A, tsg, swt_nil, swt_cons, lkw_nil, lkw_cons, ↓reduceIte, Nat.reduceAdd, Nat.reduceEqDiff, Nat.reduceLeDiff, Nat.reduceMul, true_and, and_true, and_self, List.mem_cons, List.not_mem_nil, or_false, or_self, false_or, true_implies, false_implies, not_true_eq_false, not_false_eq_true, nI00, nI10, nI01, nI11, forall_const, implies_true]
    exact hK
  · rw [e] at hK
    (refine vc_met2 P2_ok ok_X9_kindled cm_X9_kindled [] 6 t_X9_kindled_0 (Nat.le_of_ble_eq_true rfl) ?_; simp only [mArg_nil, mArg_I, mArg_L, mArg_A, Nat.reduceAdd])
    simp only [↓w_X9_kindled_0, ↓b_aload_n, ↓b_getI, ↓b_iconst, ↓b_iret, ↓n_putI, ↓ldI_hit, ↓ldI_skip, ↓ldL_hit, ↓ldL_skip, ↓ldA_hit, ↓ldA_skip, ↓ldelK_nil, ↓ldelK_hit, ↓ldelK_skipI, ↓ldelK_skipA, ↓ldelK_skipL, ↓bI_b, bI_0, nnot, lget_hit, lget_skip, ldel_nil, ldel_hit, ldel_skipI, ldel_skipA, ldel_skipL, ldel2_nil, ldel2_hit, ldel2_hit2, ldel2_skipI, ldel2_skipA, ldel2_skipL, vc_0, mCat_nil, mCat_I, mCat_L, mCat_A, mRcv_A, mArg_nil, mArg_I, mArg_L, mArg_A, tsg, swt_nil, swt_cons, lkw_nil, lkw_cons, ↓reduceIte, Nat.reduceAdd, Nat.reduceEqDiff, Nat.reduceLeDiff, Nat.reduceMul, true_and, and_true, and_self, List.mem_cons, List.not_mem_nil, or_false, or_self, false_or, true_implies, false_implies, not_true_eq_false, not_false_eq_true, nI00, nI10, nI01, nI11, forall_const, implies_true]
    simp (disch := omega) only [ixq, ixz, sb_in, sb_in0, upI_sb, upI_sb0, sb_out, nI_add, nI_mul, nI_subq, Nat.zero_add, forall_eq, u2_at, u2_row, upd_at, upd_ne, nI0b, nI1b, nI00, nI10, nI01, nI11, true_implies, false_implies, not_true_eq_false, not_false_eq_true, and_true, true_and, implies_true]
    exact hK
theorem f_byteAt {i : Int32} (hx : x + 164 = m) (hr : Rel x m μ) : PAIR X (h + 3) m_X8_byteAt m_X9_byteAt x m [.inl i] μ := by
  obtain ⟨n, n1, n2, n3, n4⟩ := hr.2.2.2.2.1
  have n3' : bk μ m 0 38 = nI n := n3
  by_cases hg : ∃ j, j < n ∧ i = nI j
  · obtain ⟨j, hj, rfl⟩ := hg
    have el : bk μ m 18 j = μ.1 (x + 160) j := (n4 j hj).symm
    have hj0 : ¬ nI j < 0 := nI_pos (by omega)
    refine get (.inl (μ.1 (x + 160) j)) hx hr (fun K hK => ?_) (fun K hK => ?_)
    · (refine vc_met2 P2_ok ok_X8_byteAt cm_X8_byteAt [] 6 t_X8_byteAt_0 (Nat.le_of_ble_eq_true rfl) ?_; simp only [mArg_nil, mArg_I, mArg_L, mArg_A, Nat.reduceAdd])
      simp only [↓w_X8_byteAt_0, ↓w_X8_byteAt_27, ↓w_X8_byteAt_28, ↓v_X8_byteAt_27, ↓v_X8_byteAt_28, ↓b_aload_n, ↓b_getA, ↓b_getI, ↓b_goto, ↓b_iaload, ↓b_ic_ge, ↓b_iconst, ↓b_if_lt, ↓b_iload_n, ↓b_iret, ↓ldI_hit, ↓ldI_skip, ↓ldL_hit, ↓ldL_skip, ↓ldA_hit, ↓ldA_skip, ↓ldelK_nil, ↓ldelK_hit, ↓ldelK_skipI, ↓ldelK_skipA, ↓ldelK_skipL, ↓bI_b, bI_0, nnot, lget_hit, lget_skip, ldel_nil, ldel_hit, ldel_skipI, ldel_skipA, ldel_skipL, ldel2_nil, ldel2_hit, ldel2_hit2, ldel2_skipI, ldel2_skipA, ldel2_skipL, vc_0, mCat_nil, mCat_I, mCat_L, mCat_A, mRcv_A, mArg_nil, mArg_I, mArg_L, mArg_A, tsg, swt_nil, swt_cons, lkw_nil, lkw_cons, ↓reduceIte, Nat.reduceAdd, Nat.reduceEqDiff, Nat.reduceLeDiff, Nat.reduceMul, true_and, and_true, and_self, List.mem_cons, List.not_mem_nil, or_false, or_self, false_or, true_implies, false_implies, not_true_eq_false, not_false_eq_true, nI00, nI10, nI01, nI11, forall_const, implies_true]
      simp (disch := omega) only [ixq, ixz, sb_in, sb_in0, upI_sb, upI_sb0, sb_out, nI_add, nI_mul, nI_subq, Nat.zero_add, forall_eq, u2_at, u2_row, upd_at, upd_ne, nI0b, nI1b, nI00, nI10, nI01, nI11, true_implies, false_implies, not_true_eq_false, not_false_eq_true, and_true, true_and, implies_true, n2, nI_lz, nI_lq, Nat.add_assoc, Nat.reduceAdd]
      exact ⟨fun hc => absurd hc (by omega), fun _ => hK⟩
    · (refine vc_met2 P2_ok ok_X9_byteAt cm_X9_byteAt [] 6 t_X9_byteAt_0 (Nat.le_of_ble_eq_true rfl) ?_; simp only [mArg_nil, mArg_I, mArg_L, mArg_A, Nat.reduceAdd])
      simp only [↓w_X9_byteAt_0, ↓w_X9_byteAt_26, ↓w_X9_byteAt_27, ↓v_X9_byteAt_26, ↓v_X9_byteAt_27, ↓b_aload_n, ↓b_getA, ↓b_getI, ↓b_goto, ↓b_iaload, ↓b_ic_ge, ↓b_iconst, ↓b_if_lt, ↓b_iload_n, ↓b_iret, ↓n_putI, ↓ldI_hit, ↓ldI_skip, ↓ldL_hit, ↓ldL_skip, ↓ldA_hit, ↓ldA_skip, ↓ldelK_nil, ↓ldelK_hit, ↓ldelK_skipI, ↓ldelK_skipA, ↓ldelK_skipL, ↓bI_b, bI_0, nnot, lget_hit, lget_skip, ldel_nil, ldel_hit, ldel_skipI, ldel_skipA, ldel_skipL, ldel2_nil, ldel2_hit, ldel2_hit2, ldel2_skipI, ldel2_skipA, ldel2_skipL, vc_0, mCat_nil, mCat_I, mCat_L, mCat_A, mRcv_A, mArg_nil, mArg_I, mArg_L, mArg_A, tsg, swt_nil, swt_cons, lkw_nil, lkw_cons, ↓reduceIte, Nat.reduceAdd, Nat.reduceEqDiff, Nat.reduceLeDiff, Nat.reduceMul, true_and, and_true, and_self, List.mem_cons, List.not_mem_nil, or_false, or_self, false_or, true_implies, false_implies, not_true_eq_false, not_false_eq_true, nI00, nI10, nI01, nI11, forall_const, implies_true]
      simp (disch := omega) only [ixq, ixz, sb_in, sb_in0, upI_sb, upI_sb0, sb_out, nI_add, nI_mul, nI_subq, Nat.zero_add, forall_eq, u2_at, u2_row, upd_at, upd_ne, nI0b, nI1b, nI00, nI10, nI01, nI11, true_implies, false_implies, not_true_eq_false, not_false_eq_true, and_true, true_and, implies_true, n3', nI_lz, nI_lq, el]
      exact ⟨fun hc => absurd hc (by omega), fun _ => hK⟩
  · have hg' : ¬ (0 ≤ i ∧ i < nI n) := by rw [ixP (by omega)]; exact hg
    refine get (.inl (-1)) hx hr (fun K hK => ?_) (fun K hK => ?_)
    · (refine vc_met2 P2_ok ok_X8_byteAt cm_X8_byteAt [] 6 t_X8_byteAt_0 (Nat.le_of_ble_eq_true rfl) ?_; simp only [mArg_nil, mArg_I, mArg_L, mArg_A, Nat.reduceAdd])
      simp only [↓w_X8_byteAt_0, ↓w_X8_byteAt_27, ↓w_X8_byteAt_28, ↓v_X8_byteAt_27, ↓v_X8_byteAt_28, ↓b_aload_n, ↓b_getA, ↓b_getI, ↓b_goto, ↓b_iaload, ↓b_ic_ge, ↓b_iconst, ↓b_if_lt, ↓b_iload_n, ↓b_iret, ↓ldI_hit, ↓ldI_skip, ↓ldL_hit, ↓ldL_skip, ↓ldA_hit, ↓ldA_skip, ↓ldelK_nil, ↓ldelK_hit, ↓ldelK_skipI, ↓ldelK_skipA, ↓ldelK_skipL, ↓bI_b, bI_0, nnot, lget_hit, lget_skip, ldel_nil, ldel_hit, ldel_skipI, ldel_skipA, ldel_skipL, ldel2_nil, ldel2_hit, ldel2_hit2, ldel2_skipI, ldel2_skipA, ldel2_skipL, vc_0, mCat_nil, mCat_I, mCat_L, mCat_A, mRcv_A, mArg_nil, mArg_I, mArg_L, mArg_A, tsg, swt_nil, swt_cons, lkw_nil, lkw_cons, ↓reduceIte, Nat.reduceAdd, Nat.reduceEqDiff, Nat.reduceLeDiff, Nat.reduceMul, true_and, and_true, and_self, List.mem_cons, List.not_mem_nil, or_false, or_self, false_or, true_implies, false_implies, not_true_eq_false, not_false_eq_true, nI00, nI10, nI01, nI11, forall_const, implies_true]
      simp (disch := omega) only [ixq, ixz, sb_in, sb_in0, upI_sb, upI_sb0, sb_out, nI_add, nI_mul, nI_subq, Nat.zero_add, forall_eq, u2_at, u2_row, upd_at, upd_ne, nI0b, nI1b, nI00, nI10, nI01, nI11, true_implies, false_implies, not_true_eq_false, not_false_eq_true, and_true, true_and, implies_true, n2]
      exact ⟨fun _ => hK, fun h0 => ⟨fun _ => hK, fun h1 => absurd ⟨Int32.not_lt.mp h0, Int32.not_le.mp h1⟩ hg'⟩⟩
    · (refine vc_met2 P2_ok ok_X9_byteAt cm_X9_byteAt [] 6 t_X9_byteAt_0 (Nat.le_of_ble_eq_true rfl) ?_; simp only [mArg_nil, mArg_I, mArg_L, mArg_A, Nat.reduceAdd])
      simp only [↓w_X9_byteAt_0, ↓w_X9_byteAt_26, ↓w_X9_byteAt_27, ↓v_X9_byteAt_26, ↓v_X9_byteAt_27, ↓b_aload_n, ↓b_getA, ↓b_getI, ↓b_goto, ↓b_iaload, ↓b_ic_ge, ↓b_iconst, ↓b_if_lt, ↓b_iload_n, ↓b_iret, ↓n_putI, ↓ldI_hit, ↓ldI_skip, ↓ldL_hit, ↓ldL_skip, ↓ldA_hit, ↓ldA_skip, ↓ldelK_nil, ↓ldelK_hit, ↓ldelK_skipI, ↓ldelK_skipA, ↓ldelK_skipL, ↓bI_b, bI_0, nnot, lget_hit, lget_skip, ldel_nil, ldel_hit, ldel_skipI, ldel_skipA, ldel_skipL, ldel2_nil, ldel2_hit, ldel2_hit2, ldel2_skipI, ldel2_skipA, ldel2_skipL, vc_0, mCat_nil, mCat_I, mCat_L, mCat_A, mRcv_A, mArg_nil, mArg_I, mArg_L, mArg_A, tsg, swt_nil, swt_cons, lkw_nil, lkw_cons, ↓reduceIte, Nat.reduceAdd, Nat.reduceEqDiff, Nat.reduceLeDiff, Nat.reduceMul, true_and, and_true, and_self, List.mem_cons, List.not_mem_nil, or_false, or_self, false_or, true_implies, false_implies, not_true_eq_false, not_false_eq_true, nI00, nI10, nI01, nI11, forall_const, implies_true]
      simp (disch := omega) only [ixq, ixz, sb_in, sb_in0, upI_sb, upI_sb0, sb_out, nI_add, nI_mul, nI_subq, Nat.zero_add, forall_eq, u2_at, u2_row, upd_at, upd_ne, nI0b, nI1b, nI00, nI10, nI01, nI11, true_implies, false_implies, not_true_eq_false, not_false_eq_true, and_true, true_and, implies_true, n3']
      exact ⟨fun _ => hK, fun h0 => ⟨fun _ => hK, fun h1 => absurd ⟨Int32.not_lt.mp h0, Int32.not_le.mp h1⟩ hg'⟩⟩
theorem f_hour (hx : x + 164 = m) (hr : Rel x m μ) : PAIR X (h + 3) m_X8_hour m_X9_hour_ x m [] μ := by
  obtain ⟨G, W, rb, pl, sn, rn⟩ := id hr.2.2.1
  have b0 : μ.1 (x + 4) 0 = nI G := rb.b0
  have b1 : μ.1 (x + 4) 1 = nI W := rb.b1
  have q0 : bk μ m 2 0 = nI G := rb.q0
  have q1 : bk μ m 2 1 = nI W := rb.q1
  have g6 := rb.g6
  have w8 := rb.w8
  rcases rn with ⟨e1, e2⟩ | ⟨n, n1, n2, n3, n4⟩
  · have e1' : μ.1 (x + 50) 0 = -1 := e1
    have e2' : bk μ m 2 621 = nI 0 := e2
    refine get (.inl (μ.1 (x + 50) 0)) hx hr (fun K hK => ?_) (fun K hK => ?_)
    · (refine vc_met2 P2_ok ok_X8_hour cm_X8_hour [] 6 t_X8_hour_0 (Nat.le_of_ble_eq_true rfl) ?_; simp only [mArg_nil, mArg_I, mArg_L, mArg_A, Nat.reduceAdd])
      simp only [↓w_X8_hour_0, ↓b_aload_n, ↓b_getA, ↓b_getI, ↓b_iret, ↓ldI_hit, ↓ldI_skip, ↓ldL_hit, ↓ldL_skip, ↓ldA_hit, ↓ldA_skip, ↓ldelK_nil, ↓ldelK_hit, ↓ldelK_skipI, ↓ldelK_skipA, ↓ldelK_skipL, ↓bI_b, bI_0, nnot, lget_hit, lget_skip, ldel_nil, ldel_hit, ldel_skipI, ldel_skipA, ldel_skipL, ldel2_nil, ldel2_hit, ldel2_hit2, ldel2_skipI, ldel2_skipA, ldel2_skipL, vc_0, mCat_nil, mCat_I, mCat_L, mCat_A, mRcv_A, mArg_nil, mArg_I, mArg_L, mArg_A, tsg, swt_nil, swt_cons, lkw_nil, lkw_cons, ↓reduceIte, Nat.reduceAdd, Nat.reduceEqDiff, Nat.reduceLeDiff, Nat.reduceMul, true_and, and_true, and_self, List.mem_cons, List.not_mem_nil, or_false, or_self, false_or, true_implies, false_implies, not_true_eq_false, not_false_eq_true, nI00, nI10, nI01, nI11, forall_const, implies_true]
      exact hK
    · rw [e1'] at hK
      (refine vc_met2 P2_ok ok_X9_hour_ cm_X9_hour_ [] 6 t_X9_hour__0 (Nat.le_of_ble_eq_true rfl) ?_; simp only [mArg_nil, mArg_I, mArg_L, mArg_A, Nat.reduceAdd])
      simp only [↓w_X9_hour__0, ↓w_X9_hour__23, ↓w_X9_hour__24, ↓v_X9_hour__23, ↓v_X9_hour__24, ↓b_aload_n, ↓b_callV1_1, ↓b_getA, ↓b_goto, ↓b_iaload, ↓b_iconst, ↓b_if_eq, ↓b_iret, ↓n_putI, ↓b_sipush, ↓ldI_hit, ↓ldI_skip, ↓ldL_hit, ↓ldL_skip, ↓ldA_hit, ↓ldA_skip, ↓ldelK_nil, ↓ldelK_hit, ↓ldelK_skipI, ↓ldelK_skipA, ↓ldelK_skipL, qP2_X9_isRun, ↓bI_b, bI_0, nnot, lget_hit, lget_skip, ldel_nil, ldel_hit, ldel_skipI, ldel_skipA, ldel_skipL, ldel2_nil, ldel2_hit, ldel2_hit2, ldel2_skipI, ldel2_skipA, ldel2_skipL, vc_0, mCat_nil, mCat_I, mCat_L, mCat_A, mRcv_A, mArg_nil, mArg_I, mArg_L, mArg_A, tsg, swt_nil, swt_cons, lkw_nil, lkw_cons, ↓reduceIte, Nat.reduceAdd, Nat.reduceEqDiff, Nat.reduceLeDiff, Nat.reduceMul, true_and, and_true, and_self, List.mem_cons, List.not_mem_nil, or_false, or_self, false_or, true_implies, false_implies, not_true_eq_false, not_false_eq_true, nI00, nI10, nI01, nI11, forall_const, implies_true]
      simp (disch := omega) only [ixq, ixz, sb_in, sb_in0, upI_sb, upI_sb0, sb_out, nI_add, nI_mul, nI_subq, Nat.zero_add, forall_eq, u2_at, u2_row, upd_at, upd_ne, nI0b, nI1b, nI00, nI10, nI01, nI11, true_implies, false_implies, not_true_eq_false, not_false_eq_true, and_true, true_and, implies_true, e2', z0, z1]
      exact hK
  · have e1' : μ.1 (x + 50) 0 = nI n := n4.2.2.2.2.1
    have e2' : bk μ m 2 621 = nI 1 := n3
    have e3' : bk μ m 2 622 = nI n := n4.2.2.2.2.2.1
    refine get (.inl (μ.1 (x + 50) 0)) hx hr (fun K hK => ?_) (fun K hK => ?_)
    · (refine vc_met2 P2_ok ok_X8_hour cm_X8_hour [] 6 t_X8_hour_0 (Nat.le_of_ble_eq_true rfl) ?_; simp only [mArg_nil, mArg_I, mArg_L, mArg_A, Nat.reduceAdd])
      simp only [↓w_X8_hour_0, ↓b_aload_n, ↓b_getA, ↓b_getI, ↓b_iret, ↓ldI_hit, ↓ldI_skip, ↓ldL_hit, ↓ldL_skip, ↓ldA_hit, ↓ldA_skip, ↓ldelK_nil, ↓ldelK_hit, ↓ldelK_skipI, ↓ldelK_skipA, ↓ldelK_skipL, ↓bI_b, bI_0, nnot, lget_hit, lget_skip, ldel_nil, ldel_hit, ldel_skipI, ldel_skipA, ldel_skipL, ldel2_nil, ldel2_hit, ldel2_hit2, ldel2_skipI, ldel2_skipA, ldel2_skipL, vc_0, mCat_nil, mCat_I, mCat_L, mCat_A, mRcv_A, mArg_nil, mArg_I, mArg_L, mArg_A, tsg, swt_nil, swt_cons, lkw_nil, lkw_cons, ↓reduceIte, Nat.reduceAdd, Nat.reduceEqDiff, Nat.reduceLeDiff, Nat.reduceMul, true_and, and_true, and_self, List.mem_cons, List.not_mem_nil, or_false, or_self, false_or, true_implies, false_implies, not_true_eq_false, not_false_eq_true, nI00, nI10, nI01, nI11, forall_const, implies_true]
      exact hK
    · rw [e1'] at hK
      (refine vc_met2 P2_ok ok_X9_hour_ cm_X9_hour_ [] 6 t_X9_hour__0 (Nat.le_of_ble_eq_true rfl) ?_; simp only [mArg_nil, mArg_I, mArg_L, mArg_A, Nat.reduceAdd])
      simp only [↓w_X9_hour__0, ↓w_X9_hour__23, ↓w_X9_hour__24, ↓v_X9_hour__23, ↓v_X9_hour__24, ↓b_aload_n, ↓b_callV1_1, ↓b_getA, ↓b_goto, ↓b_iaload, ↓b_iconst, ↓b_if_eq, ↓b_iret, ↓n_putI, ↓b_sipush, ↓ldI_hit, ↓ldI_skip, ↓ldL_hit, ↓ldL_skip, ↓ldA_hit, ↓ldA_skip, ↓ldelK_nil, ↓ldelK_hit, ↓ldelK_skipI, ↓ldelK_skipA, ↓ldelK_skipL, qP2_X9_isRun, ↓bI_b, bI_0, nnot, lget_hit, lget_skip, ldel_nil, ldel_hit, ldel_skipI, ldel_skipA, ldel_skipL, ldel2_nil, ldel2_hit, ldel2_hit2, ldel2_skipI, ldel2_skipA, ldel2_skipL, vc_0, mCat_nil, mCat_I, mCat_L, mCat_A, mRcv_A, mArg_nil, mArg_I, mArg_L, mArg_A, tsg, swt_nil, swt_cons, lkw_nil, lkw_cons, ↓reduceIte, Nat.reduceAdd, Nat.reduceEqDiff, Nat.reduceLeDiff, Nat.reduceMul, true_and, and_true, and_self, List.mem_cons, List.not_mem_nil, or_false, or_self, false_or, true_implies, false_implies, not_true_eq_false, not_false_eq_true, nI00, nI10, nI01, nI11, forall_const, implies_true]
      simp (disch := omega) only [ixq, ixz, sb_in, sb_in0, upI_sb, upI_sb0, sb_out, nI_add, nI_mul, nI_subq, Nat.zero_add, forall_eq, u2_at, u2_row, upd_at, upd_ne, nI0b, nI1b, nI00, nI10, nI01, nI11, true_implies, false_implies, not_true_eq_false, not_false_eq_true, and_true, true_and, implies_true, e2', e3', z0, z1]
      exact hK
end MG1
