section MG2
variable {X : mC} {h x m : Nat} {μ : Mem} {G W : Nat} {K : MV → Mem → Prop}
def VTP (G W : Nat) (t : Nat → Int32) (w g : Int32) : Prop := ∃ i j, i < W ∧ j < G ∧ w = nI i ∧ g = nI j ∧ 0 < t (i * 6 + j)
theorem VTP_n {t : Nat → Int32} {i j : Nat} (g6 : G ≤ 6) (w8 : W ≤ 8) (hi : i < W) (hj : j < G) : VTP G W t (nI i) (nI j) = (0 < t (i * 6 + j)) := by
  apply propext
  constructor
  · rintro ⟨a, b, h1, h2, h3, h4, h5⟩
    rw [(nI_eq (by omega) (by omega)).mp h3, (nI_eq (by omega) (by omega)).mp h4]
    exact h5
  · intro h5
    exact ⟨i, j, hi, hj, rfl, rfl, h5⟩
theorem c8_isVat {w g : Int32} (b0 : μ.1 (x + 4) 0 = nI G) (b1 : μ.1 (x + 4) 1 = nI W) (g6 : G ≤ 6) (w8 : W ≤ 8) (h1 : ¬ μ.1 (x + 50) 0 = -1 → VTP G W (μ.1 (x + 4 + 7)) w g → K (.inl (nI 1)) μ) (h0 : ¬ (¬ μ.1 (x + 50) 0 = -1 ∧ VTP G W (μ.1 (x + 4 + 7)) w g) → K (.inl (nI 0)) μ) : mMet X (h + 3) m_X8_isVatOfRun [.inr (.inr (7, 0, x)), .inl w, .inl g] μ K := by
  (refine vc_met2 P2_ok ok_X8_isVatOfRun cm_X8_isVatOfRun [] 8 t_X8_isVatOfRun_0 (Nat.le_of_ble_eq_true rfl) ?_; simp only [mArg_nil, mArg_I, mArg_L, mArg_A, Nat.reduceAdd])
  simp only [↓w_X8_isVatOfRun_0, ↓w_X8_isVatOfRun_44, ↓w_X8_isVatOfRun_45, ↓v_X8_isVatOfRun_44, ↓v_X8_isVatOfRun_45, ↓b_aload_n, ↓b_bipush, ↓b_callV1_1, ↓b_callV2_1, ↓b_getA, ↓b_goto, ↓b_iadd, ↓b_iaload, ↓b_iconst, ↓b_if_eq, ↓b_if_le, ↓b_iload_n, ↓b_imul, ↓b_zret, ↓ldI_hit, ↓ldI_skip, ↓ldL_hit, ↓ldL_skip, ↓ldA_hit, ↓ldA_skip, ↓ldelK_nil, ↓ldelK_hit, ↓ldelK_skipI, ↓ldelK_skipA, ↓ldelK_skipL, qP2_X8_isGood, qP2_X8_isRunning, qP2_X8_isWork, ↓bI_b, bI_0, nnot, lget_hit, lget_skip, ldel_nil, ldel_hit, ldel_skipI, ldel_skipA, ldel_skipL, ldel2_nil, ldel2_hit, ldel2_hit2, ldel2_skipI, ldel2_skipA, ldel2_skipL, vc_0, mCat_nil, mCat_I, mCat_L, mCat_A, mRcv_A, mArg_nil, mArg_I, mArg_L, mArg_A, tsg, swt_nil, swt_cons, lkw_nil, lkw_cons, ↓reduceIte, Nat.reduceAdd, Nat.reduceEqDiff, Nat.reduceLeDiff, Nat.reduceMul, true_and, and_true, and_self, List.mem_cons, List.not_mem_nil, or_false, or_self, false_or, true_implies, false_implies, not_true_eq_false, not_false_eq_true, nI00, nI10, nI01, nI11, forall_const, implies_true]
  simp (disch := omega) only [ixq, ixz, sb_in, sb_in0, upI_sb, upI_sb0, sb_out, nI_add, nI_mul, nI_subq, Nat.zero_add, forall_eq, u2_at, u2_row, upd_at, upd_ne, nI0b, nI1b, nI00, nI10, nI01, nI11, true_implies, false_implies, not_true_eq_false, not_false_eq_true, and_true, true_and, implies_true, b0, b1, ixP]
  refine ⟨fun e => h0 (fun z => z.1 e), fun e => ⟨fun nw => h0 (fun z => ?_), fun ⟨i, hi, ew⟩ => ⟨fun ng => h0 (fun z => ?_), fun ⟨j, hj, eg⟩ => ⟨i * 6 + j, by rw [ew, eg, nI_mul, nI_add], by omega, fun hc => h0 (fun z => ?_), fun hc => h1 e ?_⟩⟩⟩⟩
  · obtain ⟨_, i, j, hi, hj, ew, eg, _⟩ := z
    exact nw ⟨i, hi, ew⟩
  · obtain ⟨_, i, j, hi, hj, ew, eg, _⟩ := z
    exact ng ⟨j, hj, eg⟩
  · have := z.2
    rw [ew, eg, VTP_n g6 w8 hi hj] at this
    exact absurd this (Int32.not_lt.mpr hc)
  · rw [ew, eg, VTP_n g6 w8 hi hj]
    exact Int32.not_le.mp hc
theorem c9_isVat {Q : Bk} {w g : Int32} (q0 : Q 2 0 = nI G) (q1 : Q 2 1 = nI W) (g6 : G ≤ 6) (w8 : W ≤ 8) (h1 : 0 < Q 2 621 → VTP G W (fun c => Q 2 (38 + c)) w g → K (.inl (nI 1)) (sb μ m 21 Q)) (h0 : ¬ (0 < Q 2 621 ∧ VTP G W (fun c => Q 2 (38 + c)) w g) → K (.inl (nI 0)) (sb μ m 21 Q)) : mMet X (h + 3) m_X9_isVat [.inr (.inr (8, 0, m)), .inl w, .inl g] (sb μ m 21 Q) K := by
  (refine vc_met2 P2_ok ok_X9_isVat cm_X9_isVat [] 8 t_X9_isVat_0 (Nat.le_of_ble_eq_true rfl) ?_; simp only [mArg_nil, mArg_I, mArg_L, mArg_A, Nat.reduceAdd])
  simp only [↓w_X9_isVat_0, ↓w_X9_isVat_43, ↓w_X9_isVat_44, ↓v_X9_isVat_43, ↓v_X9_isVat_44, ↓b_aload_n, ↓b_bipush, ↓b_callS2_1, ↓b_callV1_1, ↓b_callV2_1, ↓b_getA, ↓b_goto, ↓b_iadd, ↓b_iaload, ↓b_iconst, ↓b_if_eq, ↓b_if_le, ↓b_iload_n, ↓b_zret, ↓ldI_hit, ↓ldI_skip, ↓ldL_hit, ↓ldL_skip, ↓ldA_hit, ↓ldA_skip, ↓ldelK_nil, ↓ldelK_hit, ↓ldelK_skipI, ↓ldelK_skipA, ↓ldelK_skipL, qP2_X9_cell, qP2_X9_isGood, qP2_X9_isRun, qP2_X9_isWork, ↓bI_b, bI_0, nnot, lget_hit, lget_skip, ldel_nil, ldel_hit, ldel_skipI, ldel_skipA, ldel_skipL, ldel2_nil, ldel2_hit, ldel2_hit2, ldel2_skipI, ldel2_skipA, ldel2_skipL, vc_0, mCat_nil, mCat_I, mCat_L, mCat_A, mRcv_A, mArg_nil, mArg_I, mArg_L, mArg_A, tsg, swt_nil, swt_cons, lkw_nil, lkw_cons, ↓reduceIte, Nat.reduceAdd, Nat.reduceEqDiff, Nat.reduceLeDiff, Nat.reduceMul, true_and, and_true, and_self, List.mem_cons, List.not_mem_nil, or_false, or_self, false_or, true_implies, false_implies, not_true_eq_false, not_false_eq_true, nI00, nI10, nI01, nI11, forall_const, implies_true]
  simp (disch := omega) only [ixq, ixz, sb_in, sb_in0, upI_sb, upI_sb0, sb_out, nI_add, nI_mul, nI_subq, Nat.zero_add, forall_eq, u2_at, u2_row, upd_at, upd_ne, nI0b, nI1b, nI00, nI10, nI01, nI11, true_implies, false_implies, not_true_eq_false, not_false_eq_true, and_true, true_and, implies_true, q0, q1, ixP]
  refine ⟨fun e => h0 (fun z => e z.1), fun e => ⟨fun nw => h0 (fun z => ?_), fun ⟨i, hi, ew⟩ => ⟨fun ng => h0 (fun z => ?_), fun ⟨j, hj, eg⟩ => ⟨38 + (i * 6 + j), by rw [ew, eg, nI_mul, nI_add, nI_add], by omega, fun hc => h0 (fun z => ?_), fun hc => h1 e ?_⟩⟩⟩⟩
  · obtain ⟨_, i, j, hi, hj, ew, eg, _⟩ := z
    exact nw ⟨i, hi, ew⟩
  · obtain ⟨_, i, j, hi, hj, ew, eg, _⟩ := z
    exact ng ⟨j, hj, eg⟩
  · have := z.2
    rw [ew, eg, VTP_n g6 w8 hi hj] at this
    exact absurd this (Int32.not_lt.mpr hc)
  · rw [ew, eg, VTP_n g6 w8 hi hj]
    exact Int32.not_le.mp hc
/-- of a RUN: is there one, on both sides -/
theorem run_iff {B R : Bk} {q : Nat → Int32} (h : RN G W B R q) : (R 0 0 = -1) = ¬ 0 < q 621 := by
  apply propext
  rcases h with ⟨e1, e2⟩ | ⟨n, n1, n2, n3, n4⟩
  · rw [e1, e2]
    exact ⟨fun _ => by decide, fun _ => rfl⟩
  · rw [n4.2.2.2.2.1, n3, nI_m1 (by omega)]
    exact ⟨False.elim, fun z => absurd (by decide) z⟩
theorem VTP_e {t t' : Nat → Int32} {w g : Int32} (g6 : G ≤ 6) (w8 : W ≤ 8) (h : ∀ c, c < 48 → t' c = t c) (hv : VTP G W t w g) : VTP G W t' w g := by
  obtain ⟨i, j, hi, hj, ew, eg, e⟩ := hv
  exact ⟨i, j, hi, hj, ew, eg, by rw [h _ (by omega)]; exact e⟩
theorem f_vat {w g : Int32} (hx : x + 164 = m) (hr : Rel x m μ) : PAIR X (h + 4) m_X8_vat m_X9_vat x m [.inl w, .inl g] μ := by
  obtain ⟨G, W, rb, pl, sn, rn⟩ := id hr.2.2.1
  have b0 : μ.1 (x + 4) 0 = nI G := rb.b0
  have b1 : μ.1 (x + 4) 1 = nI W := rb.b1
  have q0 : bk μ m 2 0 = nI G := rb.q0
  have q1 : bk μ m 2 1 = nI W := rb.q1
  have g6 := rb.g6
  have w8 := rb.w8
  have ri := run_iff rn
  have ri' : (μ.1 (x + 50) 0 = -1) = ¬ 0 < bk μ m 2 621 := ri
  have c7 : ∀ c, c < 48 → bk μ m 2 (38 + c) = μ.1 (x + 4 + 7) c := fun c hc => (rb.ce c hc).1
  have q0' : (u2 (bk μ m) 0 0 (nI 0)) 2 0 = nI G := by rw [u2_row (by decide)]; exact q0
  have q1' : (u2 (bk μ m) 0 0 (nI 0)) 2 1 = nI W := by rw [u2_row (by decide)]; exact q1
  have q2' : (u2 (bk μ m) 0 0 (nI 0)) 2 = bk μ m 2 := u2_row (by decide)
  by_cases hv : ¬ μ.1 (x + 50) 0 = -1 ∧ VTP G W (μ.1 (x + 4 + 7)) w g
  · obtain ⟨hn, i, j, hi, hj, rfl, rfl, ht⟩ := id hv
    rcases rn with ⟨e1, e2⟩ | ⟨n, n1, n2, n3, n4⟩
    · exact absurd e1 hn
    have ev : bk μ m 2 (623 + (i * 6 + j)) = μ.1 (x + 50 + 1) (i * 6 + j) := by
      have e := n4.1 1 (i * 6 + j) (by omega) (by rw [show szR 6 1 = 48 by decide]; omega)
      show μ.1 (m + 2) (623 + (i * 6 + j)) = _
      have e2 : sv (μ.1 (m + 2)) 1 (i * 6 + j) = μ.1 (m + 2) (621 + (2 + (i * 6 + j))) := rfl
      rw [e2] at e
      rw [show 623 + (i * 6 + j) = 621 + (2 + (i * 6 + j)) by omega]
      exact e
    refine get (.inl (μ.1 (x + 50 + 1) (i * 6 + j))) hx hr (fun K hK => ?_) (fun K hK => ?_)
    · (refine vc_met2 P0_ok ok_X8_vat cm_X8_vat [] 8 t_X8_vat_0 (Nat.le_of_ble_eq_true rfl) ?_; simp only [mArg_nil, mArg_I, mArg_L, mArg_A, Nat.reduceAdd])
      simp only [↓w_X8_vat_0, ↓w_X8_vat_26, ↓w_X8_vat_27, ↓v_X8_vat_26, ↓v_X8_vat_27, ↓b_aload_n, ↓b_bipush, ↓b_callV3_1, ↓b_getA, ↓b_goto, ↓b_iadd, ↓b_iaload, ↓b_iconst, ↓b_if_eq, ↓b_iload_n, ↓b_imul, ↓b_iret, ↓ldI_hit, ↓ldI_skip, ↓ldL_hit, ↓ldL_skip, ↓ldA_hit, ↓ldA_skip, ↓ldelK_nil, ↓ldelK_hit, ↓ldelK_skipI, ↓ldelK_skipA, ↓ldelK_skipL, lget_hit, lget_skip, ldel_nil, ldel_hit, ldel_skipI, ldel_skipA, ldel_skipL, ldel2_nil, ldel2_hit, ldel2_hit2, ldel2_skipI, ldel2_skipA, ldel2_skipL, vc_0, mCall_P0, mCat_nil, mCat_I, mCat_L, mCat_A, mRcv_A, mArg_nil, mArg_I, mArg_L, mArg_A, tsg, swt_nil, swt_cons, lkw_nil, lkw_cons, ↓reduceIte, Nat.reduceAdd, Nat.reduceEqDiff, Nat.reduceLeDiff, Nat.reduceMul, true_and, and_true, and_self, List.mem_cons, List.not_mem_nil, or_false, or_self, false_or, true_implies, false_implies, not_true_eq_false, not_false_eq_true, nI00, nI10, nI01, nI11, forall_const, implies_true]
      refine c8_isVat b0 b1 g6 w8 (fun _ _ => ?_) (fun z => absurd hv z)
      simp only [↓w_X8_vat_0, ↓w_X8_vat_26, ↓w_X8_vat_27, ↓v_X8_vat_26, ↓v_X8_vat_27, ↓b_aload_n, ↓b_bipush, ↓b_callV3_1, ↓b_getA, ↓b_goto, ↓b_iadd, ↓b_iaload, ↓b_iconst, ↓b_if_eq, ↓b_iload_n, ↓b_imul, ↓b_iret, ↓ldI_hit, ↓ldI_skip, ↓ldL_hit, ↓ldL_skip, ↓ldA_hit, ↓ldA_skip, ↓ldelK_nil, ↓ldelK_hit, ↓ldelK_skipI, ↓ldelK_skipA, ↓ldelK_skipL, lget_hit, lget_skip, ldel_nil, ldel_hit, ldel_skipI, ldel_skipA, ldel_skipL, ldel2_nil, ldel2_hit, ldel2_hit2, ldel2_skipI, ldel2_skipA, ldel2_skipL, vc_0, mCall_P0, mCat_nil, mCat_I, mCat_L, mCat_A, mRcv_A, mArg_nil, mArg_I, mArg_L, mArg_A, tsg, swt_nil, swt_cons, lkw_nil, lkw_cons, ↓reduceIte, Nat.reduceAdd, Nat.reduceEqDiff, Nat.reduceLeDiff, Nat.reduceMul, true_and, and_true, and_self, List.mem_cons, List.not_mem_nil, or_false, or_self, false_or, true_implies, false_implies, not_true_eq_false, not_false_eq_true, nI00, nI10, nI01, nI11, forall_const, implies_true]
      simp (disch := omega) only [ixq, ixz, sb_in, sb_in0, upI_sb, upI_sb0, sb_out, nI_add, nI_mul, nI_subq, Nat.zero_add, forall_eq, u2_at, u2_row, upd_at, upd_ne, nI0b, nI1b, nI00, nI10, nI01, nI11, true_implies, false_implies, not_true_eq_false, not_false_eq_true, and_true, true_and, implies_true]
      exact hK
    · (refine vc_met2 P1_ok ok_X9_vat cm_X9_vat [] 8 t_X9_vat_0 (Nat.le_of_ble_eq_true rfl) ?_; simp only [mArg_nil, mArg_I, mArg_L, mArg_A, Nat.reduceAdd])
      simp only [↓w_X9_vat_0, ↓w_X9_vat_31, ↓w_X9_vat_32, ↓v_X9_vat_31, ↓v_X9_vat_32, ↓b_aload_n, ↓b_callS2_1, ↓b_callV3_1, ↓b_getA, ↓b_goto, ↓b_iadd, ↓b_iaload, ↓b_iconst, ↓b_if_eq, ↓b_iload_n, ↓b_iret, ↓n_putI, ↓b_sipush, ↓ldI_hit, ↓ldI_skip, ↓ldL_hit, ↓ldL_skip, ↓ldA_hit, ↓ldA_skip, ↓ldelK_nil, ↓ldelK_hit, ↓ldelK_skipI, ↓ldelK_skipA, ↓ldelK_skipL, qP1_X9_cell, qP1_X9_isVat, ↓bI_b, bI_0, nnot, lget_hit, lget_skip, ldel_nil, ldel_hit, ldel_skipI, ldel_skipA, ldel_skipL, ldel2_nil, ldel2_hit, ldel2_hit2, ldel2_skipI, ldel2_skipA, ldel2_skipL, vc_0, mCat_nil, mCat_I, mCat_L, mCat_A, mRcv_A, mArg_nil, mArg_I, mArg_L, mArg_A, tsg, swt_nil, swt_cons, lkw_nil, lkw_cons, ↓reduceIte, Nat.reduceAdd, Nat.reduceEqDiff, Nat.reduceLeDiff, Nat.reduceMul, true_and, and_true, and_self, List.mem_cons, List.not_mem_nil, or_false, or_self, false_or, true_implies, false_implies, not_true_eq_false, not_false_eq_true, nI00, nI10, nI01, nI11, forall_const, implies_true]
      simp (disch := omega) only [ixq, ixz, sb_in, sb_in0, upI_sb, upI_sb0, sb_out, nI_add, nI_mul, nI_subq, Nat.zero_add, forall_eq, u2_at, u2_row, upd_at, upd_ne, nI0b, nI1b, nI00, nI10, nI01, nI11, true_implies, false_implies, not_true_eq_false, not_false_eq_true, and_true, true_and, implies_true]
      refine c9_isVat q0' q1' g6 w8 (fun _ _ => ?_) (fun z => absurd ⟨?_, ?_⟩ z)
      · simp only [↓w_X9_vat_0, ↓w_X9_vat_31, ↓w_X9_vat_32, ↓v_X9_vat_31, ↓v_X9_vat_32, ↓b_aload_n, ↓b_callS2_1, ↓b_callV3_1, ↓b_getA, ↓b_goto, ↓b_iadd, ↓b_iaload, ↓b_iconst, ↓b_if_eq, ↓b_iload_n, ↓b_iret, ↓n_putI, ↓b_sipush, ↓ldI_hit, ↓ldI_skip, ↓ldL_hit, ↓ldL_skip, ↓ldA_hit, ↓ldA_skip, ↓ldelK_nil, ↓ldelK_hit, ↓ldelK_skipI, ↓ldelK_skipA, ↓ldelK_skipL, qP1_X9_cell, qP1_X9_isVat, ↓bI_b, bI_0, nnot, lget_hit, lget_skip, ldel_nil, ldel_hit, ldel_skipI, ldel_skipA, ldel_skipL, ldel2_nil, ldel2_hit, ldel2_hit2, ldel2_skipI, ldel2_skipA, ldel2_skipL, vc_0, mCat_nil, mCat_I, mCat_L, mCat_A, mRcv_A, mArg_nil, mArg_I, mArg_L, mArg_A, tsg, swt_nil, swt_cons, lkw_nil, lkw_cons, ↓reduceIte, Nat.reduceAdd, Nat.reduceEqDiff, Nat.reduceLeDiff, Nat.reduceMul, true_and, and_true, and_self, List.mem_cons, List.not_mem_nil, or_false, or_self, false_or, true_implies, false_implies, not_true_eq_false, not_false_eq_true, nI00, nI10, nI01, nI11, forall_const, implies_true]
        simp (disch := omega) only [ixq, ixz, sb_in, sb_in0, upI_sb, upI_sb0, sb_out, nI_add, nI_mul, nI_subq, Nat.zero_add, forall_eq, u2_at, u2_row, upd_at, upd_ne, nI0b, nI1b, nI00, nI10, nI01, nI11, true_implies, false_implies, not_true_eq_false, not_false_eq_true, and_true, true_and, implies_true, Nat.add_assoc, ev, Nat.reduceAdd]
        exact hK
      · rw [q2']
        exact Classical.byContradiction (fun y => hn (ri'.mpr y))
      · rw [q2']
        exact VTP_e g6 w8 c7 hv.2
  · refine get (.inl (-1)) hx hr (fun K hK => ?_) (fun K hK => ?_)
    · (refine vc_met2 P0_ok ok_X8_vat cm_X8_vat [] 8 t_X8_vat_0 (Nat.le_of_ble_eq_true rfl) ?_; simp only [mArg_nil, mArg_I, mArg_L, mArg_A, Nat.reduceAdd])
      simp only [↓w_X8_vat_0, ↓w_X8_vat_26, ↓w_X8_vat_27, ↓v_X8_vat_26, ↓v_X8_vat_27, ↓b_aload_n, ↓b_bipush, ↓b_callV3_1, ↓b_getA, ↓b_goto, ↓b_iadd, ↓b_iaload, ↓b_iconst, ↓b_if_eq, ↓b_iload_n, ↓b_imul, ↓b_iret, ↓ldI_hit, ↓ldI_skip, ↓ldL_hit, ↓ldL_skip, ↓ldA_hit, ↓ldA_skip, ↓ldelK_nil, ↓ldelK_hit, ↓ldelK_skipI, ↓ldelK_skipA, ↓ldelK_skipL, lget_hit, lget_skip, ldel_nil, ldel_hit, ldel_skipI, ldel_skipA, ldel_skipL, ldel2_nil, ldel2_hit, ldel2_hit2, ldel2_skipI, ldel2_skipA, ldel2_skipL, vc_0, mCall_P0, mCat_nil, mCat_I, mCat_L, mCat_A, mRcv_A, mArg_nil, mArg_I, mArg_L, mArg_A, tsg, swt_nil, swt_cons, lkw_nil, lkw_cons, ↓reduceIte, Nat.reduceAdd, Nat.reduceEqDiff, Nat.reduceLeDiff, Nat.reduceMul, true_and, and_true, and_self, List.mem_cons, List.not_mem_nil, or_false, or_self, false_or, true_implies, false_implies, not_true_eq_false, not_false_eq_true, nI00, nI10, nI01, nI11, forall_const, implies_true]
      refine c8_isVat b0 b1 g6 w8 (fun y1 y2 => absurd ⟨y1, y2⟩ hv) (fun _ => ?_)
      (try simp only [↓w_X8_vat_0, ↓w_X8_vat_26, ↓w_X8_vat_27, ↓v_X8_vat_26, ↓v_X8_vat_27, ↓b_aload_n, ↓b_bipush, ↓b_callV3_1, ↓b_getA, ↓b_goto, ↓b_iadd, ↓b_iaload, ↓b_iconst, ↓b_if_eq, ↓b_iload_n, ↓b_imul, ↓b_iret, ↓ldI_hit, ↓ldI_skip, ↓ldL_hit, ↓ldL_skip, ↓ldA_hit, ↓ldA_skip, ↓ldelK_nil, ↓ldelK_hit, ↓ldelK_skipI, ↓ldelK_skipA, ↓ldelK_skipL, lget_hit, lget_skip, ldel_nil, ldel_hit, ldel_skipI, ldel_skipA, ldel_skipL, ldel2_nil, ldel2_hit, ldel2_hit2, ldel2_skipI, ldel2_skipA, ldel2_skipL, vc_0, mCall_P0, mCat_nil, mCat_I, mCat_L, mCat_A, mRcv_A, mArg_nil, mArg_I, mArg_L, mArg_A, tsg, swt_nil, swt_cons, lkw_nil, lkw_cons, ↓reduceIte, Nat.reduceAdd, Nat.reduceEqDiff, Nat.reduceLeDiff, Nat.reduceMul, true_and, and_true, and_self, List.mem_cons, List.not_mem_nil, or_false, or_self, false_or, true_implies, false_implies, not_true_eq_false, not_false_eq_true, nI00, nI10, nI01, nI11, forall_const, implies_true]); (try simp (disch := omega) only [ixq, ixz, sb_in, sb_in0, upI_sb, upI_sb0, sb_out, nI_add, nI_mul, nI_subq, Nat.zero_add, forall_eq, u2_at, u2_row, upd_at, upd_ne, nI0b, nI1b, nI00, nI10, nI01, nI11, true_implies, false_implies, not_true_eq_false, not_false_eq_true, and_true, true_and, implies_true])
      exact hK
    · (refine vc_met2 P1_ok ok_X9_vat cm_X9_vat [] 8 t_X9_vat_0 (Nat.le_of_ble_eq_true rfl) ?_; simp only [mArg_nil, mArg_I, mArg_L, mArg_A, Nat.reduceAdd])
      simp only [↓w_X9_vat_0, ↓w_X9_vat_31, ↓w_X9_vat_32, ↓v_X9_vat_31, ↓v_X9_vat_32, ↓b_aload_n, ↓b_callS2_1, ↓b_callV3_1, ↓b_getA, ↓b_goto, ↓b_iadd, ↓b_iaload, ↓b_iconst, ↓b_if_eq, ↓b_iload_n, ↓b_iret, ↓n_putI, ↓b_sipush, ↓ldI_hit, ↓ldI_skip, ↓ldL_hit, ↓ldL_skip, ↓ldA_hit, ↓ldA_skip, ↓ldelK_nil, ↓ldelK_hit, ↓ldelK_skipI, ↓ldelK_skipA, ↓ldelK_skipL, qP1_X9_cell, qP1_X9_isVat, ↓bI_b, bI_0, nnot, lget_hit, lget_skip, ldel_nil, ldel_hit, ldel_skipI, ldel_skipA, ldel_skipL, ldel2_nil, ldel2_hit, ldel2_hit2, ldel2_skipI, ldel2_skipA, ldel2_skipL, vc_0, mCat_nil, mCat_I, mCat_L, mCat_A, mRcv_A, mArg_nil, mArg_I, mArg_L, mArg_A, tsg, swt_nil, swt_cons, lkw_nil, lkw_cons, ↓reduceIte, Nat.reduceAdd, Nat.reduceEqDiff, Nat.reduceLeDiff, Nat.reduceMul, true_and, and_true, and_self, List.mem_cons, List.not_mem_nil, or_false, or_self, false_or, true_implies, false_implies, not_true_eq_false, not_false_eq_true, nI00, nI10, nI01, nI11, forall_const, implies_true]
      simp (disch := omega) only [ixq, ixz, sb_in, sb_in0, upI_sb, upI_sb0, sb_out, nI_add, nI_mul, nI_subq, Nat.zero_add, forall_eq, u2_at, u2_row, upd_at, upd_ne, nI0b, nI1b, nI00, nI10, nI01, nI11, true_implies, false_implies, not_true_eq_false, not_false_eq_true, and_true, true_and, implies_true]
      refine c9_isVat q0' q1' g6 w8 (fun y1 y2 => ?_) (fun _ => ?_)
      · rw [q2'] at y1 y2
        exact absurd ⟨fun e => ri'.mp e y1, VTP_e g6 w8 (fun c hc => (c7 c hc).symm) y2⟩ hv
      · (try simp only [↓w_X9_vat_0, ↓w_X9_vat_31, ↓w_X9_vat_32, ↓v_X9_vat_31, ↓v_X9_vat_32, ↓b_aload_n, ↓b_callS2_1, ↓b_callV3_1, ↓b_getA, ↓b_goto, ↓b_iadd, ↓b_iaload, ↓b_iconst, ↓b_if_eq, ↓b_iload_n, ↓b_iret, ↓n_putI, ↓b_sipush, ↓ldI_hit, ↓ldI_skip, ↓ldL_hit, ↓ldL_skip, ↓ldA_hit, ↓ldA_skip, ↓ldelK_nil, ↓ldelK_hit, ↓ldelK_skipI, ↓ldelK_skipA, ↓ldelK_skipL, qP1_X9_cell, qP1_X9_isVat, ↓bI_b, bI_0, nnot, lget_hit, lget_skip, ldel_nil, ldel_hit, ldel_skipI, ldel_skipA, ldel_skipL, ldel2_nil, ldel2_hit, ldel2_hit2, ldel2_skipI, ldel2_skipA, ldel2_skipL, vc_0, mCat_nil, mCat_I, mCat_L, mCat_A, mRcv_A, mArg_nil, mArg_I, mArg_L, mArg_A, tsg, swt_nil, swt_cons, lkw_nil, lkw_cons, ↓reduceIte, Nat.reduceAdd, Nat.reduceEqDiff, Nat.reduceLeDiff, Nat.reduceMul, true_and, and_true, and_self, List.mem_cons, List.not_mem_nil, or_false, or_self, false_or, true_implies, false_implies, not_true_eq_false, not_false_eq_true, nI00, nI10, nI01, nI11, forall_const, implies_true]); (try simp (disch := omega) only [ixq, ixz, sb_in, sb_in0, upI_sb, upI_sb0, sb_out, nI_add, nI_mul, nI_subq, Nat.zero_add, forall_eq, u2_at, u2_row, upd_at, upd_ne, nI0b, nI1b, nI00, nI10, nI01, nI11, true_implies, false_implies, not_true_eq_false, not_false_eq_true, and_true, true_and, implies_true])
        exact hK
theorem f_comes {w g : Int32} (hx : x + 164 = m) (hr : Rel x m μ) : PAIR X (h + 4) m_X8_comes m_X9_comes x m [.inl w, .inl g] μ := by
  obtain ⟨G, W, rb, pl, sn, rn⟩ := id hr.2.2.1
  have b0 : μ.1 (x + 4) 0 = nI G := rb.b0
  have b1 : μ.1 (x + 4) 1 = nI W := rb.b1
  have q0 : bk μ m 2 0 = nI G := rb.q0
  have q1 : bk μ m 2 1 = nI W := rb.q1
  have g6 := rb.g6
  have w8 := rb.w8
  have ri := run_iff rn
  have ri' : (μ.1 (x + 50) 0 = -1) = ¬ 0 < bk μ m 2 621 := ri
  have c7 : ∀ c, c < 48 → bk μ m 2 (38 + c) = μ.1 (x + 4 + 7) c := fun c hc => (rb.ce c hc).1
  have q0' : (u2 (bk μ m) 0 0 (nI 0)) 2 0 = nI G := by rw [u2_row (by decide)]; exact q0
  have q1' : (u2 (bk μ m) 0 0 (nI 0)) 2 1 = nI W := by rw [u2_row (by decide)]; exact q1
  have q2' : (u2 (bk μ m) 0 0 (nI 0)) 2 = bk μ m 2 := u2_row (by decide)
  by_cases hv : ¬ μ.1 (x + 50) 0 = -1 ∧ VTP G W (μ.1 (x + 4 + 7)) w g
  · obtain ⟨hn, i, j, hi, hj, rfl, rfl, ht⟩ := id hv
    rcases rn with ⟨e1, e2⟩ | ⟨n, n1, n2, n3, n4⟩
    · exact absurd e1 hn
    have ev : bk μ m 2 (719 + (i * 6 + j)) = μ.1 (x + 50 + 3) (i * 6 + j) := by
      have e := n4.1 3 (i * 6 + j) (by omega) (by rw [show szR 6 3 = 48 by decide]; omega)
      show μ.1 (m + 2) (719 + (i * 6 + j)) = _
      have e2 : sv (μ.1 (m + 2)) 3 (i * 6 + j) = μ.1 (m + 2) (621 + (98 + (i * 6 + j))) := rfl
      rw [e2] at e
      rw [show 719 + (i * 6 + j) = 621 + (98 + (i * 6 + j)) by omega]
      exact e
    refine get (.inl (μ.1 (x + 50 + 3) (i * 6 + j))) hx hr (fun K hK => ?_) (fun K hK => ?_)
    · (refine vc_met2 P0_ok ok_X8_comes cm_X8_comes [] 8 t_X8_comes_0 (Nat.le_of_ble_eq_true rfl) ?_; simp only [mArg_nil, mArg_I, mArg_L, mArg_A, Nat.reduceAdd])
      simp only [↓w_X8_comes_0, ↓w_X8_comes_26, ↓w_X8_comes_27, ↓v_X8_comes_26, ↓v_X8_comes_27, ↓b_aload_n, ↓b_bipush, ↓b_callV3_1, ↓b_getA, ↓b_goto, ↓b_iadd, ↓b_iaload, ↓b_iconst, ↓b_if_eq, ↓b_iload_n, ↓b_imul, ↓b_iret, ↓ldI_hit, ↓ldI_skip, ↓ldL_hit, ↓ldL_skip, ↓ldA_hit, ↓ldA_skip, ↓ldelK_nil, ↓ldelK_hit, ↓ldelK_skipI, ↓ldelK_skipA, ↓ldelK_skipL, lget_hit, lget_skip, ldel_nil, ldel_hit, ldel_skipI, ldel_skipA, ldel_skipL, ldel2_nil, ldel2_hit, ldel2_hit2, ldel2_skipI, ldel2_skipA, ldel2_skipL, vc_0, mCall_P0, mCat_nil, mCat_I, mCat_L, mCat_A, mRcv_A, mArg_nil, mArg_I, mArg_L, mArg_A, tsg, swt_nil, swt_cons, lkw_nil, lkw_cons, ↓reduceIte, Nat.reduceAdd, Nat.reduceEqDiff, Nat.reduceLeDiff, Nat.reduceMul, true_and, and_true, and_self, List.mem_cons, List.not_mem_nil, or_false, or_self, false_or, true_implies, false_implies, not_true_eq_false, not_false_eq_true, nI00, nI10, nI01, nI11, forall_const, implies_true]
      refine c8_isVat b0 b1 g6 w8 (fun _ _ => ?_) (fun z => absurd hv z)
      simp only [↓w_X8_comes_0, ↓w_X8_comes_26, ↓w_X8_comes_27, ↓v_X8_comes_26, ↓v_X8_comes_27, ↓b_aload_n, ↓b_bipush, ↓b_callV3_1, ↓b_getA, ↓b_goto, ↓b_iadd, ↓b_iaload, ↓b_iconst, ↓b_if_eq, ↓b_iload_n, ↓b_imul, ↓b_iret, ↓ldI_hit, ↓ldI_skip, ↓ldL_hit, ↓ldL_skip, ↓ldA_hit, ↓ldA_skip, ↓ldelK_nil, ↓ldelK_hit, ↓ldelK_skipI, ↓ldelK_skipA, ↓ldelK_skipL, lget_hit, lget_skip, ldel_nil, ldel_hit, ldel_skipI, ldel_skipA, ldel_skipL, ldel2_nil, ldel2_hit, ldel2_hit2, ldel2_skipI, ldel2_skipA, ldel2_skipL, vc_0, mCall_P0, mCat_nil, mCat_I, mCat_L, mCat_A, mRcv_A, mArg_nil, mArg_I, mArg_L, mArg_A, tsg, swt_nil, swt_cons, lkw_nil, lkw_cons, ↓reduceIte, Nat.reduceAdd, Nat.reduceEqDiff, Nat.reduceLeDiff, Nat.reduceMul, true_and, and_true, and_self, List.mem_cons, List.not_mem_nil, or_false, or_self, false_or, true_implies, false_implies, not_true_eq_false, not_false_eq_true, nI00, nI10, nI01, nI11, forall_const, implies_true]
      simp (disch := omega) only [ixq, ixz, sb_in, sb_in0, upI_sb, upI_sb0, sb_out, nI_add, nI_mul, nI_subq, Nat.zero_add, forall_eq, u2_at, u2_row, upd_at, upd_ne, nI0b, nI1b, nI00, nI10, nI01, nI11, true_implies, false_implies, not_true_eq_false, not_false_eq_true, and_true, true_and, implies_true]
      exact hK
    · (refine vc_met2 P1_ok ok_X9_comes cm_X9_comes [] 8 t_X9_comes_0 (Nat.le_of_ble_eq_true rfl) ?_; simp only [mArg_nil, mArg_I, mArg_L, mArg_A, Nat.reduceAdd])
      simp only [↓w_X9_comes_0, ↓w_X9_comes_31, ↓w_X9_comes_32, ↓v_X9_comes_31, ↓v_X9_comes_32, ↓b_aload_n, ↓b_callS2_1, ↓b_callV3_1, ↓b_getA, ↓b_goto, ↓b_iadd, ↓b_iaload, ↓b_iconst, ↓b_if_eq, ↓b_iload_n, ↓b_iret, ↓n_putI, ↓b_sipush, ↓ldI_hit, ↓ldI_skip, ↓ldL_hit, ↓ldL_skip, ↓ldA_hit, ↓ldA_skip, ↓ldelK_nil, ↓ldelK_hit, ↓ldelK_skipI, ↓ldelK_skipA, ↓ldelK_skipL, qP1_X9_cell, qP1_X9_isVat, ↓bI_b, bI_0, nnot, lget_hit, lget_skip, ldel_nil, ldel_hit, ldel_skipI, ldel_skipA, ldel_skipL, ldel2_nil, ldel2_hit, ldel2_hit2, ldel2_skipI, ldel2_skipA, ldel2_skipL, vc_0, mCat_nil, mCat_I, mCat_L, mCat_A, mRcv_A, mArg_nil, mArg_I, mArg_L, mArg_A, tsg, swt_nil, swt_cons, lkw_nil, lkw_cons, ↓reduceIte, Nat.reduceAdd, Nat.reduceEqDiff, Nat.reduceLeDiff, Nat.reduceMul, true_and, and_true, and_self, List.mem_cons, List.not_mem_nil, or_false, or_self, false_or, true_implies, false_implies, not_true_eq_false, not_false_eq_true, nI00, nI10, nI01, nI11, forall_const, implies_true]
      simp (disch := omega) only [ixq, ixz, sb_in, sb_in0, upI_sb, upI_sb0, sb_out, nI_add, nI_mul, nI_subq, Nat.zero_add, forall_eq, u2_at, u2_row, upd_at, upd_ne, nI0b, nI1b, nI00, nI10, nI01, nI11, true_implies, false_implies, not_true_eq_false, not_false_eq_true, and_true, true_and, implies_true]
      refine c9_isVat q0' q1' g6 w8 (fun _ _ => ?_) (fun z => absurd ⟨?_, ?_⟩ z)
      · simp only [↓w_X9_comes_0, ↓w_X9_comes_31, ↓w_X9_comes_32, ↓v_X9_comes_31, ↓v_X9_comes_32, ↓b_aload_n, ↓b_callS2_1, ↓b_callV3_1, ↓b_getA, ↓b_goto, ↓b_iadd, ↓b_iaload, ↓b_iconst, ↓b_if_eq, ↓b_iload_n, ↓b_iret, ↓n_putI, ↓b_sipush, ↓ldI_hit, ↓ldI_skip, ↓ldL_hit, ↓ldL_skip, ↓ldA_hit, ↓ldA_skip, ↓ldelK_nil, ↓ldelK_hit, ↓ldelK_skipI, ↓ldelK_skipA, ↓ldelK_skipL, qP1_X9_cell, qP1_X9_isVat, ↓bI_b, bI_0, nnot, lget_hit, lget_skip, ldel_nil, ldel_hit, ldel_skipI, ldel_skipA, ldel_skipL, ldel2_nil, ldel2_hit, ldel2_hit2, ldel2_skipI, ldel2_skipA, ldel2_skipL, vc_0, mCat_nil, mCat_I, mCat_L, mCat_A, mRcv_A, mArg_nil, mArg_I, mArg_L, mArg_A, tsg, swt_nil, swt_cons, lkw_nil, lkw_cons, ↓reduceIte, Nat.reduceAdd, Nat.reduceEqDiff, Nat.reduceLeDiff, Nat.reduceMul, true_and, and_true, and_self, List.mem_cons, List.not_mem_nil, or_false, or_self, false_or, true_implies, false_implies, not_true_eq_false, not_false_eq_true, nI00, nI10, nI01, nI11, forall_const, implies_true]
        simp (disch := omega) only [ixq, ixz, sb_in, sb_in0, upI_sb, upI_sb0, sb_out, nI_add, nI_mul, nI_subq, Nat.zero_add, forall_eq, u2_at, u2_row, upd_at, upd_ne, nI0b, nI1b, nI00, nI10, nI01, nI11, true_implies, false_implies, not_true_eq_false, not_false_eq_true, and_true, true_and, implies_true, Nat.add_assoc, ev, Nat.reduceAdd]
        exact hK
      · rw [q2']
        exact Classical.byContradiction (fun y => hn (ri'.mpr y))
      · rw [q2']
        exact VTP_e g6 w8 c7 hv.2
  · refine get (.inl (-1)) hx hr (fun K hK => ?_) (fun K hK => ?_)
    · (refine vc_met2 P0_ok ok_X8_comes cm_X8_comes [] 8 t_X8_comes_0 (Nat.le_of_ble_eq_true rfl) ?_; simp only [mArg_nil, mArg_I, mArg_L, mArg_A, Nat.reduceAdd])
      simp only [↓w_X8_comes_0, ↓w_X8_comes_26, ↓w_X8_comes_27, ↓v_X8_comes_26, ↓v_X8_comes_27, ↓b_aload_n, ↓b_bipush, ↓b_callV3_1, ↓b_getA, ↓b_goto, ↓b_iadd, ↓b_iaload, ↓b_iconst, ↓b_if_eq, ↓b_iload_n, ↓b_imul, ↓b_iret, ↓ldI_hit, ↓ldI_skip, ↓ldL_hit, ↓ldL_skip, ↓ldA_hit, ↓ldA_skip, ↓ldelK_nil, ↓ldelK_hit, ↓ldelK_skipI, ↓ldelK_skipA, ↓ldelK_skipL, lget_hit, lget_skip, ldel_nil, ldel_hit, ldel_skipI, ldel_skipA, ldel_skipL, ldel2_nil, ldel2_hit, ldel2_hit2, ldel2_skipI, ldel2_skipA, ldel2_skipL, vc_0, mCall_P0, mCat_nil, mCat_I, mCat_L, mCat_A, mRcv_A, mArg_nil, mArg_I, mArg_L, mArg_A, tsg, swt_nil, swt_cons, lkw_nil, lkw_cons, ↓reduceIte, Nat.reduceAdd, Nat.reduceEqDiff, Nat.reduceLeDiff, Nat.reduceMul, true_and, and_true, and_self, List.mem_cons, List.not_mem_nil, or_false, or_self, false_or, true_implies, false_implies, not_true_eq_false, not_false_eq_true, nI00, nI10, nI01, nI11, forall_const, implies_true]
      refine c8_isVat b0 b1 g6 w8 (fun y1 y2 => absurd ⟨y1, y2⟩ hv) (fun _ => ?_)
      (try simp only [↓w_X8_comes_0, ↓w_X8_comes_26, ↓w_X8_comes_27, ↓v_X8_comes_26, ↓v_X8_comes_27, ↓b_aload_n, ↓b_bipush, ↓b_callV3_1, ↓b_getA, ↓b_goto, ↓b_iadd, ↓b_iaload, ↓b_iconst, ↓b_if_eq, ↓b_iload_n, ↓b_imul, ↓b_iret, ↓ldI_hit, ↓ldI_skip, ↓ldL_hit, ↓ldL_skip, ↓ldA_hit, ↓ldA_skip, ↓ldelK_nil, ↓ldelK_hit, ↓ldelK_skipI, ↓ldelK_skipA, ↓ldelK_skipL, lget_hit, lget_skip, ldel_nil, ldel_hit, ldel_skipI, ldel_skipA, ldel_skipL, ldel2_nil, ldel2_hit, ldel2_hit2, ldel2_skipI, ldel2_skipA, ldel2_skipL, vc_0, mCall_P0, mCat_nil, mCat_I, mCat_L, mCat_A, mRcv_A, mArg_nil, mArg_I, mArg_L, mArg_A, tsg, swt_nil, swt_cons, lkw_nil, lkw_cons, ↓reduceIte, Nat.reduceAdd, Nat.reduceEqDiff, Nat.reduceLeDiff, Nat.reduceMul, true_and, and_true, and_self, List.mem_cons, List.not_mem_nil, or_false, or_self, false_or, true_implies, false_implies, not_true_eq_false, not_false_eq_true, nI00, nI10, nI01, nI11, forall_const, implies_true]); (try simp (disch := omega) only [ixq, ixz, sb_in, sb_in0, upI_sb, upI_sb0, sb_out, nI_add, nI_mul, nI_subq, Nat.zero_add, forall_eq, u2_at, u2_row, upd_at, upd_ne, nI0b, nI1b, nI00, nI10, nI01, nI11, true_implies, false_implies, not_true_eq_false, not_false_eq_true, and_true, true_and, implies_true])
      exact hK
    · (refine vc_met2 P1_ok ok_X9_comes cm_X9_comes [] 8 t_X9_comes_0 (Nat.le_of_ble_eq_true rfl) ?_; simp only [mArg_nil, mArg_I, mArg_L, mArg_A, Nat.reduceAdd])
      simp only [↓w_X9_comes_0, ↓w_X9_comes_31, ↓w_X9_comes_32, ↓v_X9_comes_31, ↓v_X9_comes_32, ↓b_aload_n, ↓b_callS2_1, ↓b_callV3_1, ↓b_getA, ↓b_goto, ↓b_iadd, ↓b_iaload, ↓b_iconst, ↓b_if_eq, ↓b_iload_n, ↓b_iret, ↓n_putI, ↓b_sipush, ↓ldI_hit, ↓ldI_skip, ↓ldL_hit, ↓ldL_skip, ↓ldA_hit, ↓ldA_skip, ↓ldelK_nil, ↓ldelK_hit, ↓ldelK_skipI, ↓ldelK_skipA, ↓ldelK_skipL, qP1_X9_cell, qP1_X9_isVat, ↓bI_b, bI_0, nnot, lget_hit, lget_skip, ldel_nil, ldel_hit, ldel_skipI, ldel_skipA, ldel_skipL, ldel2_nil, ldel2_hit, ldel2_hit2, ldel2_skipI, ldel2_skipA, ldel2_skipL, vc_0, mCat_nil, mCat_I, mCat_L, mCat_A, mRcv_A, mArg_nil, mArg_I, mArg_L, mArg_A, tsg, swt_nil, swt_cons, lkw_nil, lkw_cons, ↓reduceIte, Nat.reduceAdd, Nat.reduceEqDiff, Nat.reduceLeDiff, Nat.reduceMul, true_and, and_true, and_self, List.mem_cons, List.not_mem_nil, or_false, or_self, false_or, true_implies, false_implies, not_true_eq_false, not_false_eq_true, nI00, nI10, nI01, nI11, forall_const, implies_true]
      simp (disch := omega) only [ixq, ixz, sb_in, sb_in0, upI_sb, upI_sb0, sb_out, nI_add, nI_mul, nI_subq, Nat.zero_add, forall_eq, u2_at, u2_row, upd_at, upd_ne, nI0b, nI1b, nI00, nI10, nI01, nI11, true_implies, false_implies, not_true_eq_false, not_false_eq_true, and_true, true_and, implies_true]
      refine c9_isVat q0' q1' g6 w8 (fun y1 y2 => ?_) (fun _ => ?_)
      · rw [q2'] at y1 y2
        exact absurd ⟨fun e => ri'.mp e y1, VTP_e g6 w8 (fun c hc => (c7 c hc).symm) y2⟩ hv
      · (try simp only [↓w_X9_comes_0, ↓w_X9_comes_31, ↓w_X9_comes_32, ↓v_X9_comes_31, ↓v_X9_comes_32, ↓b_aload_n, ↓b_callS2_1, ↓b_callV3_1, ↓b_getA, ↓b_goto, ↓b_iadd, ↓b_iaload, ↓b_iconst, ↓b_if_eq, ↓b_iload_n, ↓b_iret, ↓n_putI, ↓b_sipush, ↓ldI_hit, ↓ldI_skip, ↓ldL_hit, ↓ldL_skip, ↓ldA_hit, ↓ldA_skip, ↓ldelK_nil, ↓ldelK_hit, ↓ldelK_skipI, ↓ldelK_skipA, ↓ldelK_skipL, qP1_X9_cell, qP1_X9_isVat, ↓bI_b, bI_0, nnot, lget_hit, lget_skip, ldel_nil, ldel_hit, ldel_skipI, ldel_skipA, ldel_skipL, ldel2_nil, ldel2_hit, ldel2_hit2, ldel2_skipI, ldel2_skipA, ldel2_skipL, vc_0, mCat_nil, mCat_I, mCat_L, mCat_A, mRcv_A, mArg_nil, mArg_I, mArg_L, mArg_A, tsg, swt_nil, swt_cons, lkw_nil, lkw_cons, ↓reduceIte, Nat.reduceAdd, Nat.reduceEqDiff, Nat.reduceLeDiff, Nat.reduceMul, true_and, and_true, and_self, List.mem_cons, List.not_mem_nil, or_false, or_self, false_or, true_implies, false_implies, not_true_eq_false, not_false_eq_true, nI00, nI10, nI01, nI11, forall_const, implies_true]); (try simp (disch := omega) only [ixq, ixz, sb_in, sb_in0, upI_sb, upI_sb0, sb_out, nI_add, nI_mul, nI_subq, Nat.zero_add, forall_eq, u2_at, u2_row, upd_at, upd_ne, nI0b, nI1b, nI00, nI10, nI01, nI11, true_implies, false_implies, not_true_eq_false, not_false_eq_true, and_true, true_and, implies_true])
        exact hK
theorem f_lacks {w g : Int32} (hx : x + 164 = m) (hr : Rel x m μ) : PAIR X (h + 4) m_X8_lacks m_X9_lacks x m [.inl w, .inl g] μ := by
  obtain ⟨G, W, rb, pl, sn, rn⟩ := id hr.2.2.1
  have b0 : μ.1 (x + 4) 0 = nI G := rb.b0
  have b1 : μ.1 (x + 4) 1 = nI W := rb.b1
  have q0 : bk μ m 2 0 = nI G := rb.q0
  have q1 : bk μ m 2 1 = nI W := rb.q1
  have g6 := rb.g6
  have w8 := rb.w8
  have ri := run_iff rn
  have ri' : (μ.1 (x + 50) 0 = -1) = ¬ 0 < bk μ m 2 621 := ri
  have c7 : ∀ c, c < 48 → bk μ m 2 (38 + c) = μ.1 (x + 4 + 7) c := fun c hc => (rb.ce c hc).1
  have q0' : (u2 (bk μ m) 0 0 (nI 0)) 2 0 = nI G := by rw [u2_row (by decide)]; exact q0
  have q1' : (u2 (bk μ m) 0 0 (nI 0)) 2 1 = nI W := by rw [u2_row (by decide)]; exact q1
  have q2' : (u2 (bk μ m) 0 0 (nI 0)) 2 = bk μ m 2 := u2_row (by decide)
  by_cases hv : ¬ μ.1 (x + 50) 0 = -1 ∧ VTP G W (μ.1 (x + 4 + 7)) w g
  · obtain ⟨hn, i, j, hi, hj, rfl, rfl, ht⟩ := id hv
    rcases rn with ⟨e1, e2⟩ | ⟨n, n1, n2, n3, n4⟩
    · exact absurd e1 hn
    have ev : bk μ m 2 (767 + (i * 6 + j)) = μ.1 (x + 50 + 4) (i * 6 + j) := by
      have e := n4.1 4 (i * 6 + j) (by omega) (by rw [show szR 6 4 = 48 by decide]; omega)
      show μ.1 (m + 2) (767 + (i * 6 + j)) = _
      have e2 : sv (μ.1 (m + 2)) 4 (i * 6 + j) = μ.1 (m + 2) (621 + (146 + (i * 6 + j))) := rfl
      rw [e2] at e
      rw [show 767 + (i * 6 + j) = 621 + (146 + (i * 6 + j)) by omega]
      exact e
    refine get (.inl (μ.1 (x + 50 + 4) (i * 6 + j))) hx hr (fun K hK => ?_) (fun K hK => ?_)
    · (refine vc_met2 P0_ok ok_X8_lacks cm_X8_lacks [] 8 t_X8_lacks_0 (Nat.le_of_ble_eq_true rfl) ?_; simp only [mArg_nil, mArg_I, mArg_L, mArg_A, Nat.reduceAdd])
      simp only [↓w_X8_lacks_0, ↓w_X8_lacks_26, ↓w_X8_lacks_27, ↓v_X8_lacks_26, ↓v_X8_lacks_27, ↓b_aload_n, ↓b_bipush, ↓b_callV3_1, ↓b_getA, ↓b_goto, ↓b_iadd, ↓b_iaload, ↓b_iconst, ↓b_if_eq, ↓b_iload_n, ↓b_imul, ↓b_iret, ↓ldI_hit, ↓ldI_skip, ↓ldL_hit, ↓ldL_skip, ↓ldA_hit, ↓ldA_skip, ↓ldelK_nil, ↓ldelK_hit, ↓ldelK_skipI, ↓ldelK_skipA, ↓ldelK_skipL, lget_hit, lget_skip, ldel_nil, ldel_hit, ldel_skipI, ldel_skipA, ldel_skipL, ldel2_nil, ldel2_hit, ldel2_hit2, ldel2_skipI, ldel2_skipA, ldel2_skipL, vc_0, mCall_P0, mCat_nil, mCat_I, mCat_L, mCat_A, mRcv_A, mArg_nil, mArg_I, mArg_L, mArg_A, tsg, swt_nil, swt_cons, lkw_nil, lkw_cons, ↓reduceIte, Nat.reduceAdd, Nat.reduceEqDiff, Nat.reduceLeDiff, Nat.reduceMul, true_and, and_true, and_self, List.mem_cons, List.not_mem_nil, or_false, or_self, false_or, true_implies, false_implies, not_true_eq_false, not_false_eq_true, nI00, nI10, nI01, nI11, forall_const, implies_true]
      refine c8_isVat b0 b1 g6 w8 (fun _ _ => ?_) (fun z => absurd hv z)
      simp only [↓w_X8_lacks_0, ↓w_X8_lacks_26, ↓w_X8_lacks_27, ↓v_X8_lacks_26, ↓v_X8_lacks_27, ↓b_aload_n, ↓b_bipush, ↓b_callV3_1, ↓b_getA, ↓b_goto, ↓b_iadd, ↓b_iaload, ↓b_iconst, ↓b_if_eq, ↓b_iload_n, ↓b_imul, ↓b_iret, ↓ldI_hit, ↓ldI_skip, ↓ldL_hit, ↓ldL_skip, ↓ldA_hit, ↓ldA_skip, ↓ldelK_nil, ↓ldelK_hit, ↓ldelK_skipI, ↓ldelK_skipA, ↓ldelK_skipL, lget_hit, lget_skip, ldel_nil, ldel_hit, ldel_skipI, ldel_skipA, ldel_skipL, ldel2_nil, ldel2_hit, ldel2_hit2, ldel2_skipI, ldel2_skipA, ldel2_skipL, vc_0, mCall_P0, mCat_nil, mCat_I, mCat_L, mCat_A, mRcv_A, mArg_nil, mArg_I, mArg_L, mArg_A, tsg, swt_nil, swt_cons, lkw_nil, lkw_cons, ↓reduceIte, Nat.reduceAdd, Nat.reduceEqDiff, Nat.reduceLeDiff, Nat.reduceMul, true_and, and_true, and_self, List.mem_cons, List.not_mem_nil, or_false, or_self, false_or, true_implies, false_implies, not_true_eq_false, not_false_eq_true, nI00, nI10, nI01, nI11, forall_const, implies_true]
      simp (disch := omega) only [ixq, ixz, sb_in, sb_in0, upI_sb, upI_sb0, sb_out, nI_add, nI_mul, nI_subq, Nat.zero_add, forall_eq, u2_at, u2_row, upd_at, upd_ne, nI0b, nI1b, nI00, nI10, nI01, nI11, true_implies, false_implies, not_true_eq_false, not_false_eq_true, and_true, true_and, implies_true]
      exact hK
    · (refine vc_met2 P1_ok ok_X9_lacks cm_X9_lacks [] 8 t_X9_lacks_0 (Nat.le_of_ble_eq_true rfl) ?_; simp only [mArg_nil, mArg_I, mArg_L, mArg_A, Nat.reduceAdd])
      simp only [↓w_X9_lacks_0, ↓w_X9_lacks_31, ↓w_X9_lacks_32, ↓v_X9_lacks_31, ↓v_X9_lacks_32, ↓b_aload_n, ↓b_callS2_1, ↓b_callV3_1, ↓b_getA, ↓b_goto, ↓b_iadd, ↓b_iaload, ↓b_iconst, ↓b_if_eq, ↓b_iload_n, ↓b_iret, ↓n_putI, ↓b_sipush, ↓ldI_hit, ↓ldI_skip, ↓ldL_hit, ↓ldL_skip, ↓ldA_hit, ↓ldA_skip, ↓ldelK_nil, ↓ldelK_hit, ↓ldelK_skipI, ↓ldelK_skipA, ↓ldelK_skipL, qP1_X9_cell, qP1_X9_isVat, ↓bI_b, bI_0, nnot, lget_hit, lget_skip, ldel_nil, ldel_hit, ldel_skipI, ldel_skipA, ldel_skipL, ldel2_nil, ldel2_hit, ldel2_hit2, ldel2_skipI, ldel2_skipA, ldel2_skipL, vc_0, mCat_nil, mCat_I, mCat_L, mCat_A, mRcv_A, mArg_nil, mArg_I, mArg_L, mArg_A, tsg, swt_nil, swt_cons, lkw_nil, lkw_cons, ↓reduceIte, Nat.reduceAdd, Nat.reduceEqDiff, Nat.reduceLeDiff, Nat.reduceMul, true_and, and_true, and_self, List.mem_cons, List.not_mem_nil, or_false, or_self, false_or, true_implies, false_implies, not_true_eq_false, not_false_eq_true, nI00, nI10, nI01, nI11, forall_const, implies_true]
      simp (disch := omega) only [ixq, ixz, sb_in, sb_in0, upI_sb, upI_sb0, sb_out, nI_add, nI_mul, nI_subq, Nat.zero_add, forall_eq, u2_at, u2_row, upd_at, upd_ne, nI0b, nI1b, nI00, nI10, nI01, nI11, true_implies, false_implies, not_true_eq_false, not_false_eq_true, and_true, true_and, implies_true]
      refine c9_isVat q0' q1' g6 w8 (fun _ _ => ?_) (fun z => absurd ⟨?_, ?_⟩ z)
      · simp only [↓w_X9_lacks_0, ↓w_X9_lacks_31, ↓w_X9_lacks_32, ↓v_X9_lacks_31, ↓v_X9_lacks_32, ↓b_aload_n, ↓b_callS2_1, ↓b_callV3_1, ↓b_getA, ↓b_goto, ↓b_iadd, ↓b_iaload, ↓b_iconst, ↓b_if_eq, ↓b_iload_n, ↓b_iret, ↓n_putI, ↓b_sipush, ↓ldI_hit, ↓ldI_skip, ↓ldL_hit, ↓ldL_skip, ↓ldA_hit, ↓ldA_skip, ↓ldelK_nil, ↓ldelK_hit, ↓ldelK_skipI, ↓ldelK_skipA, ↓ldelK_skipL, qP1_X9_cell, qP1_X9_isVat, ↓bI_b, bI_0, nnot, lget_hit, lget_skip, ldel_nil, ldel_hit, ldel_skipI, ldel_skipA, ldel_skipL, ldel2_nil, ldel2_hit, ldel2_hit2, ldel2_skipI, ldel2_skipA, ldel2_skipL, vc_0, mCat_nil, mCat_I, mCat_L, mCat_A, mRcv_A, mArg_nil, mArg_I, mArg_L, mArg_A, tsg, swt_nil, swt_cons, lkw_nil, lkw_cons, ↓reduceIte, Nat.reduceAdd, Nat.reduceEqDiff, Nat.reduceLeDiff, Nat.reduceMul, true_and, and_true, and_self, List.mem_cons, List.not_mem_nil, or_false, or_self, false_or, true_implies, false_implies, not_true_eq_false, not_false_eq_true, nI00, nI10, nI01, nI11, forall_const, implies_true]
        simp (disch := omega) only [ixq, ixz, sb_in, sb_in0, upI_sb, upI_sb0, sb_out, nI_add, nI_mul, nI_subq, Nat.zero_add, forall_eq, u2_at, u2_row, upd_at, upd_ne, nI0b, nI1b, nI00, nI10, nI01, nI11, true_implies, false_implies, not_true_eq_false, not_false_eq_true, and_true, true_and, implies_true, Nat.add_assoc, ev, Nat.reduceAdd]
        exact hK
      · rw [q2']
        exact Classical.byContradiction (fun y => hn (ri'.mpr y))
      · rw [q2']
        exact VTP_e g6 w8 c7 hv.2
  · refine get (.inl (-1)) hx hr (fun K hK => ?_) (fun K hK => ?_)
    · (refine vc_met2 P0_ok ok_X8_lacks cm_X8_lacks [] 8 t_X8_lacks_0 (Nat.le_of_ble_eq_true rfl) ?_; simp only [mArg_nil, mArg_I, mArg_L, mArg_A, Nat.reduceAdd])
      simp only [↓w_X8_lacks_0, ↓w_X8_lacks_26, ↓w_X8_lacks_27, ↓v_X8_lacks_26, ↓v_X8_lacks_27, ↓b_aload_n, ↓b_bipush, ↓b_callV3_1, ↓b_getA, ↓b_goto, ↓b_iadd, ↓b_iaload, ↓b_iconst, ↓b_if_eq, ↓b_iload_n, ↓b_imul, ↓b_iret, ↓ldI_hit, ↓ldI_skip, ↓ldL_hit, ↓ldL_skip, ↓ldA_hit, ↓ldA_skip, ↓ldelK_nil, ↓ldelK_hit, ↓ldelK_skipI, ↓ldelK_skipA, ↓ldelK_skipL, lget_hit, lget_skip, ldel_nil, ldel_hit, ldel_skipI, ldel_skipA, ldel_skipL, ldel2_nil, ldel2_hit, ldel2_hit2, ldel2_skipI, ldel2_skipA, ldel2_skipL, vc_0, mCall_P0, mCat_nil, mCat_I, mCat_L, mCat_A, mRcv_A, mArg_nil, mArg_I, mArg_L, mArg_A, tsg, swt_nil, swt_cons, lkw_nil, lkw_cons, ↓reduceIte, Nat.reduceAdd, Nat.reduceEqDiff, Nat.reduceLeDiff, Nat.reduceMul, true_and, and_true, and_self, List.mem_cons, List.not_mem_nil, or_false, or_self, false_or, true_implies, false_implies, not_true_eq_false, not_false_eq_true, nI00, nI10, nI01, nI11, forall_const, implies_true]
      refine c8_isVat b0 b1 g6 w8 (fun y1 y2 => absurd ⟨y1, y2⟩ hv) (fun _ => ?_)
      (try simp only [↓w_X8_lacks_0, ↓w_X8_lacks_26, ↓w_X8_lacks_27, ↓v_X8_lacks_26, ↓v_X8_lacks_27, ↓b_aload_n, ↓b_bipush, ↓b_callV3_1, ↓b_getA, ↓b_goto, ↓b_iadd, ↓b_iaload, ↓b_iconst, ↓b_if_eq, ↓b_iload_n, ↓b_imul, ↓b_iret, ↓ldI_hit, ↓ldI_skip, ↓ldL_hit, ↓ldL_skip, ↓ldA_hit, ↓ldA_skip, ↓ldelK_nil, ↓ldelK_hit, ↓ldelK_skipI, ↓ldelK_skipA, ↓ldelK_skipL, lget_hit, lget_skip, ldel_nil, ldel_hit, ldel_skipI, ldel_skipA, ldel_skipL, ldel2_nil, ldel2_hit, ldel2_hit2, ldel2_skipI, ldel2_skipA, ldel2_skipL, vc_0, mCall_P0, mCat_nil, mCat_I, mCat_L, mCat_A, mRcv_A, mArg_nil, mArg_I, mArg_L, mArg_A, tsg, swt_nil, swt_cons, lkw_nil, lkw_cons, ↓reduceIte, Nat.reduceAdd, Nat.reduceEqDiff, Nat.reduceLeDiff, Nat.reduceMul, true_and, and_true, and_self, List.mem_cons, List.not_mem_nil, or_false, or_self, false_or, true_implies, false_implies, not_true_eq_false, not_false_eq_true, nI00, nI10, nI01, nI11, forall_const, implies_true]); (try simp (disch := omega) only [ixq, ixz, sb_in, sb_in0, upI_sb, upI_sb0, sb_out, nI_add, nI_mul, nI_subq, Nat.zero_add, forall_eq, u2_at, u2_row, upd_at, upd_ne, nI0b, nI1b, nI00, nI10, nI01, nI11, true_implies, false_implies, not_true_eq_false, not_false_eq_true, and_true, true_and, implies_true])
      exact hK
    · (refine vc_met2 P1_ok ok_X9_lacks cm_X9_lacks [] 8 t_X9_lacks_0 (Nat.le_of_ble_eq_true rfl) ?_; simp only [mArg_nil, mArg_I, mArg_L, mArg_A, Nat.reduceAdd])
      simp only [↓w_X9_lacks_0, ↓w_X9_lacks_31, ↓w_X9_lacks_32, ↓v_X9_lacks_31, ↓v_X9_lacks_32, ↓b_aload_n, ↓b_callS2_1, ↓b_callV3_1, ↓b_getA, ↓b_goto, ↓b_iadd, ↓b_iaload, ↓b_iconst, ↓b_if_eq, ↓b_iload_n, ↓b_iret, ↓n_putI, ↓b_sipush, ↓ldI_hit, ↓ldI_skip, ↓ldL_hit, ↓ldL_skip, ↓ldA_hit, ↓ldA_skip, ↓ldelK_nil, ↓ldelK_hit, ↓ldelK_skipI, ↓ldelK_skipA, ↓ldelK_skipL, qP1_X9_cell, qP1_X9_isVat, ↓bI_b, bI_0, nnot, lget_hit, lget_skip, ldel_nil, ldel_hit, ldel_skipI, ldel_skipA, ldel_skipL, ldel2_nil, ldel2_hit, ldel2_hit2, ldel2_skipI, ldel2_skipA, ldel2_skipL, vc_0, mCat_nil, mCat_I, mCat_L, mCat_A, mRcv_A, mArg_nil, mArg_I, mArg_L, mArg_A, tsg, swt_nil, swt_cons, lkw_nil, lkw_cons, ↓reduceIte, Nat.reduceAdd, Nat.reduceEqDiff, Nat.reduceLeDiff, Nat.reduceMul, true_and, and_true, and_self, List.mem_cons, List.not_mem_nil, or_false, or_self, false_or, true_implies, false_implies, not_true_eq_false, not_false_eq_true, nI00, nI10, nI01, nI11, forall_const, implies_true]
      simp (disch := omega) only [ixq, ixz, sb_in, sb_in0, upI_sb, upI_sb0, sb_out, nI_add, nI_mul, nI_subq, Nat.zero_add, forall_eq, u2_at, u2_row, upd_at, upd_ne, nI0b, nI1b, nI00, nI10, nI01, nI11, true_implies, false_implies, not_true_eq_false, not_false_eq_true, and_true, true_and, implies_true]
      refine c9_isVat q0' q1' g6 w8 (fun y1 y2 => ?_) (fun _ => ?_)
      · rw [q2'] at y1 y2
        exact absurd ⟨fun e => ri'.mp e y1, VTP_e g6 w8 (fun c hc => (c7 c hc).symm) y2⟩ hv
      · (try simp only [↓w_X9_lacks_0, ↓w_X9_lacks_31, ↓w_X9_lacks_32, ↓v_X9_lacks_31, ↓v_X9_lacks_32, ↓b_aload_n, ↓b_callS2_1, ↓b_callV3_1, ↓b_getA, ↓b_goto, ↓b_iadd, ↓b_iaload, ↓b_iconst, ↓b_if_eq, ↓b_iload_n, ↓b_iret, ↓n_putI, ↓b_sipush, ↓ldI_hit, ↓ldI_skip, ↓ldL_hit, ↓ldL_skip, ↓ldA_hit, ↓ldA_skip, ↓ldelK_nil, ↓ldelK_hit, ↓ldelK_skipI, ↓ldelK_skipA, ↓ldelK_skipL, qP1_X9_cell, qP1_X9_isVat, ↓bI_b, bI_0, nnot, lget_hit, lget_skip, ldel_nil, ldel_hit, ldel_skipI, ldel_skipA, ldel_skipL, ldel2_nil, ldel2_hit, ldel2_hit2, ldel2_skipI, ldel2_skipA, ldel2_skipL, vc_0, mCat_nil, mCat_I, mCat_L, mCat_A, mRcv_A, mArg_nil, mArg_I, mArg_L, mArg_A, tsg, swt_nil, swt_cons, lkw_nil, lkw_cons, ↓reduceIte, Nat.reduceAdd, Nat.reduceEqDiff, Nat.reduceLeDiff, Nat.reduceMul, true_and, and_true, and_self, List.mem_cons, List.not_mem_nil, or_false, or_self, false_or, true_implies, false_implies, not_true_eq_false, not_false_eq_true, nI00, nI10, nI01, nI11, forall_const, implies_true]); (try simp (disch := omega) only [ixq, ixz, sb_in, sb_in0, upI_sb, upI_sb0, sb_out, nI_add, nI_mul, nI_subq, Nat.zero_add, forall_eq, u2_at, u2_row, upd_at, upd_ne, nI0b, nI1b, nI00, nI10, nI01, nI11, true_implies, false_implies, not_true_eq_false, not_false_eq_true, and_true, true_and, implies_true])
        exact hK
end MG2
