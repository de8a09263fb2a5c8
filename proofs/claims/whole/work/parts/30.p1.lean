theorem bI_bz {c : Prop} [Decidable c] : bI c = 0 ∨ bI c = 1 := by
  rw [bI_b]; trivial
theorem nnot {c : Prop} : (¬ ¬ c) = c := propext Classical.not_not
def pc (m : Nat) (f : List MV → Mem → Option MV) (rest : mP) : mP := fun M a μ => if M = m then f a μ else rest M a μ
theorem pc_ok {X : mC} {h m : Nat} {f : List MV → Mem → Option MV} {rest : mP} (h1 : ∀ a μ r, f a μ = some r → ∀ K : MV → Mem → Prop, K r μ → mMet X h m a μ K) (h2 : mPok X rest h) : mPok X (pc m f rest) h := by
  intro M a μ r hr K hK
  unfold pc at hr
  by_cases hM : M = m
  · rw [if_pos hM] at hr
    subst hM
    exact h1 a μ r hr K hK
  · rw [if_neg hM] at hr
    exact h2 M a μ r hr K hK
section
variable {X : mC} {h : Nat} {K : MV → Mem → Prop} {μ : Mem}
theorem c_X9_isIn {v lo hi : Int32} (hK : K (.inl (bI (lo ≤ v ∧ v ≤ hi))) μ) : mMet X (h + 1) m_X9_isIn [.inl v, .inl lo, .inl hi] μ K := by
  (refine vc_met2 P0_ok ok_X9_isIn cm_X9_isIn [] 6 t_X9_isIn_0 (Nat.le_of_ble_eq_true rfl) ?_; simp only [mArg_nil, mArg_I, mArg_L, mArg_A, Nat.reduceAdd])
  simp only [↓w_X9_isIn_0, ↓w_X9_isIn_14, ↓w_X9_isIn_15, ↓v_X9_isIn_14, ↓v_X9_isIn_15, ↓b_goto, ↓b_ic_gt, ↓b_ic_lt, ↓b_iconst, ↓b_iload_n, ↓b_zret, ↓ldI_hit, ↓ldI_skip, ↓ldL_hit, ↓ldL_skip, ↓ldA_hit, ↓ldA_skip, ↓ldelK_nil, ↓ldelK_hit, ↓ldelK_skipI, ↓ldelK_skipA, ↓ldelK_skipL, lget_hit, lget_skip, ldel_nil, ldel_hit, ldel_skipI, ldel_skipA, ldel_skipL, ldel2_nil, ldel2_hit, ldel2_hit2, ldel2_skipI, ldel2_skipA, ldel2_skipL, vc_0, mCall_P0, mCat_nil, mCat_I, mCat_L, mCat_A, mRcv_A, mArg_nil, mArg_I, mArg_L, mArg_A, tsg, swt_nil, swt_cons, lkw_nil, lkw_cons, ↓reduceIte, Nat.reduceAdd, Nat.reduceEqDiff, Nat.reduceLeDiff, Nat.reduceMul, true_and, and_true, and_self, List.mem_cons, List.not_mem_nil, or_false, or_self, false_or, true_implies, false_implies, not_true_eq_false, not_false_eq_true, nI00, nI10, nI01, nI11, forall_const, implies_true]
  try simp (disch := omega) only [ixq, ixz, sb_in, sb_in0, upI_sb, upI_sb0, sb_out, nI_add, nI_mul, nI_subq, Nat.zero_add, forall_eq, u2_at, u2_row, upd_at, upd_ne, nI0b, nI1b, nI00, nI10, nI01, nI11, true_implies, false_implies, not_true_eq_false, not_false_eq_true, and_true, true_and, implies_true]
  refine ⟨fun hc => ?_, fun hc => ⟨fun hc2 => ?_, fun hc2 => ?_⟩⟩
  · rw [bI_f (fun z => absurd z.1 (Int32.not_le.mpr hc))] at hK; exact hK
  · rw [bI_f (fun z => absurd z.2 (Int32.not_le.mpr hc2))] at hK; exact hK
  · rw [bI_t (⟨Int32.not_lt.mp hc, Int32.not_lt.mp hc2⟩)] at hK; exact hK
theorem c_X9_has {s k : Int32} (hK : K (.inl (bI (s >>> (k &&& 31) &&& nI 1 = nI 1))) μ) : mMet X (h + 1) m_X9_has [.inl s, .inl k] μ K := by
  (refine vc_met2 P0_ok ok_X9_has cm_X9_has [] 6 t_X9_has_0 (Nat.le_of_ble_eq_true rfl) ?_; simp only [mArg_nil, mArg_I, mArg_L, mArg_A, Nat.reduceAdd])
  simp only [↓w_X9_has_0, ↓w_X9_has_13, ↓w_X9_has_14, ↓v_X9_has_13, ↓v_X9_has_14, ↓b_goto, ↓b_iand, ↓b_ic_ne, ↓b_iconst, ↓b_iload_n, ↓b_ishr, ↓b_zret, ↓ldI_hit, ↓ldI_skip, ↓ldL_hit, ↓ldL_skip, ↓ldA_hit, ↓ldA_skip, ↓ldelK_nil, ↓ldelK_hit, ↓ldelK_skipI, ↓ldelK_skipA, ↓ldelK_skipL, lget_hit, lget_skip, ldel_nil, ldel_hit, ldel_skipI, ldel_skipA, ldel_skipL, ldel2_nil, ldel2_hit, ldel2_hit2, ldel2_skipI, ldel2_skipA, ldel2_skipL, vc_0, mCall_P0, mCat_nil, mCat_I, mCat_L, mCat_A, mRcv_A, mArg_nil, mArg_I, mArg_L, mArg_A, tsg, swt_nil, swt_cons, lkw_nil, lkw_cons, ↓reduceIte, Nat.reduceAdd, Nat.reduceEqDiff, Nat.reduceLeDiff, Nat.reduceMul, true_and, and_true, and_self, List.mem_cons, List.not_mem_nil, or_false, or_self, false_or, true_implies, false_implies, not_true_eq_false, not_false_eq_true, nI00, nI10, nI01, nI11, forall_const, implies_true]
  try simp (disch := omega) only [ixq, ixz, sb_in, sb_in0, upI_sb, upI_sb0, sb_out, nI_add, nI_mul, nI_subq, Nat.zero_add, forall_eq, u2_at, u2_row, upd_at, upd_ne, nI0b, nI1b, nI00, nI10, nI01, nI11, true_implies, false_implies, not_true_eq_false, not_false_eq_true, and_true, true_and, implies_true]
  refine ⟨fun hc => ?_, fun hc => ?_⟩
  · rw [bI_f hc] at hK; exact hK
  · rw [bI_t hc] at hK; exact hK
theorem c_X9_less {x y : Int32} (hK : K (.inl (if x < y then x else y)) μ) : mMet X (h + 1) m_X9_less [.inl x, .inl y] μ K := by
  (refine vc_met2 P0_ok ok_X9_less cm_X9_less [] 6 t_X9_less_0 (Nat.le_of_ble_eq_true rfl) ?_; simp only [mArg_nil, mArg_I, mArg_L, mArg_A, Nat.reduceAdd])
  simp only [↓w_X9_less_0, ↓w_X9_less_9, ↓w_X9_less_10, ↓v_X9_less_9, ↓v_X9_less_10, ↓b_goto, ↓b_ic_ge, ↓b_iload_n, ↓b_iret, ↓ldI_hit, ↓ldI_skip, ↓ldL_hit, ↓ldL_skip, ↓ldA_hit, ↓ldA_skip, ↓ldelK_nil, ↓ldelK_hit, ↓ldelK_skipI, ↓ldelK_skipA, ↓ldelK_skipL, lget_hit, lget_skip, ldel_nil, ldel_hit, ldel_skipI, ldel_skipA, ldel_skipL, ldel2_nil, ldel2_hit, ldel2_hit2, ldel2_skipI, ldel2_skipA, ldel2_skipL, vc_0, mCall_P0, mCat_nil, mCat_I, mCat_L, mCat_A, mRcv_A, mArg_nil, mArg_I, mArg_L, mArg_A, tsg, swt_nil, swt_cons, lkw_nil, lkw_cons, ↓reduceIte, Nat.reduceAdd, Nat.reduceEqDiff, Nat.reduceLeDiff, Nat.reduceMul, true_and, and_true, and_self, List.mem_cons, List.not_mem_nil, or_false, or_self, false_or, true_implies, false_implies, not_true_eq_false, not_false_eq_true, nI00, nI10, nI01, nI11, forall_const, implies_true]
  try simp (disch := omega) only [ixq, ixz, sb_in, sb_in0, upI_sb, upI_sb0, sb_out, nI_add, nI_mul, nI_subq, Nat.zero_add, forall_eq, u2_at, u2_row, upd_at, upd_ne, nI0b, nI1b, nI00, nI10, nI01, nI11, true_implies, false_implies, not_true_eq_false, not_false_eq_true, and_true, true_and, implies_true]
  refine ⟨fun hc => ?_, fun hc => ?_⟩
  · rw [if_neg (Int32.not_lt.mpr hc)] at hK; exact hK
  · rw [if_pos (Int32.not_le.mp hc)] at hK; exact hK
theorem c_X9_cell {w g : Int32} (hK : K (.inl (w * nI 6 + g)) μ) : mMet X (h + 1) m_X9_cell [.inl w, .inl g] μ K := by
  (refine vc_met2 P0_ok ok_X9_cell cm_X9_cell [] 6 t_X9_cell_0 (Nat.le_of_ble_eq_true rfl) ?_; simp only [mArg_nil, mArg_I, mArg_L, mArg_A, Nat.reduceAdd])
  simp only [↓w_X9_cell_0, ↓b_bipush, ↓b_iadd, ↓b_iload_n, ↓b_imul, ↓b_iret, ↓ldI_hit, ↓ldI_skip, ↓ldL_hit, ↓ldL_skip, ↓ldA_hit, ↓ldA_skip, ↓ldelK_nil, ↓ldelK_hit, ↓ldelK_skipI, ↓ldelK_skipA, ↓ldelK_skipL, lget_hit, lget_skip, ldel_nil, ldel_hit, ldel_skipI, ldel_skipA, ldel_skipL, ldel2_nil, ldel2_hit, ldel2_hit2, ldel2_skipI, ldel2_skipA, ldel2_skipL, vc_0, mCall_P0, mCat_nil, mCat_I, mCat_L, mCat_A, mRcv_A, mArg_nil, mArg_I, mArg_L, mArg_A, tsg, swt_nil, swt_cons, lkw_nil, lkw_cons, ↓reduceIte, Nat.reduceAdd, Nat.reduceEqDiff, Nat.reduceLeDiff, Nat.reduceMul, true_and, and_true, and_self, List.mem_cons, List.not_mem_nil, or_false, or_self, false_or, true_implies, false_implies, not_true_eq_false, not_false_eq_true, nI00, nI10, nI01, nI11, forall_const, implies_true]
  try simp (disch := omega) only [ixq, ixz, sb_in, sb_in0, upI_sb, upI_sb0, sb_out, nI_add, nI_mul, nI_subq, Nat.zero_add, forall_eq, u2_at, u2_row, upd_at, upd_ne, nI0b, nI1b, nI00, nI10, nI01, nI11, true_implies, false_implies, not_true_eq_false, not_false_eq_true, and_true, true_and, implies_true]
  rw [Int32.mul_comm] at hK; exact hK
theorem c_X9_isDigit {c : Int32} (hK : K (.inl (bI (nI 48 ≤ c ∧ c ≤ nI 57))) μ) : mMet X (h + 1) m_X9_isDigit [.inl c] μ K := by
  (refine vc_met2 P0_ok ok_X9_isDigit cm_X9_isDigit [] 6 t_X9_isDigit_0 (Nat.le_of_ble_eq_true rfl) ?_; simp only [mArg_nil, mArg_I, mArg_L, mArg_A, Nat.reduceAdd])
  simp only [↓w_X9_isDigit_0, ↓w_X9_isDigit_16, ↓w_X9_isDigit_17, ↓v_X9_isDigit_16, ↓v_X9_isDigit_17, ↓b_bipush, ↓b_goto, ↓b_ic_gt, ↓b_ic_lt, ↓b_iconst, ↓b_iload_n, ↓b_zret, ↓ldI_hit, ↓ldI_skip, ↓ldL_hit, ↓ldL_skip, ↓ldA_hit, ↓ldA_skip, ↓ldelK_nil, ↓ldelK_hit, ↓ldelK_skipI, ↓ldelK_skipA, ↓ldelK_skipL, lget_hit, lget_skip, ldel_nil, ldel_hit, ldel_skipI, ldel_skipA, ldel_skipL, ldel2_nil, ldel2_hit, ldel2_hit2, ldel2_skipI, ldel2_skipA, ldel2_skipL, vc_0, mCall_P0, mCat_nil, mCat_I, mCat_L, mCat_A, mRcv_A, mArg_nil, mArg_I, mArg_L, mArg_A, tsg, swt_nil, swt_cons, lkw_nil, lkw_cons, ↓reduceIte, Nat.reduceAdd, Nat.reduceEqDiff, Nat.reduceLeDiff, Nat.reduceMul, true_and, and_true, and_self, List.mem_cons, List.not_mem_nil, or_false, or_self, false_or, true_implies, false_implies, not_true_eq_false, not_false_eq_true, nI00, nI10, nI01, nI11, forall_const, implies_true]
  try simp (disch := omega) only [ixq, ixz, sb_in, sb_in0, upI_sb, upI_sb0, sb_out, nI_add, nI_mul, nI_subq, Nat.zero_add, forall_eq, u2_at, u2_row, upd_at, upd_ne, nI0b, nI1b, nI00, nI10, nI01, nI11, true_implies, false_implies, not_true_eq_false, not_false_eq_true, and_true, true_and, implies_true]
  refine ⟨fun hc => ?_, fun hc => ⟨fun hc2 => ?_, fun hc2 => ?_⟩⟩
  · rw [bI_f (fun z => absurd z.1 (Int32.not_le.mpr hc))] at hK; exact hK
  · rw [bI_f (fun z => absurd z.2 (Int32.not_le.mpr hc2))] at hK; exact hK
  · rw [bI_t (⟨Int32.not_lt.mp hc, Int32.not_lt.mp hc2⟩)] at hK; exact hK
theorem c_X9_isLetter {c : Int32} (hK : K (.inl (bI (nI 97 ≤ c ∧ c ≤ nI 122))) μ) : mMet X (h + 1) m_X9_isLetter [.inl c] μ K := by
  (refine vc_met2 P0_ok ok_X9_isLetter cm_X9_isLetter [] 6 t_X9_isLetter_0 (Nat.le_of_ble_eq_true rfl) ?_; simp only [mArg_nil, mArg_I, mArg_L, mArg_A, Nat.reduceAdd])
  simp only [↓w_X9_isLetter_0, ↓w_X9_isLetter_16, ↓w_X9_isLetter_17, ↓v_X9_isLetter_16, ↓v_X9_isLetter_17, ↓b_bipush, ↓b_goto, ↓b_ic_gt, ↓b_ic_lt, ↓b_iconst, ↓b_iload_n, ↓b_zret, ↓ldI_hit, ↓ldI_skip, ↓ldL_hit, ↓ldL_skip, ↓ldA_hit, ↓ldA_skip, ↓ldelK_nil, ↓ldelK_hit, ↓ldelK_skipI, ↓ldelK_skipA, ↓ldelK_skipL, lget_hit, lget_skip, ldel_nil, ldel_hit, ldel_skipI, ldel_skipA, ldel_skipL, ldel2_nil, ldel2_hit, ldel2_hit2, ldel2_skipI, ldel2_skipA, ldel2_skipL, vc_0, mCall_P0, mCat_nil, mCat_I, mCat_L, mCat_A, mRcv_A, mArg_nil, mArg_I, mArg_L, mArg_A, tsg, swt_nil, swt_cons, lkw_nil, lkw_cons, ↓reduceIte, Nat.reduceAdd, Nat.reduceEqDiff, Nat.reduceLeDiff, Nat.reduceMul, true_and, and_true, and_self, List.mem_cons, List.not_mem_nil, or_false, or_self, false_or, true_implies, false_implies, not_true_eq_false, not_false_eq_true, nI00, nI10, nI01, nI11, forall_const, implies_true]
  try simp (disch := omega) only [ixq, ixz, sb_in, sb_in0, upI_sb, upI_sb0, sb_out, nI_add, nI_mul, nI_subq, Nat.zero_add, forall_eq, u2_at, u2_row, upd_at, upd_ne, nI0b, nI1b, nI00, nI10, nI01, nI11, true_implies, false_implies, not_true_eq_false, not_false_eq_true, and_true, true_and, implies_true]
  refine ⟨fun hc => ?_, fun hc => ⟨fun hc2 => ?_, fun hc2 => ?_⟩⟩
  · rw [bI_f (fun z => absurd z.1 (Int32.not_le.mpr hc))] at hK; exact hK
  · rw [bI_f (fun z => absurd z.2 (Int32.not_le.mpr hc2))] at hK; exact hK
  · rw [bI_t (⟨Int32.not_lt.mp hc, Int32.not_lt.mp hc2⟩)] at hK; exact hK
theorem c_X9_works {i : Nat} (hK : K (.inl (μ.1 (i + 2) 1)) μ) : mMet X (h + 1) m_X9_works [.inr (.inr (8, 0, i))] μ K := by
  (refine vc_met2 P0_ok ok_X9_works cm_X9_works [] 6 t_X9_works_0 (Nat.le_of_ble_eq_true rfl) ?_; simp only [mArg_nil, mArg_I, mArg_L, mArg_A, Nat.reduceAdd])
  simp only [↓w_X9_works_0, ↓b_aload_n, ↓b_getA, ↓b_iaload, ↓b_iconst, ↓b_iret, ↓ldI_hit, ↓ldI_skip, ↓ldL_hit, ↓ldL_skip, ↓ldA_hit, ↓ldA_skip, ↓ldelK_nil, ↓ldelK_hit, ↓ldelK_skipI, ↓ldelK_skipA, ↓ldelK_skipL, lget_hit, lget_skip, ldel_nil, ldel_hit, ldel_skipI, ldel_skipA, ldel_skipL, ldel2_nil, ldel2_hit, ldel2_hit2, ldel2_skipI, ldel2_skipA, ldel2_skipL, vc_0, mCall_P0, mCat_nil, mCat_I, mCat_L, mCat_A, mRcv_A, mArg_nil, mArg_I, mArg_L, mArg_A, tsg, swt_nil, swt_cons, lkw_nil, lkw_cons, ↓reduceIte, Nat.reduceAdd, Nat.reduceEqDiff, Nat.reduceLeDiff, Nat.reduceMul, true_and, and_true, and_self, List.mem_cons, List.not_mem_nil, or_false, or_self, false_or, true_implies, false_implies, not_true_eq_false, not_false_eq_true, nI00, nI10, nI01, nI11, forall_const, implies_true]
  try simp (disch := omega) only [ixq, ixz, sb_in, sb_in0, upI_sb, upI_sb0, sb_out, nI_add, nI_mul, nI_subq, Nat.zero_add, forall_eq, u2_at, u2_row, upd_at, upd_ne, nI0b, nI1b, nI00, nI10, nI01, nI11, true_implies, false_implies, not_true_eq_false, not_false_eq_true, and_true, true_and, implies_true]
  exact hK
theorem c_X9_goods {i : Nat} (hK : K (.inl (μ.1 (i + 2) 0)) μ) : mMet X (h + 1) m_X9_goods [.inr (.inr (8, 0, i))] μ K := by
  (refine vc_met2 P0_ok ok_X9_goods cm_X9_goods [] 6 t_X9_goods_0 (Nat.le_of_ble_eq_true rfl) ?_; simp only [mArg_nil, mArg_I, mArg_L, mArg_A, Nat.reduceAdd])
  simp only [↓w_X9_goods_0, ↓b_aload_n, ↓b_getA, ↓b_iaload, ↓b_iconst, ↓b_iret, ↓ldI_hit, ↓ldI_skip, ↓ldL_hit, ↓ldL_skip, ↓ldA_hit, ↓ldA_skip, ↓ldelK_nil, ↓ldelK_hit, ↓ldelK_skipI, ↓ldelK_skipA, ↓ldelK_skipL, lget_hit, lget_skip, ldel_nil, ldel_hit, ldel_skipI, ldel_skipA, ldel_skipL, ldel2_nil, ldel2_hit, ldel2_hit2, ldel2_skipI, ldel2_skipA, ldel2_skipL, vc_0, mCall_P0, mCat_nil, mCat_I, mCat_L, mCat_A, mRcv_A, mArg_nil, mArg_I, mArg_L, mArg_A, tsg, swt_nil, swt_cons, lkw_nil, lkw_cons, ↓reduceIte, Nat.reduceAdd, Nat.reduceEqDiff, Nat.reduceLeDiff, Nat.reduceMul, true_and, and_true, and_self, List.mem_cons, List.not_mem_nil, or_false, or_self, false_or, true_implies, false_implies, not_true_eq_false, not_false_eq_true, nI00, nI10, nI01, nI11, forall_const, implies_true]
  try simp (disch := omega) only [ixq, ixz, sb_in, sb_in0, upI_sb, upI_sb0, sb_out, nI_add, nI_mul, nI_subq, Nat.zero_add, forall_eq, u2_at, u2_row, upd_at, upd_ne, nI0b, nI1b, nI00, nI10, nI01, nI11, true_implies, false_implies, not_true_eq_false, not_false_eq_true, and_true, true_and, implies_true]
  exact hK
theorem c_X9_isRun {i : Nat} (hK : K (.inl (bI (0 < μ.1 (i + 2) 621))) μ) : mMet X (h + 1) m_X9_isRun [.inr (.inr (8, 0, i))] μ K := by
  (refine vc_met2 P0_ok ok_X9_isRun cm_X9_isRun [] 6 t_X9_isRun_0 (Nat.le_of_ble_eq_true rfl) ?_; simp only [mArg_nil, mArg_I, mArg_L, mArg_A, Nat.reduceAdd])
  simp only [↓w_X9_isRun_0, ↓w_X9_isRun_15, ↓w_X9_isRun_16, ↓v_X9_isRun_15, ↓v_X9_isRun_16, ↓b_aload_n, ↓b_getA, ↓b_goto, ↓b_iaload, ↓b_iconst, ↓b_if_le, ↓b_sipush, ↓b_zret, ↓ldI_hit, ↓ldI_skip, ↓ldL_hit, ↓ldL_skip, ↓ldA_hit, ↓ldA_skip, ↓ldelK_nil, ↓ldelK_hit, ↓ldelK_skipI, ↓ldelK_skipA, ↓ldelK_skipL, lget_hit, lget_skip, ldel_nil, ldel_hit, ldel_skipI, ldel_skipA, ldel_skipL, ldel2_nil, ldel2_hit, ldel2_hit2, ldel2_skipI, ldel2_skipA, ldel2_skipL, vc_0, mCall_P0, mCat_nil, mCat_I, mCat_L, mCat_A, mRcv_A, mArg_nil, mArg_I, mArg_L, mArg_A, tsg, swt_nil, swt_cons, lkw_nil, lkw_cons, ↓reduceIte, Nat.reduceAdd, Nat.reduceEqDiff, Nat.reduceLeDiff, Nat.reduceMul, true_and, and_true, and_self, List.mem_cons, List.not_mem_nil, or_false, or_self, false_or, true_implies, false_implies, not_true_eq_false, not_false_eq_true, nI00, nI10, nI01, nI11, forall_const, implies_true]
  try simp (disch := omega) only [ixq, ixz, sb_in, sb_in0, upI_sb, upI_sb0, sb_out, nI_add, nI_mul, nI_subq, Nat.zero_add, forall_eq, u2_at, u2_row, upd_at, upd_ne, nI0b, nI1b, nI00, nI10, nI01, nI11, true_implies, false_implies, not_true_eq_false, not_false_eq_true, and_true, true_and, implies_true]
  refine ⟨fun hc => ?_, fun hc => ?_⟩
  · rw [bI_f (Int32.not_lt.mpr hc)] at hK; exact hK
  · rw [bI_t (Int32.not_le.mp hc)] at hK; exact hK
theorem c_X9_isSign {i : Nat} {c : Int32} (hK : K (.inl (bI (μ.1 i 7 = nI 4 ∧ μ.1 i 9 = c))) μ) : mMet X (h + 1) m_X9_isSign [.inr (.inr (8, 0, i)), .inl c] μ K := by
  (refine vc_met2 P0_ok ok_X9_isSign cm_X9_isSign [] 6 t_X9_isSign_0 (Nat.le_of_ble_eq_true rfl) ?_; simp only [mArg_nil, mArg_I, mArg_L, mArg_A, Nat.reduceAdd])
  simp only [↓w_X9_isSign_0, ↓w_X9_isSign_20, ↓w_X9_isSign_21, ↓v_X9_isSign_20, ↓v_X9_isSign_21, ↓b_aload_n, ↓b_getI, ↓b_goto, ↓b_ic_ne, ↓b_iconst, ↓b_iload_n, ↓b_zret, ↓ldI_hit, ↓ldI_skip, ↓ldL_hit, ↓ldL_skip, ↓ldA_hit, ↓ldA_skip, ↓ldelK_nil, ↓ldelK_hit, ↓ldelK_skipI, ↓ldelK_skipA, ↓ldelK_skipL, lget_hit, lget_skip, ldel_nil, ldel_hit, ldel_skipI, ldel_skipA, ldel_skipL, ldel2_nil, ldel2_hit, ldel2_hit2, ldel2_skipI, ldel2_skipA, ldel2_skipL, vc_0, mCall_P0, mCat_nil, mCat_I, mCat_L, mCat_A, mRcv_A, mArg_nil, mArg_I, mArg_L, mArg_A, tsg, swt_nil, swt_cons, lkw_nil, lkw_cons, ↓reduceIte, Nat.reduceAdd, Nat.reduceEqDiff, Nat.reduceLeDiff, Nat.reduceMul, true_and, and_true, and_self, List.mem_cons, List.not_mem_nil, or_false, or_self, false_or, true_implies, false_implies, not_true_eq_false, not_false_eq_true, nI00, nI10, nI01, nI11, forall_const, implies_true]
  try simp (disch := omega) only [ixq, ixz, sb_in, sb_in0, upI_sb, upI_sb0, sb_out, nI_add, nI_mul, nI_subq, Nat.zero_add, forall_eq, u2_at, u2_row, upd_at, upd_ne, nI0b, nI1b, nI00, nI10, nI01, nI11, true_implies, false_implies, not_true_eq_false, not_false_eq_true, and_true, true_and, implies_true]
  refine ⟨fun hc => ?_, fun hc => ⟨fun hc2 => ?_, fun hc2 => ?_⟩⟩
  · rw [bI_f (fun z => hc z.1)] at hK; exact hK
  · rw [bI_f (fun z => hc2 z.2)] at hK; exact hK
  · rw [bI_t (⟨hc, hc2⟩)] at hK; exact hK
theorem c_X9_thrown {i : Nat} (hK : K (.inl (μ.1 i 0)) μ) : mMet X (h + 1) m_X9_thrown [.inr (.inr (8, 0, i))] μ K := by
  (refine vc_met2 P0_ok ok_X9_thrown cm_X9_thrown [] 6 t_X9_thrown_0 (Nat.le_of_ble_eq_true rfl) ?_; simp only [mArg_nil, mArg_I, mArg_L, mArg_A, Nat.reduceAdd])
  simp only [↓w_X9_thrown_0, ↓b_aload_n, ↓b_getI, ↓b_iret, ↓ldI_hit, ↓ldI_skip, ↓ldL_hit, ↓ldL_skip, ↓ldA_hit, ↓ldA_skip, ↓ldelK_nil, ↓ldelK_hit, ↓ldelK_skipI, ↓ldelK_skipA, ↓ldelK_skipL, lget_hit, lget_skip, ldel_nil, ldel_hit, ldel_skipI, ldel_skipA, ldel_skipL, ldel2_nil, ldel2_hit, ldel2_hit2, ldel2_skipI, ldel2_skipA, ldel2_skipL, vc_0, mCall_P0, mCat_nil, mCat_I, mCat_L, mCat_A, mRcv_A, mArg_nil, mArg_I, mArg_L, mArg_A, tsg, swt_nil, swt_cons, lkw_nil, lkw_cons, ↓reduceIte, Nat.reduceAdd, Nat.reduceEqDiff, Nat.reduceLeDiff, Nat.reduceMul, true_and, and_true, and_self, List.mem_cons, List.not_mem_nil, or_false, or_self, false_or, true_implies, false_implies, not_true_eq_false, not_false_eq_true, nI00, nI10, nI01, nI11, forall_const, implies_true]
  try simp (disch := omega) only [ixq, ixz, sb_in, sb_in0, upI_sb, upI_sb0, sb_out, nI_add, nI_mul, nI_subq, Nat.zero_add, forall_eq, u2_at, u2_row, upd_at, upd_ne, nI0b, nI1b, nI00, nI10, nI01, nI11, true_implies, false_implies, not_true_eq_false, not_false_eq_true, and_true, true_and, implies_true]
  exact hK
theorem c_X0_allWorks {i : Nat} (hK : K (.inl (nI 1 <<< (μ.1 i 1 &&& 31) - nI 1)) μ) : mMet X (h + 1) m_X0_allWorks [.inr (.inr (0, 0, i))] μ K := by
  (refine vc_met2 P0_ok ok_X0_allWorks cm_X0_allWorks [] 6 t_X0_allWorks_0 (Nat.le_of_ble_eq_true rfl) ?_; simp only [mArg_nil, mArg_I, mArg_L, mArg_A, Nat.reduceAdd])
  simp only [↓w_X0_allWorks_0, ↓b_aload_n, ↓b_getI, ↓b_iconst, ↓b_iret, ↓b_ishl, ↓b_isub, ↓ldI_hit, ↓ldI_skip, ↓ldL_hit, ↓ldL_skip, ↓ldA_hit, ↓ldA_skip, ↓ldelK_nil, ↓ldelK_hit, ↓ldelK_skipI, ↓ldelK_skipA, ↓ldelK_skipL, lget_hit, lget_skip, ldel_nil, ldel_hit, ldel_skipI, ldel_skipA, ldel_skipL, ldel2_nil, ldel2_hit, ldel2_hit2, ldel2_skipI, ldel2_skipA, ldel2_skipL, vc_0, mCall_P0, mCat_nil, mCat_I, mCat_L, mCat_A, mRcv_A, mArg_nil, mArg_I, mArg_L, mArg_A, tsg, swt_nil, swt_cons, lkw_nil, lkw_cons, ↓reduceIte, Nat.reduceAdd, Nat.reduceEqDiff, Nat.reduceLeDiff, Nat.reduceMul, true_and, and_true, and_self, List.mem_cons, List.not_mem_nil, or_false, or_self, false_or, true_implies, false_implies, not_true_eq_false, not_false_eq_true, nI00, nI10, nI01, nI11, forall_const, implies_true]
  try simp (disch := omega) only [ixq, ixz, sb_in, sb_in0, upI_sb, upI_sb0, sb_out, nI_add, nI_mul, nI_subq, Nat.zero_add, forall_eq, u2_at, u2_row, upd_at, upd_ne, nI0b, nI1b, nI00, nI10, nI01, nI11, true_implies, false_implies, not_true_eq_false, not_false_eq_true, and_true, true_and, implies_true]
  exact hK
theorem c_X8_isWork {i : Nat} {w : Int32} (hK : K (.inl (bI (0 ≤ w ∧ w < μ.1 (i + 4) 1))) μ) : mMet X (h + 1) m_X8_isWork [.inr (.inr (7, 0, i)), .inl w] μ K := by
  (refine vc_met2 P0_ok ok_X8_isWork cm_X8_isWork [] 6 t_X8_isWork_0 (Nat.le_of_ble_eq_true rfl) ?_; simp only [mArg_nil, mArg_I, mArg_L, mArg_A, Nat.reduceAdd])
  simp only [↓w_X8_isWork_0, ↓w_X8_isWork_19, ↓w_X8_isWork_20, ↓v_X8_isWork_19, ↓v_X8_isWork_20, ↓b_aload_n, ↓b_getA, ↓b_getI, ↓b_goto, ↓b_ic_ge, ↓b_iconst, ↓b_if_lt, ↓b_iload_n, ↓b_zret, ↓ldI_hit, ↓ldI_skip, ↓ldL_hit, ↓ldL_skip, ↓ldA_hit, ↓ldA_skip, ↓ldelK_nil, ↓ldelK_hit, ↓ldelK_skipI, ↓ldelK_skipA, ↓ldelK_skipL, lget_hit, lget_skip, ldel_nil, ldel_hit, ldel_skipI, ldel_skipA, ldel_skipL, ldel2_nil, ldel2_hit, ldel2_hit2, ldel2_skipI, ldel2_skipA, ldel2_skipL, vc_0, mCall_P0, mCat_nil, mCat_I, mCat_L, mCat_A, mRcv_A, mArg_nil, mArg_I, mArg_L, mArg_A, tsg, swt_nil, swt_cons, lkw_nil, lkw_cons, ↓reduceIte, Nat.reduceAdd, Nat.reduceEqDiff, Nat.reduceLeDiff, Nat.reduceMul, true_and, and_true, and_self, List.mem_cons, List.not_mem_nil, or_false, or_self, false_or, true_implies, false_implies, not_true_eq_false, not_false_eq_true, nI00, nI10, nI01, nI11, forall_const, implies_true]
  try simp (disch := omega) only [ixq, ixz, sb_in, sb_in0, upI_sb, upI_sb0, sb_out, nI_add, nI_mul, nI_subq, Nat.zero_add, forall_eq, u2_at, u2_row, upd_at, upd_ne, nI0b, nI1b, nI00, nI10, nI01, nI11, true_implies, false_implies, not_true_eq_false, not_false_eq_true, and_true, true_and, implies_true]
  refine ⟨fun hc => ?_, fun hc => ⟨fun hc2 => ?_, fun hc2 => ?_⟩⟩
  · rw [bI_f (fun z => absurd z.1 (Int32.not_le.mpr hc))] at hK; exact hK
  · rw [bI_f (fun z => absurd hc2 (Int32.not_le.mpr z.2))] at hK; exact hK
  · rw [bI_t (⟨Int32.not_lt.mp hc, Int32.not_le.mp hc2⟩)] at hK; exact hK
theorem c_X8_isGood {i : Nat} {w : Int32} (hK : K (.inl (bI (0 ≤ w ∧ w < μ.1 (i + 4) 0))) μ) : mMet X (h + 1) m_X8_isGood [.inr (.inr (7, 0, i)), .inl w] μ K := by
  (refine vc_met2 P0_ok ok_X8_isGood cm_X8_isGood [] 6 t_X8_isGood_0 (Nat.le_of_ble_eq_true rfl) ?_; simp only [mArg_nil, mArg_I, mArg_L, mArg_A, Nat.reduceAdd])
  simp only [↓w_X8_isGood_0, ↓w_X8_isGood_19, ↓w_X8_isGood_20, ↓v_X8_isGood_19, ↓v_X8_isGood_20, ↓b_aload_n, ↓b_getA, ↓b_getI, ↓b_goto, ↓b_ic_ge, ↓b_iconst, ↓b_if_lt, ↓b_iload_n, ↓b_zret, ↓ldI_hit, ↓ldI_skip, ↓ldL_hit, ↓ldL_skip, ↓ldA_hit, ↓ldA_skip, ↓ldelK_nil, ↓ldelK_hit, ↓ldelK_skipI, ↓ldelK_skipA, ↓ldelK_skipL, lget_hit, lget_skip, ldel_nil, ldel_hit, ldel_skipI, ldel_skipA, ldel_skipL, ldel2_nil, ldel2_hit, ldel2_hit2, ldel2_skipI, ldel2_skipA, ldel2_skipL, vc_0, mCall_P0, mCat_nil, mCat_I, mCat_L, mCat_A, mRcv_A, mArg_nil, mArg_I, mArg_L, mArg_A, tsg, swt_nil, swt_cons, lkw_nil, lkw_cons, ↓reduceIte, Nat.reduceAdd, Nat.reduceEqDiff, Nat.reduceLeDiff, Nat.reduceMul, true_and, and_true, and_self, List.mem_cons, List.not_mem_nil, or_false, or_self, false_or, true_implies, false_implies, not_true_eq_false, not_false_eq_true, nI00, nI10, nI01, nI11, forall_const, implies_true]
  try simp (disch := omega) only [ixq, ixz, sb_in, sb_in0, upI_sb, upI_sb0, sb_out, nI_add, nI_mul, nI_subq, Nat.zero_add, forall_eq, u2_at, u2_row, upd_at, upd_ne, nI0b, nI1b, nI00, nI10, nI01, nI11, true_implies, false_implies, not_true_eq_false, not_false_eq_true, and_true, true_and, implies_true]
  refine ⟨fun hc => ?_, fun hc => ⟨fun hc2 => ?_, fun hc2 => ?_⟩⟩
  · rw [bI_f (fun z => absurd z.1 (Int32.not_le.mpr hc))] at hK; exact hK
  · rw [bI_f (fun z => absurd hc2 (Int32.not_le.mpr z.2))] at hK; exact hK
  · rw [bI_t (⟨Int32.not_lt.mp hc, Int32.not_le.mp hc2⟩)] at hK; exact hK
theorem c_X8_areHours {n : Int32} (hK : K (.inl (bI (nI 1 ≤ n ∧ n ≤ nI 200))) μ) : mMet X (h + 1) m_X8_areHours [.inl n] μ K := by
  (refine vc_met2 P0_ok ok_X8_areHours cm_X8_areHours [] 6 t_X8_areHours_0 (Nat.le_of_ble_eq_true rfl) ?_; simp only [mArg_nil, mArg_I, mArg_L, mArg_A, Nat.reduceAdd])
  simp only [↓w_X8_areHours_0, ↓w_X8_areHours_16, ↓w_X8_areHours_17, ↓v_X8_areHours_16, ↓v_X8_areHours_17, ↓b_goto, ↓b_ic_gt, ↓b_ic_lt, ↓b_iconst, ↓b_iload_n, ↓b_sipush, ↓b_zret, ↓ldI_hit, ↓ldI_skip, ↓ldL_hit, ↓ldL_skip, ↓ldA_hit, ↓ldA_skip, ↓ldelK_nil, ↓ldelK_hit, ↓ldelK_skipI, ↓ldelK_skipA, ↓ldelK_skipL, lget_hit, lget_skip, ldel_nil, ldel_hit, ldel_skipI, ldel_skipA, ldel_skipL, ldel2_nil, ldel2_hit, ldel2_hit2, ldel2_skipI, ldel2_skipA, ldel2_skipL, vc_0, mCall_P0, mCat_nil, mCat_I, mCat_L, mCat_A, mRcv_A, mArg_nil, mArg_I, mArg_L, mArg_A, tsg, swt_nil, swt_cons, lkw_nil, lkw_cons, ↓reduceIte, Nat.reduceAdd, Nat.reduceEqDiff, Nat.reduceLeDiff, Nat.reduceMul, true_and, and_true, and_self, List.mem_cons, List.not_mem_nil, or_false, or_self, false_or, true_implies, false_implies, not_true_eq_false, not_false_eq_true, nI00, nI10, nI01, nI11, forall_const, implies_true]
  try simp (disch := omega) only [ixq, ixz, sb_in, sb_in0, upI_sb, upI_sb0, sb_out, nI_add, nI_mul, nI_subq, Nat.zero_add, forall_eq, u2_at, u2_row, upd_at, upd_ne, nI0b, nI1b, nI00, nI10, nI01, nI11, true_implies, false_implies, not_true_eq_false, not_false_eq_true, and_true, true_and, implies_true]
  refine ⟨fun hc => ?_, fun hc => ⟨fun hc2 => ?_, fun hc2 => ?_⟩⟩
  · rw [bI_f (fun z => absurd z.1 (Int32.not_le.mpr hc))] at hK; exact hK
  · rw [bI_f (fun z => absurd z.2 (Int32.not_le.mpr hc2))] at hK; exact hK
  · rw [bI_t (⟨Int32.not_lt.mp hc, Int32.not_lt.mp hc2⟩)] at hK; exact hK
theorem c_X8_isRunning {i : Nat} (hK : K (.inl (bI (¬ μ.1 (i + 50) 0 = -1))) μ) : mMet X (h + 1) m_X8_isRunning [.inr (.inr (7, 0, i))] μ K := by
  (refine vc_met2 P0_ok ok_X8_isRunning cm_X8_isRunning [] 6 t_X8_isRunning_0 (Nat.le_of_ble_eq_true rfl) ?_; simp only [mArg_nil, mArg_I, mArg_L, mArg_A, Nat.reduceAdd])
  simp only [↓w_X8_isRunning_0, ↓w_X8_isRunning_15, ↓w_X8_isRunning_16, ↓v_X8_isRunning_15, ↓v_X8_isRunning_16, ↓b_aload_n, ↓b_getA, ↓b_getI, ↓b_goto, ↓b_ic_eq, ↓b_iconst, ↓b_zret, ↓ldI_hit, ↓ldI_skip, ↓ldL_hit, ↓ldL_skip, ↓ldA_hit, ↓ldA_skip, ↓ldelK_nil, ↓ldelK_hit, ↓ldelK_skipI, ↓ldelK_skipA, ↓ldelK_skipL, lget_hit, lget_skip, ldel_nil, ldel_hit, ldel_skipI, ldel_skipA, ldel_skipL, ldel2_nil, ldel2_hit, ldel2_hit2, ldel2_skipI, ldel2_skipA, ldel2_skipL, vc_0, mCall_P0, mCat_nil, mCat_I, mCat_L, mCat_A, mRcv_A, mArg_nil, mArg_I, mArg_L, mArg_A, tsg, swt_nil, swt_cons, lkw_nil, lkw_cons, ↓reduceIte, Nat.reduceAdd, Nat.reduceEqDiff, Nat.reduceLeDiff, Nat.reduceMul, true_and, and_true, and_self, List.mem_cons, List.not_mem_nil, or_false, or_self, false_or, true_implies, false_implies, not_true_eq_false, not_false_eq_true, nI00, nI10, nI01, nI11, forall_const, implies_true]
  try simp (disch := omega) only [ixq, ixz, sb_in, sb_in0, upI_sb, upI_sb0, sb_out, nI_add, nI_mul, nI_subq, Nat.zero_add, forall_eq, u2_at, u2_row, upd_at, upd_ne, nI0b, nI1b, nI00, nI10, nI01, nI11, true_implies, false_implies, not_true_eq_false, not_false_eq_true, and_true, true_and, implies_true]
  refine ⟨fun hc => ?_, fun hc => ?_⟩
  · rw [bI_f (fun z => z hc)] at hK; exact hK
  · rw [bI_t hc] at hK; exact hK
end
def pf_X9_isIn (a : List MV) (μ : Mem) : Option MV := match a with | [.inl v, .inl lo, .inl hi] => some (.inl (bI (lo ≤ v ∧ v ≤ hi))) | _ => none
def pf_X9_has (a : List MV) (μ : Mem) : Option MV := match a with | [.inl s, .inl k] => some (.inl (bI (s >>> (k &&& 31) &&& nI 1 = nI 1))) | _ => none
def pf_X9_less (a : List MV) (μ : Mem) : Option MV := match a with | [.inl x, .inl y] => some (.inl (if x < y then x else y)) | _ => none
def pf_X9_cell (a : List MV) (μ : Mem) : Option MV := match a with | [.inl w, .inl g] => some (.inl (w * nI 6 + g)) | _ => none
def pf_X9_isDigit (a : List MV) (μ : Mem) : Option MV := match a with | [.inl c] => some (.inl (bI (nI 48 ≤ c ∧ c ≤ nI 57))) | _ => none
def pf_X9_isLetter (a : List MV) (μ : Mem) : Option MV := match a with | [.inl c] => some (.inl (bI (nI 97 ≤ c ∧ c ≤ nI 122))) | _ => none
def pf_X9_works (a : List MV) (μ : Mem) : Option MV := match a with | [.inr (.inr (8, 0, i))] => some (.inl (μ.1 (i + 2) 1)) | _ => none
def pf_X9_goods (a : List MV) (μ : Mem) : Option MV := match a with | [.inr (.inr (8, 0, i))] => some (.inl (μ.1 (i + 2) 0)) | _ => none
def pf_X9_isRun (a : List MV) (μ : Mem) : Option MV := match a with | [.inr (.inr (8, 0, i))] => some (.inl (bI (0 < μ.1 (i + 2) 621))) | _ => none
def pf_X9_isSign (a : List MV) (μ : Mem) : Option MV := match a with | [.inr (.inr (8, 0, i)), .inl c] => some (.inl (bI (μ.1 i 7 = nI 4 ∧ μ.1 i 9 = c))) | _ => none
def pf_X9_thrown (a : List MV) (μ : Mem) : Option MV := match a with | [.inr (.inr (8, 0, i))] => some (.inl (μ.1 i 0)) | _ => none
def pf_X0_allWorks (a : List MV) (μ : Mem) : Option MV := match a with | [.inr (.inr (0, 0, i))] => some (.inl (nI 1 <<< (μ.1 i 1 &&& 31) - nI 1)) | _ => none
def pf_X8_isWork (a : List MV) (μ : Mem) : Option MV := match a with | [.inr (.inr (7, 0, i)), .inl w] => some (.inl (bI (0 ≤ w ∧ w < μ.1 (i + 4) 1))) | _ => none
def pf_X8_isGood (a : List MV) (μ : Mem) : Option MV := match a with | [.inr (.inr (7, 0, i)), .inl w] => some (.inl (bI (0 ≤ w ∧ w < μ.1 (i + 4) 0))) | _ => none
def pf_X8_areHours (a : List MV) (μ : Mem) : Option MV := match a with | [.inl n] => some (.inl (bI (nI 1 ≤ n ∧ n ≤ nI 200))) | _ => none
def pf_X8_isRunning (a : List MV) (μ : Mem) : Option MV := match a with | [.inr (.inr (7, 0, i))] => some (.inl (bI (¬ μ.1 (i + 50) 0 = -1))) | _ => none
def P1 : mP := pc m_X9_isIn pf_X9_isIn (pc m_X9_has pf_X9_has (pc m_X9_less pf_X9_less (pc m_X9_cell pf_X9_cell (pc m_X9_isDigit pf_X9_isDigit (pc m_X9_isLetter pf_X9_isLetter (pc m_X9_works pf_X9_works (pc m_X9_goods pf_X9_goods (pc m_X9_isRun pf_X9_isRun (pc m_X9_isSign pf_X9_isSign (pc m_X9_thrown pf_X9_thrown (pc m_X0_allWorks pf_X0_allWorks (pc m_X8_isWork pf_X8_isWork (pc m_X8_isGood pf_X8_isGood (pc m_X8_areHours pf_X8_areHours (pc m_X8_isRunning pf_X8_isRunning (P0))))))))))))))))
theorem P1_ok {X : mC} {h : Nat} : mPok X P1 (h + 1) := (pc_ok (fun a μ r hr K hK => by unfold pf_X9_isIn at hr; split at hr <;> cases hr; exact c_X9_isIn (h := h + 0) hK) (pc_ok (fun a μ r hr K hK => by unfold pf_X9_has at hr; split at hr <;> cases hr; exact c_X9_has (h := h + 0) hK) (pc_ok (fun a μ r hr K hK => by unfold pf_X9_less at hr; split at hr <;> cases hr; exact c_X9_less (h := h + 0) hK) (pc_ok (fun a μ r hr K hK => by unfold pf_X9_cell at hr; split at hr <;> cases hr; exact c_X9_cell (h := h + 0) hK) (pc_ok (fun a μ r hr K hK => by unfold pf_X9_isDigit at hr; split at hr <;> cases hr; exact c_X9_isDigit (h := h + 0) hK) (pc_ok (fun a μ r hr K hK => by unfold pf_X9_isLetter at hr; split at hr <;> cases hr; exact c_X9_isLetter (h := h + 0) hK) (pc_ok (fun a μ r hr K hK => by unfold pf_X9_works at hr; split at hr <;> cases hr; exact c_X9_works (h := h + 0) hK) (pc_ok (fun a μ r hr K hK => by unfold pf_X9_goods at hr; split at hr <;> cases hr; exact c_X9_goods (h := h + 0) hK) (pc_ok (fun a μ r hr K hK => by unfold pf_X9_isRun at hr; split at hr <;> cases hr; exact c_X9_isRun (h := h + 0) hK) (pc_ok (fun a μ r hr K hK => by unfold pf_X9_isSign at hr; split at hr <;> cases hr; exact c_X9_isSign (h := h + 0) hK) (pc_ok (fun a μ r hr K hK => by unfold pf_X9_thrown at hr; split at hr <;> cases hr; exact c_X9_thrown (h := h + 0) hK) (pc_ok (fun a μ r hr K hK => by unfold pf_X0_allWorks at hr; split at hr <;> cases hr; exact c_X0_allWorks (h := h + 0) hK) (pc_ok (fun a μ r hr K hK => by unfold pf_X8_isWork at hr; split at hr <;> cases hr; exact c_X8_isWork (h := h + 0) hK) (pc_ok (fun a μ r hr K hK => by unfold pf_X8_isGood at hr; split at hr <;> cases hr; exact c_X8_isGood (h := h + 0) hK) (pc_ok (fun a μ r hr K hK => by unfold pf_X8_areHours at hr; split at hr <;> cases hr; exact c_X8_areHours (h := h + 0) hK) (pc_ok (fun a μ r hr K hK => by unfold pf_X8_isRunning at hr; split at hr <;> cases hr; exact c_X8_isRunning (h := h + 0) hK) P0_ok))))))))))))))))
section
variable {X : mC} {h : Nat} {K : MV → Mem → Prop} {μ : Mem}
theorem qP1_J6_bitCount_0f7a4 {a : List MV} : mCall X P1 h m_J6_bitCount_0f7a4 a μ K = mMet X h m_J6_bitCount_0f7a4 a μ K := rfl
theorem qP1_J7_fill_53178 {a : List MV} : mCall X P1 h m_J7_fill_53178 a μ K = mMet X h m_J7_fill_53178 a μ K := rfl
theorem qP1_X0_allWorks {i : Nat} : mCall X P1 h m_X0_allWorks [.inr (.inr (0, 0, i))] μ K = K (.inl (nI 1 <<< (μ.1 i 1 &&& 31) - nI 1)) μ := mCall_some rfl
theorem qP1_X0_clear {a : List MV} : mCall X P1 h m_X0_clear a μ K = mMet X h m_X0_clear a μ K := rfl
theorem qP1_X0_copyFrom {a : List MV} : mCall X P1 h m_X0_copyFrom a μ K = mMet X h m_X0_copyFrom a μ K := rfl
theorem qP1_X0_exchange {a : List MV} : mCall X P1 h m_X0_exchange a μ K = mMet X h m_X0_exchange a μ K := rfl
theorem qP1_X0_exchangeWithNext {a : List MV} : mCall X P1 h m_X0_exchangeWithNext a μ K = mMet X h m_X0_exchangeWithNext a μ K := rfl
theorem qP1_X0_findGood {a : List MV} : mCall X P1 h m_X0_findGood a μ K = mMet X h m_X0_findGood a μ K := rfl
theorem qP1_X0_findWork {a : List MV} : mCall X P1 h m_X0_findWork a μ K = mMet X h m_X0_findWork a μ K := rfl
theorem qP1_X0_goodNamed {a : List MV} : mCall X P1 h m_X0_goodNamed a μ K = mMet X h m_X0_goodNamed a μ K := rfl
theorem qP1_X0_isNewName {a : List MV} : mCall X P1 h m_X0_isNewName a μ K = mMet X h m_X0_isNewName a μ K := rfl
theorem qP1_X0_readAmount {a : List MV} : mCall X P1 h m_X0_readAmount a μ K = mMet X h m_X0_readAmount a μ K := rfl
theorem qP1_X0_readFrom {a : List MV} : mCall X P1 h m_X0_readFrom a μ K = mMet X h m_X0_readFrom a μ K := rfl
theorem qP1_X0_readGood {a : List MV} : mCall X P1 h m_X0_readGood a μ K = mMet X h m_X0_readGood a μ K := rfl
theorem qP1_X0_readJoined {a : List MV} : mCall X P1 h m_X0_readJoined a μ K = mMet X h m_X0_readJoined a μ K := rfl
theorem qP1_X0_readLine {a : List MV} : mCall X P1 h m_X0_readLine a μ K = mMet X h m_X0_readLine a μ K := rfl
theorem qP1_X0_readMakes {a : List MV} : mCall X P1 h m_X0_readMakes a μ K = mMet X h m_X0_readMakes a μ K := rfl
theorem qP1_X0_readNew {a : List MV} : mCall X P1 h m_X0_readNew a μ K = mMet X h m_X0_readNew a μ K := rfl
theorem qP1_X0_readTakes {a : List MV} : mCall X P1 h m_X0_readTakes a μ K = mMet X h m_X0_readTakes a μ K := rfl
theorem qP1_X0_readWork {a : List MV} : mCall X P1 h m_X0_readWork a μ K = mMet X h m_X0_readWork a μ K := rfl
theorem qP1_X0_takeCell {a : List MV} : mCall X P1 h m_X0_takeCell a μ K = mMet X h m_X0_takeCell a μ K := rfl
theorem qP1_X0_workNamed {a : List MV} : mCall X P1 h m_X0_workNamed a μ K = mMet X h m_X0_workNamed a μ K := rfl
theorem qP1_X3_bringAll {a : List MV} : mCall X P1 h m_X3_bringAll a μ K = mMet X h m_X3_bringAll a μ K := rfl
theorem qP1_X3_clear {a : List MV} : mCall X P1 h m_X3_clear a μ K = mMet X h m_X3_clear a μ K := rfl
theorem qP1_X3_copyFrom {a : List MV} : mCall X P1 h m_X3_copyFrom a μ K = mMet X h m_X3_copyFrom a μ K := rfl
theorem qP1_X3_readBring {a : List MV} : mCall X P1 h m_X3_readBring a μ K = mMet X h m_X3_readBring a μ K := rfl
theorem qP1_X3_readFrom {a : List MV} : mCall X P1 h m_X3_readFrom a μ K = mMet X h m_X3_readFrom a μ K := rfl
theorem qP1_X3_readLine {a : List MV} : mCall X P1 h m_X3_readLine a μ K = mMet X h m_X3_readLine a μ K := rfl
theorem qP1_X3_readStop {a : List MV} : mCall X P1 h m_X3_readStop a μ K = mMet X h m_X3_readStop a μ K := rfl
theorem qP1_X3_stoppedAt {a : List MV} : mCall X P1 h m_X3_stoppedAt a μ K = mMet X h m_X3_stoppedAt a μ K := rfl
theorem qP1_X4_allGo {a : List MV} : mCall X P1 h m_X4_allGo a μ K = mMet X h m_X4_allGo a μ K := rfl
theorem qP1_X4_bring {a : List MV} : mCall X P1 h m_X4_bring a μ K = mMet X h m_X4_bring a μ K := rfl
theorem qP1_X4_comeToWork {a : List MV} : mCall X P1 h m_X4_comeToWork a μ K = mMet X h m_X4_comeToWork a μ K := rfl
theorem qP1_X4_copyFrom {a : List MV} : mCall X P1 h m_X4_copyFrom a μ K = mMet X h m_X4_copyFrom a μ K := rfl
theorem qP1_X4_goOnce {a : List MV} : mCall X P1 h m_X4_goOnce a μ K = mMet X h m_X4_goOnce a μ K := rfl
theorem qP1_X4_hasAll {a : List MV} : mCall X P1 h m_X4_hasAll a μ K = mMet X h m_X4_hasAll a μ K := rfl
theorem qP1_X4_inVats {a : List MV} : mCall X P1 h m_X4_inVats a μ K = mMet X h m_X4_inVats a μ K := rfl
theorem qP1_X4_isLike {a : List MV} : mCall X P1 h m_X4_isLike a μ K = mMet X h m_X4_isLike a μ K := rfl
theorem qP1_X4_isSteady {a : List MV} : mCall X P1 h m_X4_isSteady a μ K = mMet X h m_X4_isSteady a μ K := rfl
theorem qP1_X4_lessen {a : List MV} : mCall X P1 h m_X4_lessen a μ K = mMet X h m_X4_lessen a μ K := rfl
theorem qP1_X4_letOut {a : List MV} : mCall X P1 h m_X4_letOut a μ K = mMet X h m_X4_letOut a μ K := rfl
theorem qP1_X4_loseOnWay {a : List MV} : mCall X P1 h m_X4_loseOnWay a μ K = mMet X h m_X4_loseOnWay a μ K := rfl
theorem qP1_X4_pass {a : List MV} : mCall X P1 h m_X4_pass a μ K = mMet X h m_X4_pass a μ K := rfl
theorem qP1_X4_passMany {a : List MV} : mCall X P1 h m_X4_passMany a μ K = mMet X h m_X4_passMany a μ K := rfl
theorem qP1_X4_startAsTold {a : List MV} : mCall X P1 h m_X4_startAsTold a μ K = mMet X h m_X4_startAsTold a μ K := rfl
theorem qP1_X4_startEmpty {a : List MV} : mCall X P1 h m_X4_startEmpty a μ K = mMet X h m_X4_startEmpty a μ K := rfl
theorem qP1_X4_startKindled {a : List MV} : mCall X P1 h m_X4_startKindled a μ K = mMet X h m_X4_startKindled a μ K := rfl
theorem qP1_X4_total {a : List MV} : mCall X P1 h m_X4_total a μ K = mMet X h m_X4_total a μ K := rfl
theorem qP1_X4_wentLately {a : List MV} : mCall X P1 h m_X4_wentLately a μ K = mMet X h m_X4_wentLately a μ K := rfl
theorem qP1_X5_addStep {a : List MV} : mCall X P1 h m_X5_addStep a μ K = mMet X h m_X5_addStep a μ K := rfl
theorem qP1_X5_clear {a : List MV} : mCall X P1 h m_X5_clear a μ K = mMet X h m_X5_clear a μ K := rfl
theorem qP1_X5_compares {a : List MV} : mCall X P1 h m_X5_compares a μ K = mMet X h m_X5_compares a μ K := rfl
theorem qP1_X5_copyFrom {a : List MV} : mCall X P1 h m_X5_copyFrom a μ K = mMet X h m_X5_copyFrom a μ K := rfl
theorem qP1_X5_isStepTrueOf {a : List MV} : mCall X P1 h m_X5_isStepTrueOf a μ K = mMet X h m_X5_isStepTrueOf a μ K := rfl
theorem qP1_X5_isTrueOf {a : List MV} : mCall X P1 h m_X5_isTrueOf a μ K = mMet X h m_X5_isTrueOf a μ K := rfl
theorem qP1_X5_readAll {a : List MV} : mCall X P1 h m_X5_readAll a μ K = mMet X h m_X5_readAll a μ K := rfl
theorem qP1_X5_readComparison {a : List MV} : mCall X P1 h m_X5_readComparison a μ K = mMet X h m_X5_readComparison a μ K := rfl
theorem qP1_X5_readCondition {a : List MV} : mCall X P1 h m_X5_readCondition a μ K = mMet X h m_X5_readCondition a μ K := rfl
theorem qP1_X5_readFrom {a : List MV} : mCall X P1 h m_X5_readFrom a μ K = mMet X h m_X5_readFrom a μ K := rfl
theorem qP1_X5_readNamed {a : List MV} : mCall X P1 h m_X5_readNamed a μ K = mMet X h m_X5_readNamed a μ K := rfl
theorem qP1_X5_readOne {a : List MV} : mCall X P1 h m_X5_readOne a μ K = mMet X h m_X5_readOne a μ K := rfl
theorem qP1_X6_advance {a : List MV} : mCall X P1 h m_X6_advance a μ K = mMet X h m_X6_advance a μ K := rfl
theorem qP1_X6_fail {a : List MV} : mCall X P1 h m_X6_fail a μ K = mMet X h m_X6_fail a μ K := rfl
theorem qP1_X6_hasRoomForFive {a : List MV} : mCall X P1 h m_X6_hasRoomForFive a μ K = mMet X h m_X6_hasRoomForFive a μ K := rfl
theorem qP1_X6_isComparing {a : List MV} : mCall X P1 h m_X6_isComparing a μ K = mMet X h m_X6_isComparing a μ K := rfl
theorem qP1_X6_isName {a : List MV} : mCall X P1 h m_X6_isName a μ K = mMet X h m_X6_isName a μ K := rfl
theorem qP1_X6_isThisSign {a : List MV} : mCall X P1 h m_X6_isThisSign a μ K = mMet X h m_X6_isThisSign a μ K := rfl
theorem qP1_X6_openText {a : List MV} : mCall X P1 h m_X6_openText a μ K = mMet X h m_X6_openText a μ K := rfl
theorem qP1_X6_putNumber {a : List MV} : mCall X P1 h m_X6_putNumber a μ K = mMet X h m_X6_putNumber a μ K := rfl
theorem qP1_X6_readToken {a : List MV} : mCall X P1 h m_X6_readToken a μ K = mMet X h m_X6_readToken a μ K := rfl
theorem qP1_X6_takeNumber {a : List MV} : mCall X P1 h m_X6_takeNumber a μ K = mMet X h m_X6_takeNumber a μ K := rfl
theorem qP1_X6_takeSign {a : List MV} : mCall X P1 h m_X6_takeSign a μ K = mMet X h m_X6_takeSign a μ K := rfl
theorem qP1_X7_putByte {a : List MV} : mCall X P1 h m_X7_putByte a μ K = mMet X h m_X7_putByte a μ K := rfl
theorem qP1_X7_putName {a : List MV} : mCall X P1 h m_X7_putName a μ K = mMet X h m_X7_putName a μ K := rfl
theorem qP1_X7_putNumber {a : List MV} : mCall X P1 h m_X7_putNumber a μ K = mMet X h m_X7_putNumber a μ K := rfl
theorem qP1_X8_again {a : List MV} : mCall X P1 h m_X8_again a μ K = mMet X h m_X8_again a μ K := rfl
theorem qP1_X8_areHours {n : Int32} : mCall X P1 h m_X8_areHours [.inl n] μ K = K (.inl (bI (nI 1 ≤ n ∧ n ≤ nI 200))) μ := mCall_some rfl
theorem qP1_X8_at {a : List MV} : mCall X P1 h m_X8_at a μ K = mMet X h m_X8_at a μ K := rfl
theorem qP1_X8_begin {a : List MV} : mCall X P1 h m_X8_begin a μ K = mMet X h m_X8_begin a μ K := rfl
theorem qP1_X8_brook {a : List MV} : mCall X P1 h m_X8_brook a μ K = mMet X h m_X8_brook a μ K := rfl
theorem qP1_X8_by {a : List MV} : mCall X P1 h m_X8_by a μ K = mMet X h m_X8_by a μ K := rfl
theorem qP1_X8_byteAt {a : List MV} : mCall X P1 h m_X8_byteAt a μ K = mMet X h m_X8_byteAt a μ K := rfl
theorem qP1_X8_closeTape {a : List MV} : mCall X P1 h m_X8_closeTape a μ K = mMet X h m_X8_closeTape a μ K := rfl
theorem qP1_X8_comes {a : List MV} : mCall X P1 h m_X8_comes a μ K = mMet X h m_X8_comes a μ K := rfl
theorem qP1_X8_commonDivisor {a : List MV} : mCall X P1 h m_X8_commonDivisor a μ K = mMet X h m_X8_commonDivisor a μ K := rfl
theorem qP1_X8_count {a : List MV} : mCall X P1 h m_X8_count a μ K = mMet X h m_X8_count a μ K := rfl
theorem qP1_X8_countTold {a : List MV} : mCall X P1 h m_X8_countTold a μ K = mMet X h m_X8_countTold a μ K := rfl
theorem qP1_X8_dry {a : List MV} : mCall X P1 h m_X8_dry a μ K = mMet X h m_X8_dry a μ K := rfl
theorem qP1_X8_end {a : List MV} : mCall X P1 h m_X8_end a μ K = mMet X h m_X8_end a μ K := rfl
theorem qP1_X8_exchanged {a : List MV} : mCall X P1 h m_X8_exchanged a μ K = mMet X h m_X8_exchanged a μ K := rfl
theorem qP1_X8_falls {a : List MV} : mCall X P1 h m_X8_falls a μ K = mMet X h m_X8_falls a μ K := rfl
theorem qP1_X8_fault {a : List MV} : mCall X P1 h m_X8_fault a μ K = mMet X h m_X8_fault a μ K := rfl
theorem qP1_X8_fed {a : List MV} : mCall X P1 h m_X8_fed a μ K = mMet X h m_X8_fed a μ K := rfl
theorem qP1_X8_feed {a : List MV} : mCall X P1 h m_X8_feed a μ K = mMet X h m_X8_feed a μ K := rfl
theorem qP1_X8_firstHourOfPeriod {a : List MV} : mCall X P1 h m_X8_firstHourOfPeriod a μ K = mMet X h m_X8_firstHourOfPeriod a μ K := rfl
theorem qP1_X8_firstOf {a : List MV} : mCall X P1 h m_X8_firstOf a μ K = mMet X h m_X8_firstOf a μ K := rfl
theorem qP1_X8_goes {a : List MV} : mCall X P1 h m_X8_goes a μ K = mMet X h m_X8_goes a μ K := rfl
theorem qP1_X8_goodsOf {a : List MV} : mCall X P1 h m_X8_goodsOf a μ K = mMet X h m_X8_goodsOf a μ K := rfl
theorem qP1_X8_greatest {a : List MV} : mCall X P1 h m_X8_greatest a μ K = mMet X h m_X8_greatest a μ K := rfl
theorem qP1_X8_greatestOf {a : List MV} : mCall X P1 h m_X8_greatestOf a μ K = mMet X h m_X8_greatestOf a μ K := rfl
theorem qP1_X8_hour {a : List MV} : mCall X P1 h m_X8_hour a μ K = mMet X h m_X8_hour a μ K := rfl
theorem qP1_X8_image {a : List MV} : mCall X P1 h m_X8_image a μ K = mMet X h m_X8_image a μ K := rfl
theorem qP1_X8_isGood {i : Nat} {w : Int32} : mCall X P1 h m_X8_isGood [.inr (.inr (7, 0, i)), .inl w] μ K = K (.inl (bI (0 ≤ w ∧ w < μ.1 (i + 4) 0))) μ := mCall_some rfl
theorem qP1_X8_isRunning {i : Nat} : mCall X P1 h m_X8_isRunning [.inr (.inr (7, 0, i))] μ K = K (.inl (bI (¬ μ.1 (i + 50) 0 = -1))) μ := mCall_some rfl
theorem qP1_X8_isSet {a : List MV} : mCall X P1 h m_X8_isSet a μ K = mMet X h m_X8_isSet a μ K := rfl
theorem qP1_X8_isVatOfRun {a : List MV} : mCall X P1 h m_X8_isVatOfRun a μ K = mMet X h m_X8_isVatOfRun a μ K := rfl
theorem qP1_X8_isWork {i : Nat} {w : Int32} : mCall X P1 h m_X8_isWork [.inr (.inr (7, 0, i)), .inl w] μ K = K (.inl (bI (0 ≤ w ∧ w < μ.1 (i + 4) 1))) μ := mCall_some rfl
theorem qP1_X8_kept {a : List MV} : mCall X P1 h m_X8_kept a μ K = mMet X h m_X8_kept a μ K := rfl
theorem qP1_X8_kindle {a : List MV} : mCall X P1 h m_X8_kindle a μ K = mMet X h m_X8_kindle a μ K := rfl
theorem qP1_X8_kindled {a : List MV} : mCall X P1 h m_X8_kindled a μ K = mMet X h m_X8_kindled a μ K := rfl
theorem qP1_X8_lacks {a : List MV} : mCall X P1 h m_X8_lacks a μ K = mMet X h m_X8_lacks a μ K := rfl
theorem qP1_X8_longer {a : List MV} : mCall X P1 h m_X8_longer a μ K = mMet X h m_X8_longer a μ K := rfl
theorem qP1_X8_loss {a : List MV} : mCall X P1 h m_X8_loss a μ K = mMet X h m_X8_loss a μ K := rfl
theorem qP1_X8_made {a : List MV} : mCall X P1 h m_X8_made a μ K = mMet X h m_X8_made a μ K := rfl
theorem qP1_X8_madeAlone {a : List MV} : mCall X P1 h m_X8_madeAlone a μ K = mMet X h m_X8_madeAlone a μ K := rfl
theorem qP1_X8_needed {a : List MV} : mCall X P1 h m_X8_needed a μ K = mMet X h m_X8_needed a μ K := rfl
theorem qP1_X8_on {a : List MV} : mCall X P1 h m_X8_on a μ K = mMet X h m_X8_on a μ K := rfl
theorem qP1_X8_order {a : List MV} : mCall X P1 h m_X8_order a μ K = mMet X h m_X8_order a μ K := rfl
theorem qP1_X8_parts {a : List MV} : mCall X P1 h m_X8_parts a μ K = mMet X h m_X8_parts a μ K := rfl
theorem qP1_X8_periodAtEnd {a : List MV} : mCall X P1 h m_X8_periodAtEnd a μ K = mMet X h m_X8_periodAtEnd a μ K := rfl
theorem qP1_X8_plan {a : List MV} : mCall X P1 h m_X8_plan a μ K = mMet X h m_X8_plan a μ K := rfl
theorem qP1_X8_rest {a : List MV} : mCall X P1 h m_X8_rest a μ K = mMet X h m_X8_rest a μ K := rfl
theorem qP1_X8_restore {a : List MV} : mCall X P1 h m_X8_restore a μ K = mMet X h m_X8_restore a μ K := rfl
theorem qP1_X8_said {a : List MV} : mCall X P1 h m_X8_said a μ K = mMet X h m_X8_said a μ K := rfl
theorem qP1_X8_sentence {a : List MV} : mCall X P1 h m_X8_sentence a μ K = mMet X h m_X8_sentence a μ K := rfl
theorem qP1_X8_setWorth {a : List MV} : mCall X P1 h m_X8_setWorth a μ K = mMet X h m_X8_setWorth a μ K := rfl
theorem qP1_X8_sharesOf {a : List MV} : mCall X P1 h m_X8_sharesOf a μ K = mMet X h m_X8_sharesOf a μ K := rfl
theorem qP1_X8_steadies {a : List MV} : mCall X P1 h m_X8_steadies a μ K = mMet X h m_X8_steadies a μ K := rfl
theorem qP1_X8_steady {a : List MV} : mCall X P1 h m_X8_steady a μ K = mMet X h m_X8_steady a μ K := rfl
theorem qP1_X8_vat {a : List MV} : mCall X P1 h m_X8_vat a μ K = mMet X h m_X8_vat a μ K := rfl
theorem qP1_X8_went {a : List MV} : mCall X P1 h m_X8_went a μ K = mMet X h m_X8_went a μ K := rfl
theorem qP1_X8_wider {a : List MV} : mCall X P1 h m_X8_wider a μ K = mMet X h m_X8_wider a μ K := rfl
theorem qP1_X8_work {a : List MV} : mCall X P1 h m_X8_work a μ K = mMet X h m_X8_work a μ K := rfl
theorem qP1_X8_worth {a : List MV} : mCall X P1 h m_X8_worth a μ K = mMet X h m_X8_worth a μ K := rfl
theorem qP1_X8_worthOf {a : List MV} : mCall X P1 h m_X8_worthOf a μ K = mMet X h m_X8_worthOf a μ K := rfl
theorem qP1_X8_write {a : List MV} : mCall X P1 h m_X8_write a μ K = mMet X h m_X8_write a μ K := rfl
theorem qP1_X9_again {a : List MV} : mCall X P1 h m_X9_again a μ K = mMet X h m_X9_again a μ K := rfl
theorem qP1_X9_all {a : List MV} : mCall X P1 h m_X9_all a μ K = mMet X h m_X9_all a μ K := rfl
theorem qP1_X9_areLike {a : List MV} : mCall X P1 h m_X9_areLike a μ K = mMet X h m_X9_areLike a μ K := rfl
theorem qP1_X9_at {a : List MV} : mCall X P1 h m_X9_at a μ K = mMet X h m_X9_at a μ K := rfl
theorem qP1_X9_bad {a : List MV} : mCall X P1 h m_X9_bad a μ K = mMet X h m_X9_bad a μ K := rfl
theorem qP1_X9_begin {a : List MV} : mCall X P1 h m_X9_begin a μ K = mMet X h m_X9_begin a μ K := rfl
theorem qP1_X9_begin_ {a : List MV} : mCall X P1 h m_X9_begin_ a μ K = mMet X h m_X9_begin_ a μ K := rfl
theorem qP1_X9_bits {a : List MV} : mCall X P1 h m_X9_bits a μ K = mMet X h m_X9_bits a μ K := rfl
theorem qP1_X9_bring {a : List MV} : mCall X P1 h m_X9_bring a μ K = mMet X h m_X9_bring a μ K := rfl
theorem qP1_X9_brook {a : List MV} : mCall X P1 h m_X9_brook a μ K = mMet X h m_X9_brook a μ K := rfl
theorem qP1_X9_by {a : List MV} : mCall X P1 h m_X9_by a μ K = mMet X h m_X9_by a μ K := rfl
theorem qP1_X9_byteAt {a : List MV} : mCall X P1 h m_X9_byteAt a μ K = mMet X h m_X9_byteAt a μ K := rfl
theorem qP1_X9_cell {w g : Int32} : mCall X P1 h m_X9_cell [.inl w, .inl g] μ K = K (.inl (w * nI 6 + g)) μ := mCall_some rfl
theorem qP1_X9_change {a : List MV} : mCall X P1 h m_X9_change a μ K = mMet X h m_X9_change a μ K := rfl
theorem qP1_X9_come {a : List MV} : mCall X P1 h m_X9_come a μ K = mMet X h m_X9_come a μ K := rfl
theorem qP1_X9_comes {a : List MV} : mCall X P1 h m_X9_comes a μ K = mMet X h m_X9_comes a μ K := rfl
theorem qP1_X9_count {a : List MV} : mCall X P1 h m_X9_count a μ K = mMet X h m_X9_count a μ K := rfl
theorem qP1_X9_dry {a : List MV} : mCall X P1 h m_X9_dry a μ K = mMet X h m_X9_dry a μ K := rfl
theorem qP1_X9_end {a : List MV} : mCall X P1 h m_X9_end a μ K = mMet X h m_X9_end a μ K := rfl
theorem qP1_X9_exchanged {a : List MV} : mCall X P1 h m_X9_exchanged a μ K = mMet X h m_X9_exchanged a μ K := rfl
theorem qP1_X9_falls {a : List MV} : mCall X P1 h m_X9_falls a μ K = mMet X h m_X9_falls a μ K := rfl
theorem qP1_X9_fault {a : List MV} : mCall X P1 h m_X9_fault a μ K = mMet X h m_X9_fault a μ K := rfl
theorem qP1_X9_fed {a : List MV} : mCall X P1 h m_X9_fed a μ K = mMet X h m_X9_fed a μ K := rfl
theorem qP1_X9_feed {a : List MV} : mCall X P1 h m_X9_feed a μ K = mMet X h m_X9_feed a μ K := rfl
theorem qP1_X9_fill {a : List MV} : mCall X P1 h m_X9_fill a μ K = mMet X h m_X9_fill a μ K := rfl
theorem qP1_X9_findIn {a : List MV} : mCall X P1 h m_X9_findIn a μ K = mMet X h m_X9_findIn a μ K := rfl
theorem qP1_X9_go {a : List MV} : mCall X P1 h m_X9_go a μ K = mMet X h m_X9_go a μ K := rfl
theorem qP1_X9_goes {a : List MV} : mCall X P1 h m_X9_goes a μ K = mMet X h m_X9_goes a μ K := rfl
theorem qP1_X9_goes_ {a : List MV} : mCall X P1 h m_X9_goes_ a μ K = mMet X h m_X9_goes_ a μ K := rfl
theorem qP1_X9_goods {i : Nat} : mCall X P1 h m_X9_goods [.inr (.inr (8, 0, i))] μ K = K (.inl (μ.1 (i + 2) 0)) μ := mCall_some rfl
theorem qP1_X9_goodsIn {a : List MV} : mCall X P1 h m_X9_goodsIn a μ K = mMet X h m_X9_goodsIn a μ K := rfl
theorem qP1_X9_greatest {a : List MV} : mCall X P1 h m_X9_greatest a μ K = mMet X h m_X9_greatest a μ K := rfl
theorem qP1_X9_greatestOf {a : List MV} : mCall X P1 h m_X9_greatestOf a μ K = mMet X h m_X9_greatestOf a μ K := rfl
theorem qP1_X9_has {s k : Int32} : mCall X P1 h m_X9_has [.inl s, .inl k] μ K = K (.inl (bI (s >>> (k &&& 31) &&& nI 1 = nI 1))) μ := mCall_some rfl
theorem qP1_X9_holds {a : List MV} : mCall X P1 h m_X9_holds a μ K = mMet X h m_X9_holds a μ K := rfl
theorem qP1_X9_hour {a : List MV} : mCall X P1 h m_X9_hour a μ K = mMet X h m_X9_hour a μ K := rfl
theorem qP1_X9_hour_ {a : List MV} : mCall X P1 h m_X9_hour_ a μ K = mMet X h m_X9_hour_ a μ K := rfl
theorem qP1_X9_image {a : List MV} : mCall X P1 h m_X9_image a μ K = mMet X h m_X9_image a μ K := rfl
theorem qP1_X9_isDigit {c : Int32} : mCall X P1 h m_X9_isDigit [.inl c] μ K = K (.inl (bI (nI 48 ≤ c ∧ c ≤ nI 57))) μ := mCall_some rfl
theorem qP1_X9_isGood {a : List MV} : mCall X P1 h m_X9_isGood a μ K = mMet X h m_X9_isGood a μ K := rfl
theorem qP1_X9_isHours {a : List MV} : mCall X P1 h m_X9_isHours a μ K = mMet X h m_X9_isHours a μ K := rfl
theorem qP1_X9_isIn {v lo hi : Int32} : mCall X P1 h m_X9_isIn [.inl v, .inl lo, .inl hi] μ K = K (.inl (bI (lo ≤ v ∧ v ≤ hi))) μ := mCall_some rfl
theorem qP1_X9_isLetter {c : Int32} : mCall X P1 h m_X9_isLetter [.inl c] μ K = K (.inl (bI (nI 97 ≤ c ∧ c ≤ nI 122))) μ := mCall_some rfl
theorem qP1_X9_isName {a : List MV} : mCall X P1 h m_X9_isName a μ K = mMet X h m_X9_isName a μ K := rfl
theorem qP1_X9_isRun {i : Nat} : mCall X P1 h m_X9_isRun [.inr (.inr (8, 0, i))] μ K = K (.inl (bI (0 < μ.1 (i + 2) 621))) μ := mCall_some rfl
theorem qP1_X9_isSet {a : List MV} : mCall X P1 h m_X9_isSet a μ K = mMet X h m_X9_isSet a μ K := rfl
theorem qP1_X9_isSign {i : Nat} {c : Int32} : mCall X P1 h m_X9_isSign [.inr (.inr (8, 0, i)), .inl c] μ K = K (.inl (bI (μ.1 i 7 = nI 4 ∧ μ.1 i 9 = c))) μ := mCall_some rfl
theorem qP1_X9_isSteady {a : List MV} : mCall X P1 h m_X9_isSteady a μ K = mMet X h m_X9_isSteady a μ K := rfl
theorem qP1_X9_isSteady_ {a : List MV} : mCall X P1 h m_X9_isSteady_ a μ K = mMet X h m_X9_isSteady_ a μ K := rfl
theorem qP1_X9_isStopped {a : List MV} : mCall X P1 h m_X9_isStopped a μ K = mMet X h m_X9_isStopped a μ K := rfl
theorem qP1_X9_isToldGood {a : List MV} : mCall X P1 h m_X9_isToldGood a μ K = mMet X h m_X9_isToldGood a μ K := rfl
theorem qP1_X9_isToldWork {a : List MV} : mCall X P1 h m_X9_isToldWork a μ K = mMet X h m_X9_isToldWork a μ K := rfl
theorem qP1_X9_isVat {a : List MV} : mCall X P1 h m_X9_isVat a μ K = mMet X h m_X9_isVat a μ K := rfl
theorem qP1_X9_isWord {a : List MV} : mCall X P1 h m_X9_isWord a μ K = mMet X h m_X9_isWord a μ K := rfl
theorem qP1_X9_isWork {a : List MV} : mCall X P1 h m_X9_isWork a μ K = mMet X h m_X9_isWork a μ K := rfl
theorem qP1_X9_kept {a : List MV} : mCall X P1 h m_X9_kept a μ K = mMet X h m_X9_kept a μ K := rfl
theorem qP1_X9_kindle {a : List MV} : mCall X P1 h m_X9_kindle a μ K = mMet X h m_X9_kindle a μ K := rfl
theorem qP1_X9_kindled {a : List MV} : mCall X P1 h m_X9_kindled a μ K = mMet X h m_X9_kindled a μ K := rfl
theorem qP1_X9_kindles {a : List MV} : mCall X P1 h m_X9_kindles a μ K = mMet X h m_X9_kindles a μ K := rfl
theorem qP1_X9_lacks {a : List MV} : mCall X P1 h m_X9_lacks a μ K = mMet X h m_X9_lacks a μ K := rfl
theorem qP1_X9_layRule {a : List MV} : mCall X P1 h m_X9_layRule a μ K = mMet X h m_X9_layRule a μ K := rfl
theorem qP1_X9_layValues {a : List MV} : mCall X P1 h m_X9_layValues a μ K = mMet X h m_X9_layValues a μ K := rfl
theorem qP1_X9_lays {a : List MV} : mCall X P1 h m_X9_lays a μ K = mMet X h m_X9_lays a μ K := rfl
theorem qP1_X9_less {x y : Int32} : mCall X P1 h m_X9_less [.inl x, .inl y] μ K = K (.inl (if x < y then x else y)) μ := mCall_some rfl
theorem qP1_X9_longer {a : List MV} : mCall X P1 h m_X9_longer a μ K = mMet X h m_X9_longer a μ K := rfl
theorem qP1_X9_lose {a : List MV} : mCall X P1 h m_X9_lose a μ K = mMet X h m_X9_lose a μ K := rfl
theorem qP1_X9_loss {a : List MV} : mCall X P1 h m_X9_loss a μ K = mMet X h m_X9_loss a μ K := rfl
theorem qP1_X9_made {a : List MV} : mCall X P1 h m_X9_made a μ K = mMet X h m_X9_made a μ K := rfl
theorem qP1_X9_madeBy {a : List MV} : mCall X P1 h m_X9_madeBy a μ K = mMet X h m_X9_madeBy a μ K := rfl
theorem qP1_X9_madeIn {a : List MV} : mCall X P1 h m_X9_madeIn a μ K = mMet X h m_X9_madeIn a μ K := rfl
theorem qP1_X9_mayGo {a : List MV} : mCall X P1 h m_X9_mayGo a μ K = mMet X h m_X9_mayGo a μ K := rfl
theorem qP1_X9_needed {a : List MV} : mCall X P1 h m_X9_needed a μ K = mMet X h m_X9_needed a μ K := rfl
theorem qP1_X9_on {a : List MV} : mCall X P1 h m_X9_on a μ K = mMet X h m_X9_on a μ K := rfl
theorem qP1_X9_order {a : List MV} : mCall X P1 h m_X9_order a μ K = mMet X h m_X9_order a μ K := rfl
theorem qP1_X9_orders {a : List MV} : mCall X P1 h m_X9_orders a μ K = mMet X h m_X9_orders a μ K := rfl
theorem qP1_X9_parts {a : List MV} : mCall X P1 h m_X9_parts a μ K = mMet X h m_X9_parts a μ K := rfl
theorem qP1_X9_plan {a : List MV} : mCall X P1 h m_X9_plan a μ K = mMet X h m_X9_plan a μ K := rfl
theorem qP1_X9_put {a : List MV} : mCall X P1 h m_X9_put a μ K = mMet X h m_X9_put a μ K := rfl
theorem qP1_X9_putName {a : List MV} : mCall X P1 h m_X9_putName a μ K = mMet X h m_X9_putName a μ K := rfl
theorem qP1_X9_putNumber {a : List MV} : mCall X P1 h m_X9_putNumber a μ K = mMet X h m_X9_putNumber a μ K := rfl
theorem qP1_X9_readAct {a : List MV} : mCall X P1 h m_X9_readAct a μ K = mMet X h m_X9_readAct a μ K := rfl
theorem qP1_X9_readAnd {a : List MV} : mCall X P1 h m_X9_readAnd a μ K = mMet X h m_X9_readAnd a μ K := rfl
theorem qP1_X9_readBracket {a : List MV} : mCall X P1 h m_X9_readBracket a μ K = mMet X h m_X9_readBracket a μ K := rfl
theorem qP1_X9_readCell {a : List MV} : mCall X P1 h m_X9_readCell a μ K = mMet X h m_X9_readCell a μ K := rfl
theorem qP1_X9_readCompare {a : List MV} : mCall X P1 h m_X9_readCompare a μ K = mMet X h m_X9_readCompare a μ K := rfl
theorem qP1_X9_readEnd {a : List MV} : mCall X P1 h m_X9_readEnd a μ K = mMet X h m_X9_readEnd a μ K := rfl
theorem qP1_X9_readGood {a : List MV} : mCall X P1 h m_X9_readGood a μ K = mMet X h m_X9_readGood a μ K := rfl
theorem qP1_X9_readJoined {a : List MV} : mCall X P1 h m_X9_readJoined a μ K = mMet X h m_X9_readJoined a μ K := rfl
theorem qP1_X9_readLine {a : List MV} : mCall X P1 h m_X9_readLine a μ K = mMet X h m_X9_readLine a μ K := rfl
theorem qP1_X9_readMakes {a : List MV} : mCall X P1 h m_X9_readMakes a μ K = mMet X h m_X9_readMakes a μ K := rfl
theorem qP1_X9_readNamed {a : List MV} : mCall X P1 h m_X9_readNamed a μ K = mMet X h m_X9_readNamed a μ K := rfl
theorem qP1_X9_readNew {a : List MV} : mCall X P1 h m_X9_readNew a μ K = mMet X h m_X9_readNew a μ K := rfl
theorem qP1_X9_readNot {a : List MV} : mCall X P1 h m_X9_readNot a μ K = mMet X h m_X9_readNot a μ K := rfl
theorem qP1_X9_readNumber {a : List MV} : mCall X P1 h m_X9_readNumber a μ K = mMet X h m_X9_readNumber a μ K := rfl
theorem qP1_X9_readOne {a : List MV} : mCall X P1 h m_X9_readOne a μ K = mMet X h m_X9_readOne a μ K := rfl
theorem qP1_X9_readOr {a : List MV} : mCall X P1 h m_X9_readOr a μ K = mMet X h m_X9_readOr a μ K := rfl
theorem qP1_X9_readPlain {a : List MV} : mCall X P1 h m_X9_readPlain a μ K = mMet X h m_X9_readPlain a μ K := rfl
theorem qP1_X9_readTakes {a : List MV} : mCall X P1 h m_X9_readTakes a μ K = mMet X h m_X9_readTakes a μ K := rfl
theorem qP1_X9_readWork {a : List MV} : mCall X P1 h m_X9_readWork a μ K = mMet X h m_X9_readWork a μ K := rfl
theorem qP1_X9_refuse {a : List MV} : mCall X P1 h m_X9_refuse a μ K = mMet X h m_X9_refuse a μ K := rfl
theorem qP1_X9_rest {a : List MV} : mCall X P1 h m_X9_rest a μ K = mMet X h m_X9_rest a μ K := rfl
theorem qP1_X9_restore {a : List MV} : mCall X P1 h m_X9_restore a μ K = mMet X h m_X9_restore a μ K := rfl
theorem qP1_X9_run {a : List MV} : mCall X P1 h m_X9_run a μ K = mMet X h m_X9_run a μ K := rfl
theorem qP1_X9_said {a : List MV} : mCall X P1 h m_X9_said a μ K = mMet X h m_X9_said a μ K := rfl
theorem qP1_X9_sentence {a : List MV} : mCall X P1 h m_X9_sentence a μ K = mMet X h m_X9_sentence a μ K := rfl
theorem qP1_X9_spelt {a : List MV} : mCall X P1 h m_X9_spelt a μ K = mMet X h m_X9_spelt a μ K := rfl
theorem qP1_X9_start {a : List MV} : mCall X P1 h m_X9_start a μ K = mMet X h m_X9_start a μ K := rfl
theorem qP1_X9_steadies {a : List MV} : mCall X P1 h m_X9_steadies a μ K = mMet X h m_X9_steadies a μ K := rfl
theorem qP1_X9_steady {a : List MV} : mCall X P1 h m_X9_steady a μ K = mMet X h m_X9_steady a μ K := rfl
theorem qP1_X9_take {a : List MV} : mCall X P1 h m_X9_take a μ K = mMet X h m_X9_take a μ K := rfl
theorem qP1_X9_tapeAt {a : List MV} : mCall X P1 h m_X9_tapeAt a μ K = mMet X h m_X9_tapeAt a μ K := rfl
theorem qP1_X9_thrown {i : Nat} : mCall X P1 h m_X9_thrown [.inr (.inr (8, 0, i))] μ K = K (.inl (μ.1 i 0)) μ := mCall_some rfl
theorem qP1_X9_vat {a : List MV} : mCall X P1 h m_X9_vat a μ K = mMet X h m_X9_vat a μ K := rfl
theorem qP1_X9_went {a : List MV} : mCall X P1 h m_X9_went a μ K = mMet X h m_X9_went a μ K := rfl
theorem qP1_X9_wider {a : List MV} : mCall X P1 h m_X9_wider a μ K = mMet X h m_X9_wider a μ K := rfl
theorem qP1_X9_wordOf {a : List MV} : mCall X P1 h m_X9_wordOf a μ K = mMet X h m_X9_wordOf a μ K := rfl
theorem qP1_X9_work {a : List MV} : mCall X P1 h m_X9_work a μ K = mMet X h m_X9_work a μ K := rfl
theorem qP1_X9_works {i : Nat} : mCall X P1 h m_X9_works [.inr (.inr (8, 0, i))] μ K = K (.inl (μ.1 (i + 2) 1)) μ := mCall_some rfl
theorem qP1_X9_worth {a : List MV} : mCall X P1 h m_X9_worth a μ K = mMet X h m_X9_worth a μ K := rfl
theorem qP1_X9_worthOf {a : List MV} : mCall X P1 h m_X9_worthOf a μ K = mMet X h m_X9_worthOf a μ K := rfl
theorem qP1_X9_write {a : List MV} : mCall X P1 h m_X9_write a μ K = mMet X h m_X9_write a μ K := rfl
theorem qP1_L_law {a : List MV} : mCall X P1 h m_L_law a μ K = mMet X h m_L_law a μ K := rfl
end
section
variable {X : mC} {h : Nat} {K : MV → Mem → Prop} {μ : Mem}
theorem c_X9_isWork {i : Nat} {w : Int32} (hK : K (.inl (bI (0 ≤ w ∧ w < μ.1 (i + 2) 1))) μ) : mMet X (h + 2) m_X9_isWork [.inr (.inr (8, 0, i)), .inl w] μ K := by
  (refine vc_met2 P1_ok ok_X9_isWork cm_X9_isWork [] 6 t_X9_isWork_0 (Nat.le_of_ble_eq_true rfl) ?_; simp only [mArg_nil, mArg_I, mArg_L, mArg_A, Nat.reduceAdd])
  simp only [↓w_X9_isWork_0, ↓w_X9_isWork_16, ↓w_X9_isWork_17, ↓v_X9_isWork_16, ↓v_X9_isWork_17, ↓b_aload_n, ↓b_callV1_1, ↓b_goto, ↓b_ic_ge, ↓b_iconst, ↓b_if_lt, ↓b_iload_n, ↓b_zret, ↓ldI_hit, ↓ldI_skip, ↓ldL_hit, ↓ldL_skip, ↓ldA_hit, ↓ldA_skip, ↓ldelK_nil, ↓ldelK_hit, ↓ldelK_skipI, ↓ldelK_skipA, ↓ldelK_skipL, qP1_X9_works, ↓bI_b, bI_0, nnot, lget_hit, lget_skip, ldel_nil, ldel_hit, ldel_skipI, ldel_skipA, ldel_skipL, ldel2_nil, ldel2_hit, ldel2_hit2, ldel2_skipI, ldel2_skipA, ldel2_skipL, vc_0, mCat_nil, mCat_I, mCat_L, mCat_A, mRcv_A, mArg_nil, mArg_I, mArg_L, mArg_A, tsg, swt_nil, swt_cons, lkw_nil, lkw_cons, ↓reduceIte, Nat.reduceAdd, Nat.reduceEqDiff, Nat.reduceLeDiff, Nat.reduceMul, true_and, and_true, and_self, List.mem_cons, List.not_mem_nil, or_false, or_self, false_or, true_implies, false_implies, not_true_eq_false, not_false_eq_true, nI00, nI10, nI01, nI11, forall_const, implies_true]
  try simp (disch := omega) only [ixq, ixz, sb_in, sb_in0, upI_sb, upI_sb0, sb_out, nI_add, nI_mul, nI_subq, Nat.zero_add, forall_eq, u2_at, u2_row, upd_at, upd_ne, nI0b, nI1b, nI00, nI10, nI01, nI11, true_implies, false_implies, not_true_eq_false, not_false_eq_true, and_true, true_and, implies_true]
  refine ⟨fun hc => ?_, fun hc => ⟨fun hc2 => ?_, fun hc2 => ?_⟩⟩
  · rw [bI_f (fun z => absurd z.1 (Int32.not_le.mpr hc))] at hK; exact hK
  · rw [bI_f (fun z => absurd hc2 (Int32.not_le.mpr z.2))] at hK; exact hK
  · rw [bI_t (⟨Int32.not_lt.mp hc, Int32.not_le.mp hc2⟩)] at hK; exact hK
theorem c_X9_isGood {i : Nat} {w : Int32} (hK : K (.inl (bI (0 ≤ w ∧ w < μ.1 (i + 2) 0))) μ) : mMet X (h + 2) m_X9_isGood [.inr (.inr (8, 0, i)), .inl w] μ K := by
  (refine vc_met2 P1_ok ok_X9_isGood cm_X9_isGood [] 6 t_X9_isGood_0 (Nat.le_of_ble_eq_true rfl) ?_; simp only [mArg_nil, mArg_I, mArg_L, mArg_A, Nat.reduceAdd])
  simp only [↓w_X9_isGood_0, ↓w_X9_isGood_16, ↓w_X9_isGood_17, ↓v_X9_isGood_16, ↓v_X9_isGood_17, ↓b_aload_n, ↓b_callV1_1, ↓b_goto, ↓b_ic_ge, ↓b_iconst, ↓b_if_lt, ↓b_iload_n, ↓b_zret, ↓ldI_hit, ↓ldI_skip, ↓ldL_hit, ↓ldL_skip, ↓ldA_hit, ↓ldA_skip, ↓ldelK_nil, ↓ldelK_hit, ↓ldelK_skipI, ↓ldelK_skipA, ↓ldelK_skipL, qP1_X9_goods, ↓bI_b, bI_0, nnot, lget_hit, lget_skip, ldel_nil, ldel_hit, ldel_skipI, ldel_skipA, ldel_skipL, ldel2_nil, ldel2_hit, ldel2_hit2, ldel2_skipI, ldel2_skipA, ldel2_skipL, vc_0, mCat_nil, mCat_I, mCat_L, mCat_A, mRcv_A, mArg_nil, mArg_I, mArg_L, mArg_A, tsg, swt_nil, swt_cons, lkw_nil, lkw_cons, ↓reduceIte, Nat.reduceAdd, Nat.reduceEqDiff, Nat.reduceLeDiff, Nat.reduceMul, true_and, and_true, and_self, List.mem_cons, List.not_mem_nil, or_false, or_self, false_or, true_implies, false_implies, not_true_eq_false, not_false_eq_true, nI00, nI10, nI01, nI11, forall_const, implies_true]
  try simp (disch := omega) only [ixq, ixz, sb_in, sb_in0, upI_sb, upI_sb0, sb_out, nI_add, nI_mul, nI_subq, Nat.zero_add, forall_eq, u2_at, u2_row, upd_at, upd_ne, nI0b, nI1b, nI00, nI10, nI01, nI11, true_implies, false_implies, not_true_eq_false, not_false_eq_true, and_true, true_and, implies_true]
  refine ⟨fun hc => ?_, fun hc => ⟨fun hc2 => ?_, fun hc2 => ?_⟩⟩
  · rw [bI_f (fun z => absurd z.1 (Int32.not_le.mpr hc))] at hK; exact hK
  · rw [bI_f (fun z => absurd hc2 (Int32.not_le.mpr z.2))] at hK; exact hK
  · rw [bI_t (⟨Int32.not_lt.mp hc, Int32.not_le.mp hc2⟩)] at hK; exact hK
theorem c_X9_isSet {i : Nat} {s : Int32} (hK : K (.inl (bI (0 ≤ s ∧ s < nI 1 <<< (μ.1 (i + 2) 1 &&& 31)))) μ) : mMet X (h + 2) m_X9_isSet [.inr (.inr (8, 0, i)), .inl s] μ K := by
  (refine vc_met2 P1_ok ok_X9_isSet cm_X9_isSet [] 6 t_X9_isSet_0 (Nat.le_of_ble_eq_true rfl) ?_; simp only [mArg_nil, mArg_I, mArg_L, mArg_A, Nat.reduceAdd])
  simp only [↓w_X9_isSet_0, ↓w_X9_isSet_18, ↓w_X9_isSet_19, ↓v_X9_isSet_18, ↓v_X9_isSet_19, ↓b_aload_n, ↓b_callV1_1, ↓b_goto, ↓b_ic_ge, ↓b_iconst, ↓b_if_lt, ↓b_iload_n, ↓b_ishl, ↓b_zret, ↓ldI_hit, ↓ldI_skip, ↓ldL_hit, ↓ldL_skip, ↓ldA_hit, ↓ldA_skip, ↓ldelK_nil, ↓ldelK_hit, ↓ldelK_skipI, ↓ldelK_skipA, ↓ldelK_skipL, qP1_X9_works, ↓bI_b, bI_0, nnot, lget_hit, lget_skip, ldel_nil, ldel_hit, ldel_skipI, ldel_skipA, ldel_skipL, ldel2_nil, ldel2_hit, ldel2_hit2, ldel2_skipI, ldel2_skipA, ldel2_skipL, vc_0, mCat_nil, mCat_I, mCat_L, mCat_A, mRcv_A, mArg_nil, mArg_I, mArg_L, mArg_A, tsg, swt_nil, swt_cons, lkw_nil, lkw_cons, ↓reduceIte, Nat.reduceAdd, Nat.reduceEqDiff, Nat.reduceLeDiff, Nat.reduceMul, true_and, and_true, and_self, List.mem_cons, List.not_mem_nil, or_false, or_self, false_or, true_implies, false_implies, not_true_eq_false, not_false_eq_true, nI00, nI10, nI01, nI11, forall_const, implies_true]
  try simp (disch := omega) only [ixq, ixz, sb_in, sb_in0, upI_sb, upI_sb0, sb_out, nI_add, nI_mul, nI_subq, Nat.zero_add, forall_eq, u2_at, u2_row, upd_at, upd_ne, nI0b, nI1b, nI00, nI10, nI01, nI11, true_implies, false_implies, not_true_eq_false, not_false_eq_true, and_true, true_and, implies_true]
  refine ⟨fun hc => ?_, fun hc => ⟨fun hc2 => ?_, fun hc2 => ?_⟩⟩
  · rw [bI_f (fun z => absurd z.1 (Int32.not_le.mpr hc))] at hK; exact hK
  · rw [bI_f (fun z => absurd hc2 (Int32.not_le.mpr z.2))] at hK; exact hK
  · rw [bI_t (⟨Int32.not_lt.mp hc, Int32.not_le.mp hc2⟩)] at hK; exact hK
theorem c_X9_isHours {n : Int32} (hK : K (.inl (bI (nI 1 ≤ n ∧ n ≤ nI 200))) μ) : mMet X (h + 2) m_X9_isHours [.inl n] μ K := by
  (refine vc_met2 P1_ok ok_X9_isHours cm_X9_isHours [] 6 t_X9_isHours_0 (Nat.le_of_ble_eq_true rfl) ?_; simp only [mArg_nil, mArg_I, mArg_L, mArg_A, Nat.reduceAdd])
  simp only [↓w_X9_isHours_0, ↓b_callS3_1, ↓b_iconst, ↓b_iload_n, ↓b_sipush, ↓b_zret, ↓ldI_hit, ↓ldI_skip, ↓ldL_hit, ↓ldL_skip, ↓ldA_hit, ↓ldA_skip, ↓ldelK_nil, ↓ldelK_hit, ↓ldelK_skipI, ↓ldelK_skipA, ↓ldelK_skipL, qP1_X9_isIn, ↓bI_b, bI_0, nnot, lget_hit, lget_skip, ldel_nil, ldel_hit, ldel_skipI, ldel_skipA, ldel_skipL, ldel2_nil, ldel2_hit, ldel2_hit2, ldel2_skipI, ldel2_skipA, ldel2_skipL, vc_0, mCat_nil, mCat_I, mCat_L, mCat_A, mRcv_A, mArg_nil, mArg_I, mArg_L, mArg_A, tsg, swt_nil, swt_cons, lkw_nil, lkw_cons, ↓reduceIte, Nat.reduceAdd, Nat.reduceEqDiff, Nat.reduceLeDiff, Nat.reduceMul, true_and, and_true, and_self, List.mem_cons, List.not_mem_nil, or_false, or_self, false_or, true_implies, false_implies, not_true_eq_false, not_false_eq_true, nI00, nI10, nI01, nI11, forall_const, implies_true]
  try simp (disch := omega) only [ixq, ixz, sb_in, sb_in0, upI_sb, upI_sb0, sb_out, nI_add, nI_mul, nI_subq, Nat.zero_add, forall_eq, u2_at, u2_row, upd_at, upd_ne, nI0b, nI1b, nI00, nI10, nI01, nI11, true_implies, false_implies, not_true_eq_false, not_false_eq_true, and_true, true_and, implies_true]
  exact hK
theorem c_X9_all {i : Nat} (hK : K (.inl (nI 1 <<< (μ.1 (i + 2) 1 &&& 31) - nI 1)) μ) : mMet X (h + 2) m_X9_all [.inr (.inr (8, 0, i))] μ K := by
  (refine vc_met2 P1_ok ok_X9_all cm_X9_all [] 6 t_X9_all_0 (Nat.le_of_ble_eq_true rfl) ?_; simp only [mArg_nil, mArg_I, mArg_L, mArg_A, Nat.reduceAdd])
  simp only [↓w_X9_all_0, ↓b_aload_n, ↓b_callV1_1, ↓b_iconst, ↓b_iret, ↓b_ishl, ↓b_isub, ↓ldI_hit, ↓ldI_skip, ↓ldL_hit, ↓ldL_skip, ↓ldA_hit, ↓ldA_skip, ↓ldelK_nil, ↓ldelK_hit, ↓ldelK_skipI, ↓ldelK_skipA, ↓ldelK_skipL, qP1_X9_works, ↓bI_b, bI_0, nnot, lget_hit, lget_skip, ldel_nil, ldel_hit, ldel_skipI, ldel_skipA, ldel_skipL, ldel2_nil, ldel2_hit, ldel2_hit2, ldel2_skipI, ldel2_skipA, ldel2_skipL, vc_0, mCat_nil, mCat_I, mCat_L, mCat_A, mRcv_A, mArg_nil, mArg_I, mArg_L, mArg_A, tsg, swt_nil, swt_cons, lkw_nil, lkw_cons, ↓reduceIte, Nat.reduceAdd, Nat.reduceEqDiff, Nat.reduceLeDiff, Nat.reduceMul, true_and, and_true, and_self, List.mem_cons, List.not_mem_nil, or_false, or_self, false_or, true_implies, false_implies, not_true_eq_false, not_false_eq_true, nI00, nI10, nI01, nI11, forall_const, implies_true]
  try simp (disch := omega) only [ixq, ixz, sb_in, sb_in0, upI_sb, upI_sb0, sb_out, nI_add, nI_mul, nI_subq, Nat.zero_add, forall_eq, u2_at, u2_row, upd_at, upd_ne, nI0b, nI1b, nI00, nI10, nI01, nI11, true_implies, false_implies, not_true_eq_false, not_false_eq_true, and_true, true_and, implies_true]
  exact hK
theorem c_X8_isSet {i : Nat} {s : Int32} (hK : K (.inl (bI (0 ≤ s ∧ s ≤ nI 1 <<< (μ.1 (i + 4) 1 &&& 31) - nI 1))) μ) : mMet X (h + 2) m_X8_isSet [.inr (.inr (7, 0, i)), .inl s] μ K := by
  (refine vc_met2 P1_ok ok_X8_isSet cm_X8_isSet [] 6 t_X8_isSet_0 (Nat.le_of_ble_eq_true rfl) ?_; simp only [mArg_nil, mArg_I, mArg_L, mArg_A, Nat.reduceAdd])
  simp only [↓w_X8_isSet_0, ↓w_X8_isSet_19, ↓w_X8_isSet_20, ↓v_X8_isSet_19, ↓v_X8_isSet_20, ↓b_aload_n, ↓b_callV1_1, ↓b_getA, ↓b_goto, ↓b_ic_gt, ↓b_iconst, ↓b_if_lt, ↓b_iload_n, ↓b_zret, ↓ldI_hit, ↓ldI_skip, ↓ldL_hit, ↓ldL_skip, ↓ldA_hit, ↓ldA_skip, ↓ldelK_nil, ↓ldelK_hit, ↓ldelK_skipI, ↓ldelK_skipA, ↓ldelK_skipL, qP1_X0_allWorks, ↓bI_b, bI_0, nnot, lget_hit, lget_skip, ldel_nil, ldel_hit, ldel_skipI, ldel_skipA, ldel_skipL, ldel2_nil, ldel2_hit, ldel2_hit2, ldel2_skipI, ldel2_skipA, ldel2_skipL, vc_0, mCat_nil, mCat_I, mCat_L, mCat_A, mRcv_A, mArg_nil, mArg_I, mArg_L, mArg_A, tsg, swt_nil, swt_cons, lkw_nil, lkw_cons, ↓reduceIte, Nat.reduceAdd, Nat.reduceEqDiff, Nat.reduceLeDiff, Nat.reduceMul, true_and, and_true, and_self, List.mem_cons, List.not_mem_nil, or_false, or_self, false_or, true_implies, false_implies, not_true_eq_false, not_false_eq_true, nI00, nI10, nI01, nI11, forall_const, implies_true]
  try simp (disch := omega) only [ixq, ixz, sb_in, sb_in0, upI_sb, upI_sb0, sb_out, nI_add, nI_mul, nI_subq, Nat.zero_add, forall_eq, u2_at, u2_row, upd_at, upd_ne, nI0b, nI1b, nI00, nI10, nI01, nI11, true_implies, false_implies, not_true_eq_false, not_false_eq_true, and_true, true_and, implies_true]
  refine ⟨fun hc => ?_, fun hc => ⟨fun hc2 => ?_, fun hc2 => ?_⟩⟩
  · rw [bI_f (fun z => absurd z.1 (Int32.not_le.mpr hc))] at hK; exact hK
  · rw [bI_f (fun z => absurd hc2 (Int32.not_lt.mpr z.2))] at hK; exact hK
  · rw [bI_t (⟨Int32.not_lt.mp hc, Int32.not_lt.mp hc2⟩)] at hK; exact hK
end
def pf_X9_isWork (a : List MV) (μ : Mem) : Option MV := match a with | [.inr (.inr (8, 0, i)), .inl w] => some (.inl (bI (0 ≤ w ∧ w < μ.1 (i + 2) 1))) | _ => none
def pf_X9_isGood (a : List MV) (μ : Mem) : Option MV := match a with | [.inr (.inr (8, 0, i)), .inl w] => some (.inl (bI (0 ≤ w ∧ w < μ.1 (i + 2) 0))) | _ => none
def pf_X9_isSet (a : List MV) (μ : Mem) : Option MV := match a with | [.inr (.inr (8, 0, i)), .inl s] => some (.inl (bI (0 ≤ s ∧ s < nI 1 <<< (μ.1 (i + 2) 1 &&& 31)))) | _ => none
def pf_X9_isHours (a : List MV) (μ : Mem) : Option MV := match a with | [.inl n] => some (.inl (bI (nI 1 ≤ n ∧ n ≤ nI 200))) | _ => none
def pf_X9_all (a : List MV) (μ : Mem) : Option MV := match a with | [.inr (.inr (8, 0, i))] => some (.inl (nI 1 <<< (μ.1 (i + 2) 1 &&& 31) - nI 1)) | _ => none
def pf_X8_isSet (a : List MV) (μ : Mem) : Option MV := match a with | [.inr (.inr (7, 0, i)), .inl s] => some (.inl (bI (0 ≤ s ∧ s ≤ nI 1 <<< (μ.1 (i + 4) 1 &&& 31) - nI 1))) | _ => none
def P2 : mP := pc m_X9_isIn pf_X9_isIn (pc m_X9_has pf_X9_has (pc m_X9_less pf_X9_less (pc m_X9_cell pf_X9_cell (pc m_X9_isDigit pf_X9_isDigit (pc m_X9_isLetter pf_X9_isLetter (pc m_X9_works pf_X9_works (pc m_X9_goods pf_X9_goods (pc m_X9_isRun pf_X9_isRun (pc m_X9_isSign pf_X9_isSign (pc m_X9_thrown pf_X9_thrown (pc m_X0_allWorks pf_X0_allWorks (pc m_X8_isWork pf_X8_isWork (pc m_X8_isGood pf_X8_isGood (pc m_X8_areHours pf_X8_areHours (pc m_X8_isRunning pf_X8_isRunning (pc m_X9_isWork pf_X9_isWork (pc m_X9_isGood pf_X9_isGood (pc m_X9_isSet pf_X9_isSet (pc m_X9_isHours pf_X9_isHours (pc m_X9_all pf_X9_all (pc m_X8_isSet pf_X8_isSet (P0))))))))))))))))))))))
theorem P2_ok {X : mC} {h : Nat} : mPok X P2 (h + 2) := (pc_ok (fun a μ r hr K hK => by unfold pf_X9_isIn at hr; split at hr <;> cases hr; exact c_X9_isIn (h := h + 1) hK) (pc_ok (fun a μ r hr K hK => by unfold pf_X9_has at hr; split at hr <;> cases hr; exact c_X9_has (h := h + 1) hK) (pc_ok (fun a μ r hr K hK => by unfold pf_X9_less at hr; split at hr <;> cases hr; exact c_X9_less (h := h + 1) hK) (pc_ok (fun a μ r hr K hK => by unfold pf_X9_cell at hr; split at hr <;> cases hr; exact c_X9_cell (h := h + 1) hK) (pc_ok (fun a μ r hr K hK => by unfold pf_X9_isDigit at hr; split at hr <;> cases hr; exact c_X9_isDigit (h := h + 1) hK) (pc_ok (fun a μ r hr K hK => by unfold pf_X9_isLetter at hr; split at hr <;> cases hr; exact c_X9_isLetter (h := h + 1) hK) (pc_ok (fun a μ r hr K hK => by unfold pf_X9_works at hr; split at hr <;> cases hr; exact c_X9_works (h := h + 1) hK) (pc_ok (fun a μ r hr K hK => by unfold pf_X9_goods at hr; split at hr <;> cases hr; exact c_X9_goods (h := h + 1) hK) (pc_ok (fun a μ r hr K hK => by unfold pf_X9_isRun at hr; split at hr <;> cases hr; exact c_X9_isRun (h := h + 1) hK) (pc_ok (fun a μ r hr K hK => by unfold pf_X9_isSign at hr; split at hr <;> cases hr; exact c_X9_isSign (h := h + 1) hK) (pc_ok (fun a μ r hr K hK => by unfold pf_X9_thrown at hr; split at hr <;> cases hr; exact c_X9_thrown (h := h + 1) hK) (pc_ok (fun a μ r hr K hK => by unfold pf_X0_allWorks at hr; split at hr <;> cases hr; exact c_X0_allWorks (h := h + 1) hK) (pc_ok (fun a μ r hr K hK => by unfold pf_X8_isWork at hr; split at hr <;> cases hr; exact c_X8_isWork (h := h + 1) hK) (pc_ok (fun a μ r hr K hK => by unfold pf_X8_isGood at hr; split at hr <;> cases hr; exact c_X8_isGood (h := h + 1) hK) (pc_ok (fun a μ r hr K hK => by unfold pf_X8_areHours at hr; split at hr <;> cases hr; exact c_X8_areHours (h := h + 1) hK) (pc_ok (fun a μ r hr K hK => by unfold pf_X8_isRunning at hr; split at hr <;> cases hr; exact c_X8_isRunning (h := h + 1) hK) (pc_ok (fun a μ r hr K hK => by unfold pf_X9_isWork at hr; split at hr <;> cases hr; exact c_X9_isWork (h := h + 0) hK) (pc_ok (fun a μ r hr K hK => by unfold pf_X9_isGood at hr; split at hr <;> cases hr; exact c_X9_isGood (h := h + 0) hK) (pc_ok (fun a μ r hr K hK => by unfold pf_X9_isSet at hr; split at hr <;> cases hr; exact c_X9_isSet (h := h + 0) hK) (pc_ok (fun a μ r hr K hK => by unfold pf_X9_isHours at hr; split at hr <;> cases hr; exact c_X9_isHours (h := h + 0) hK) (pc_ok (fun a μ r hr K hK => by unfold pf_X9_all at hr; split at hr <;> cases hr; exact c_X9_all (h := h + 0) hK) (pc_ok (fun a μ r hr K hK => by unfold pf_X8_isSet at hr; split at hr <;> cases hr; exact c_X8_isSet (h := h + 0) hK) P0_ok))))))))))))))))))))))
section
variable {X : mC} {h : Nat} {K : MV → Mem → Prop} {μ : Mem}
theorem qP2_J6_bitCount_0f7a4 {a : List MV} : mCall X P2 h m_J6_bitCount_0f7a4 a μ K = mMet X h m_J6_bitCount_0f7a4 a μ K := rfl
theorem qP2_J7_fill_53178 {a : List MV} : mCall X P2 h m_J7_fill_53178 a μ K = mMet X h m_J7_fill_53178 a μ K := rfl
theorem qP2_X0_allWorks {i : Nat} : mCall X P2 h m_X0_allWorks [.inr (.inr (0, 0, i))] μ K = K (.inl (nI 1 <<< (μ.1 i 1 &&& 31) - nI 1)) μ := mCall_some rfl
theorem qP2_X0_clear {a : List MV} : mCall X P2 h m_X0_clear a μ K = mMet X h m_X0_clear a μ K := rfl
theorem qP2_X0_copyFrom {a : List MV} : mCall X P2 h m_X0_copyFrom a μ K = mMet X h m_X0_copyFrom a μ K := rfl
theorem qP2_X0_exchange {a : List MV} : mCall X P2 h m_X0_exchange a μ K = mMet X h m_X0_exchange a μ K := rfl
theorem qP2_X0_exchangeWithNext {a : List MV} : mCall X P2 h m_X0_exchangeWithNext a μ K = mMet X h m_X0_exchangeWithNext a μ K := rfl
theorem qP2_X0_findGood {a : List MV} : mCall X P2 h m_X0_findGood a μ K = mMet X h m_X0_findGood a μ K := rfl
theorem qP2_X0_findWork {a : List MV} : mCall X P2 h m_X0_findWork a μ K = mMet X h m_X0_findWork a μ K := rfl
theorem qP2_X0_goodNamed {a : List MV} : mCall X P2 h m_X0_goodNamed a μ K = mMet X h m_X0_goodNamed a μ K := rfl
theorem qP2_X0_isNewName {a : List MV} : mCall X P2 h m_X0_isNewName a μ K = mMet X h m_X0_isNewName a μ K := rfl
theorem qP2_X0_readAmount {a : List MV} : mCall X P2 h m_X0_readAmount a μ K = mMet X h m_X0_readAmount a μ K := rfl
theorem qP2_X0_readFrom {a : List MV} : mCall X P2 h m_X0_readFrom a μ K = mMet X h m_X0_readFrom a μ K := rfl
theorem qP2_X0_readGood {a : List MV} : mCall X P2 h m_X0_readGood a μ K = mMet X h m_X0_readGood a μ K := rfl
theorem qP2_X0_readJoined {a : List MV} : mCall X P2 h m_X0_readJoined a μ K = mMet X h m_X0_readJoined a μ K := rfl
theorem qP2_X0_readLine {a : List MV} : mCall X P2 h m_X0_readLine a μ K = mMet X h m_X0_readLine a μ K := rfl
theorem qP2_X0_readMakes {a : List MV} : mCall X P2 h m_X0_readMakes a μ K = mMet X h m_X0_readMakes a μ K := rfl
theorem qP2_X0_readNew {a : List MV} : mCall X P2 h m_X0_readNew a μ K = mMet X h m_X0_readNew a μ K := rfl
theorem qP2_X0_readTakes {a : List MV} : mCall X P2 h m_X0_readTakes a μ K = mMet X h m_X0_readTakes a μ K := rfl
theorem qP2_X0_readWork {a : List MV} : mCall X P2 h m_X0_readWork a μ K = mMet X h m_X0_readWork a μ K := rfl
theorem qP2_X0_takeCell {a : List MV} : mCall X P2 h m_X0_takeCell a μ K = mMet X h m_X0_takeCell a μ K := rfl
theorem qP2_X0_workNamed {a : List MV} : mCall X P2 h m_X0_workNamed a μ K = mMet X h m_X0_workNamed a μ K := rfl
theorem qP2_X3_bringAll {a : List MV} : mCall X P2 h m_X3_bringAll a μ K = mMet X h m_X3_bringAll a μ K := rfl
theorem qP2_X3_clear {a : List MV} : mCall X P2 h m_X3_clear a μ K = mMet X h m_X3_clear a μ K := rfl
theorem qP2_X3_copyFrom {a : List MV} : mCall X P2 h m_X3_copyFrom a μ K = mMet X h m_X3_copyFrom a μ K := rfl
theorem qP2_X3_readBring {a : List MV} : mCall X P2 h m_X3_readBring a μ K = mMet X h m_X3_readBring a μ K := rfl
theorem qP2_X3_readFrom {a : List MV} : mCall X P2 h m_X3_readFrom a μ K = mMet X h m_X3_readFrom a μ K := rfl
theorem qP2_X3_readLine {a : List MV} : mCall X P2 h m_X3_readLine a μ K = mMet X h m_X3_readLine a μ K := rfl
theorem qP2_X3_readStop {a : List MV} : mCall X P2 h m_X3_readStop a μ K = mMet X h m_X3_readStop a μ K := rfl
theorem qP2_X3_stoppedAt {a : List MV} : mCall X P2 h m_X3_stoppedAt a μ K = mMet X h m_X3_stoppedAt a μ K := rfl
theorem qP2_X4_allGo {a : List MV} : mCall X P2 h m_X4_allGo a μ K = mMet X h m_X4_allGo a μ K := rfl
theorem qP2_X4_bring {a : List MV} : mCall X P2 h m_X4_bring a μ K = mMet X h m_X4_bring a μ K := rfl
theorem qP2_X4_comeToWork {a : List MV} : mCall X P2 h m_X4_comeToWork a μ K = mMet X h m_X4_comeToWork a μ K := rfl
theorem qP2_X4_copyFrom {a : List MV} : mCall X P2 h m_X4_copyFrom a μ K = mMet X h m_X4_copyFrom a μ K := rfl
theorem qP2_X4_goOnce {a : List MV} : mCall X P2 h m_X4_goOnce a μ K = mMet X h m_X4_goOnce a μ K := rfl
theorem qP2_X4_hasAll {a : List MV} : mCall X P2 h m_X4_hasAll a μ K = mMet X h m_X4_hasAll a μ K := rfl
theorem qP2_X4_inVats {a : List MV} : mCall X P2 h m_X4_inVats a μ K = mMet X h m_X4_inVats a μ K := rfl
theorem qP2_X4_isLike {a : List MV} : mCall X P2 h m_X4_isLike a μ K = mMet X h m_X4_isLike a μ K := rfl
theorem qP2_X4_isSteady {a : List MV} : mCall X P2 h m_X4_isSteady a μ K = mMet X h m_X4_isSteady a μ K := rfl
theorem qP2_X4_lessen {a : List MV} : mCall X P2 h m_X4_lessen a μ K = mMet X h m_X4_lessen a μ K := rfl
theorem qP2_X4_letOut {a : List MV} : mCall X P2 h m_X4_letOut a μ K = mMet X h m_X4_letOut a μ K := rfl
theorem qP2_X4_loseOnWay {a : List MV} : mCall X P2 h m_X4_loseOnWay a μ K = mMet X h m_X4_loseOnWay a μ K := rfl
theorem qP2_X4_pass {a : List MV} : mCall X P2 h m_X4_pass a μ K = mMet X h m_X4_pass a μ K := rfl
theorem qP2_X4_passMany {a : List MV} : mCall X P2 h m_X4_passMany a μ K = mMet X h m_X4_passMany a μ K := rfl
theorem qP2_X4_startAsTold {a : List MV} : mCall X P2 h m_X4_startAsTold a μ K = mMet X h m_X4_startAsTold a μ K := rfl
theorem qP2_X4_startEmpty {a : List MV} : mCall X P2 h m_X4_startEmpty a μ K = mMet X h m_X4_startEmpty a μ K := rfl
theorem qP2_X4_startKindled {a : List MV} : mCall X P2 h m_X4_startKindled a μ K = mMet X h m_X4_startKindled a μ K := rfl
theorem qP2_X4_total {a : List MV} : mCall X P2 h m_X4_total a μ K = mMet X h m_X4_total a μ K := rfl
theorem qP2_X4_wentLately {a : List MV} : mCall X P2 h m_X4_wentLately a μ K = mMet X h m_X4_wentLately a μ K := rfl
theorem qP2_X5_addStep {a : List MV} : mCall X P2 h m_X5_addStep a μ K = mMet X h m_X5_addStep a μ K := rfl
theorem qP2_X5_clear {a : List MV} : mCall X P2 h m_X5_clear a μ K = mMet X h m_X5_clear a μ K := rfl
theorem qP2_X5_compares {a : List MV} : mCall X P2 h m_X5_compares a μ K = mMet X h m_X5_compares a μ K := rfl
theorem qP2_X5_copyFrom {a : List MV} : mCall X P2 h m_X5_copyFrom a μ K = mMet X h m_X5_copyFrom a μ K := rfl
theorem qP2_X5_isStepTrueOf {a : List MV} : mCall X P2 h m_X5_isStepTrueOf a μ K = mMet X h m_X5_isStepTrueOf a μ K := rfl
theorem qP2_X5_isTrueOf {a : List MV} : mCall X P2 h m_X5_isTrueOf a μ K = mMet X h m_X5_isTrueOf a μ K := rfl
theorem qP2_X5_readAll {a : List MV} : mCall X P2 h m_X5_readAll a μ K = mMet X h m_X5_readAll a μ K := rfl
theorem qP2_X5_readComparison {a : List MV} : mCall X P2 h m_X5_readComparison a μ K = mMet X h m_X5_readComparison a μ K := rfl
theorem qP2_X5_readCondition {a : List MV} : mCall X P2 h m_X5_readCondition a μ K = mMet X h m_X5_readCondition a μ K := rfl
theorem qP2_X5_readFrom {a : List MV} : mCall X P2 h m_X5_readFrom a μ K = mMet X h m_X5_readFrom a μ K := rfl
theorem qP2_X5_readNamed {a : List MV} : mCall X P2 h m_X5_readNamed a μ K = mMet X h m_X5_readNamed a μ K := rfl
theorem qP2_X5_readOne {a : List MV} : mCall X P2 h m_X5_readOne a μ K = mMet X h m_X5_readOne a μ K := rfl
theorem qP2_X6_advance {a : List MV} : mCall X P2 h m_X6_advance a μ K = mMet X h m_X6_advance a μ K := rfl
theorem qP2_X6_fail {a : List MV} : mCall X P2 h m_X6_fail a μ K = mMet X h m_X6_fail a μ K := rfl
theorem qP2_X6_hasRoomForFive {a : List MV} : mCall X P2 h m_X6_hasRoomForFive a μ K = mMet X h m_X6_hasRoomForFive a μ K := rfl
theorem qP2_X6_isComparing {a : List MV} : mCall X P2 h m_X6_isComparing a μ K = mMet X h m_X6_isComparing a μ K := rfl
theorem qP2_X6_isName {a : List MV} : mCall X P2 h m_X6_isName a μ K = mMet X h m_X6_isName a μ K := rfl
theorem qP2_X6_isThisSign {a : List MV} : mCall X P2 h m_X6_isThisSign a μ K = mMet X h m_X6_isThisSign a μ K := rfl
theorem qP2_X6_openText {a : List MV} : mCall X P2 h m_X6_openText a μ K = mMet X h m_X6_openText a μ K := rfl
theorem qP2_X6_putNumber {a : List MV} : mCall X P2 h m_X6_putNumber a μ K = mMet X h m_X6_putNumber a μ K := rfl
theorem qP2_X6_readToken {a : List MV} : mCall X P2 h m_X6_readToken a μ K = mMet X h m_X6_readToken a μ K := rfl
theorem qP2_X6_takeNumber {a : List MV} : mCall X P2 h m_X6_takeNumber a μ K = mMet X h m_X6_takeNumber a μ K := rfl
theorem qP2_X6_takeSign {a : List MV} : mCall X P2 h m_X6_takeSign a μ K = mMet X h m_X6_takeSign a μ K := rfl
theorem qP2_X7_putByte {a : List MV} : mCall X P2 h m_X7_putByte a μ K = mMet X h m_X7_putByte a μ K := rfl
theorem qP2_X7_putName {a : List MV} : mCall X P2 h m_X7_putName a μ K = mMet X h m_X7_putName a μ K := rfl
theorem qP2_X7_putNumber {a : List MV} : mCall X P2 h m_X7_putNumber a μ K = mMet X h m_X7_putNumber a μ K := rfl
theorem qP2_X8_again {a : List MV} : mCall X P2 h m_X8_again a μ K = mMet X h m_X8_again a μ K := rfl
theorem qP2_X8_areHours {n : Int32} : mCall X P2 h m_X8_areHours [.inl n] μ K = K (.inl (bI (nI 1 ≤ n ∧ n ≤ nI 200))) μ := mCall_some rfl
theorem qP2_X8_at {a : List MV} : mCall X P2 h m_X8_at a μ K = mMet X h m_X8_at a μ K := rfl
theorem qP2_X8_begin {a : List MV} : mCall X P2 h m_X8_begin a μ K = mMet X h m_X8_begin a μ K := rfl
theorem qP2_X8_brook {a : List MV} : mCall X P2 h m_X8_brook a μ K = mMet X h m_X8_brook a μ K := rfl
theorem qP2_X8_by {a : List MV} : mCall X P2 h m_X8_by a μ K = mMet X h m_X8_by a μ K := rfl
theorem qP2_X8_byteAt {a : List MV} : mCall X P2 h m_X8_byteAt a μ K = mMet X h m_X8_byteAt a μ K := rfl
theorem qP2_X8_closeTape {a : List MV} : mCall X P2 h m_X8_closeTape a μ K = mMet X h m_X8_closeTape a μ K := rfl
theorem qP2_X8_comes {a : List MV} : mCall X P2 h m_X8_comes a μ K = mMet X h m_X8_comes a μ K := rfl
theorem qP2_X8_commonDivisor {a : List MV} : mCall X P2 h m_X8_commonDivisor a μ K = mMet X h m_X8_commonDivisor a μ K := rfl
theorem qP2_X8_count {a : List MV} : mCall X P2 h m_X8_count a μ K = mMet X h m_X8_count a μ K := rfl
theorem qP2_X8_countTold {a : List MV} : mCall X P2 h m_X8_countTold a μ K = mMet X h m_X8_countTold a μ K := rfl
theorem qP2_X8_dry {a : List MV} : mCall X P2 h m_X8_dry a μ K = mMet X h m_X8_dry a μ K := rfl
theorem qP2_X8_end {a : List MV} : mCall X P2 h m_X8_end a μ K = mMet X h m_X8_end a μ K := rfl
theorem qP2_X8_exchanged {a : List MV} : mCall X P2 h m_X8_exchanged a μ K = mMet X h m_X8_exchanged a μ K := rfl
theorem qP2_X8_falls {a : List MV} : mCall X P2 h m_X8_falls a μ K = mMet X h m_X8_falls a μ K := rfl
theorem qP2_X8_fault {a : List MV} : mCall X P2 h m_X8_fault a μ K = mMet X h m_X8_fault a μ K := rfl
theorem qP2_X8_fed {a : List MV} : mCall X P2 h m_X8_fed a μ K = mMet X h m_X8_fed a μ K := rfl
theorem qP2_X8_feed {a : List MV} : mCall X P2 h m_X8_feed a μ K = mMet X h m_X8_feed a μ K := rfl
theorem qP2_X8_firstHourOfPeriod {a : List MV} : mCall X P2 h m_X8_firstHourOfPeriod a μ K = mMet X h m_X8_firstHourOfPeriod a μ K := rfl
theorem qP2_X8_firstOf {a : List MV} : mCall X P2 h m_X8_firstOf a μ K = mMet X h m_X8_firstOf a μ K := rfl
theorem qP2_X8_goes {a : List MV} : mCall X P2 h m_X8_goes a μ K = mMet X h m_X8_goes a μ K := rfl
theorem qP2_X8_goodsOf {a : List MV} : mCall X P2 h m_X8_goodsOf a μ K = mMet X h m_X8_goodsOf a μ K := rfl
theorem qP2_X8_greatest {a : List MV} : mCall X P2 h m_X8_greatest a μ K = mMet X h m_X8_greatest a μ K := rfl
theorem qP2_X8_greatestOf {a : List MV} : mCall X P2 h m_X8_greatestOf a μ K = mMet X h m_X8_greatestOf a μ K := rfl
theorem qP2_X8_hour {a : List MV} : mCall X P2 h m_X8_hour a μ K = mMet X h m_X8_hour a μ K := rfl
theorem qP2_X8_image {a : List MV} : mCall X P2 h m_X8_image a μ K = mMet X h m_X8_image a μ K := rfl
theorem qP2_X8_isGood {i : Nat} {w : Int32} : mCall X P2 h m_X8_isGood [.inr (.inr (7, 0, i)), .inl w] μ K = K (.inl (bI (0 ≤ w ∧ w < μ.1 (i + 4) 0))) μ := mCall_some rfl
theorem qP2_X8_isRunning {i : Nat} : mCall X P2 h m_X8_isRunning [.inr (.inr (7, 0, i))] μ K = K (.inl (bI (¬ μ.1 (i + 50) 0 = -1))) μ := mCall_some rfl
theorem qP2_X8_isSet {i : Nat} {s : Int32} : mCall X P2 h m_X8_isSet [.inr (.inr (7, 0, i)), .inl s] μ K = K (.inl (bI (0 ≤ s ∧ s ≤ nI 1 <<< (μ.1 (i + 4) 1 &&& 31) - nI 1))) μ := mCall_some rfl
theorem qP2_X8_isVatOfRun {a : List MV} : mCall X P2 h m_X8_isVatOfRun a μ K = mMet X h m_X8_isVatOfRun a μ K := rfl
theorem qP2_X8_isWork {i : Nat} {w : Int32} : mCall X P2 h m_X8_isWork [.inr (.inr (7, 0, i)), .inl w] μ K = K (.inl (bI (0 ≤ w ∧ w < μ.1 (i + 4) 1))) μ := mCall_some rfl
theorem qP2_X8_kept {a : List MV} : mCall X P2 h m_X8_kept a μ K = mMet X h m_X8_kept a μ K := rfl
theorem qP2_X8_kindle {a : List MV} : mCall X P2 h m_X8_kindle a μ K = mMet X h m_X8_kindle a μ K := rfl
theorem qP2_X8_kindled {a : List MV} : mCall X P2 h m_X8_kindled a μ K = mMet X h m_X8_kindled a μ K := rfl
theorem qP2_X8_lacks {a : List MV} : mCall X P2 h m_X8_lacks a μ K = mMet X h m_X8_lacks a μ K := rfl
theorem qP2_X8_longer {a : List MV} : mCall X P2 h m_X8_longer a μ K = mMet X h m_X8_longer a μ K := rfl
theorem qP2_X8_loss {a : List MV} : mCall X P2 h m_X8_loss a μ K = mMet X h m_X8_loss a μ K := rfl
theorem qP2_X8_made {a : List MV} : mCall X P2 h m_X8_made a μ K = mMet X h m_X8_made a μ K := rfl
theorem qP2_X8_madeAlone {a : List MV} : mCall X P2 h m_X8_madeAlone a μ K = mMet X h m_X8_madeAlone a μ K := rfl
theorem qP2_X8_needed {a : List MV} : mCall X P2 h m_X8_needed a μ K = mMet X h m_X8_needed a μ K := rfl
theorem qP2_X8_on {a : List MV} : mCall X P2 h m_X8_on a μ K = mMet X h m_X8_on a μ K := rfl
theorem qP2_X8_order {a : List MV} : mCall X P2 h m_X8_order a μ K = mMet X h m_X8_order a μ K := rfl
theorem qP2_X8_parts {a : List MV} : mCall X P2 h m_X8_parts a μ K = mMet X h m_X8_parts a μ K := rfl
theorem qP2_X8_periodAtEnd {a : List MV} : mCall X P2 h m_X8_periodAtEnd a μ K = mMet X h m_X8_periodAtEnd a μ K := rfl
theorem qP2_X8_plan {a : List MV} : mCall X P2 h m_X8_plan a μ K = mMet X h m_X8_plan a μ K := rfl
theorem qP2_X8_rest {a : List MV} : mCall X P2 h m_X8_rest a μ K = mMet X h m_X8_rest a μ K := rfl
theorem qP2_X8_restore {a : List MV} : mCall X P2 h m_X8_restore a μ K = mMet X h m_X8_restore a μ K := rfl
theorem qP2_X8_said {a : List MV} : mCall X P2 h m_X8_said a μ K = mMet X h m_X8_said a μ K := rfl
theorem qP2_X8_sentence {a : List MV} : mCall X P2 h m_X8_sentence a μ K = mMet X h m_X8_sentence a μ K := rfl
theorem qP2_X8_setWorth {a : List MV} : mCall X P2 h m_X8_setWorth a μ K = mMet X h m_X8_setWorth a μ K := rfl
theorem qP2_X8_sharesOf {a : List MV} : mCall X P2 h m_X8_sharesOf a μ K = mMet X h m_X8_sharesOf a μ K := rfl
theorem qP2_X8_steadies {a : List MV} : mCall X P2 h m_X8_steadies a μ K = mMet X h m_X8_steadies a μ K := rfl
theorem qP2_X8_steady {a : List MV} : mCall X P2 h m_X8_steady a μ K = mMet X h m_X8_steady a μ K := rfl
theorem qP2_X8_vat {a : List MV} : mCall X P2 h m_X8_vat a μ K = mMet X h m_X8_vat a μ K := rfl
theorem qP2_X8_went {a : List MV} : mCall X P2 h m_X8_went a μ K = mMet X h m_X8_went a μ K := rfl
theorem qP2_X8_wider {a : List MV} : mCall X P2 h m_X8_wider a μ K = mMet X h m_X8_wider a μ K := rfl
theorem qP2_X8_work {a : List MV} : mCall X P2 h m_X8_work a μ K = mMet X h m_X8_work a μ K := rfl
theorem qP2_X8_worth {a : List MV} : mCall X P2 h m_X8_worth a μ K = mMet X h m_X8_worth a μ K := rfl
theorem qP2_X8_worthOf {a : List MV} : mCall X P2 h m_X8_worthOf a μ K = mMet X h m_X8_worthOf a μ K := rfl
theorem qP2_X8_write {a : List MV} : mCall X P2 h m_X8_write a μ K = mMet X h m_X8_write a μ K := rfl
theorem qP2_X9_again {a : List MV} : mCall X P2 h m_X9_again a μ K = mMet X h m_X9_again a μ K := rfl
theorem qP2_X9_all {i : Nat} : mCall X P2 h m_X9_all [.inr (.inr (8, 0, i))] μ K = K (.inl (nI 1 <<< (μ.1 (i + 2) 1 &&& 31) - nI 1)) μ := mCall_some rfl
theorem qP2_X9_areLike {a : List MV} : mCall X P2 h m_X9_areLike a μ K = mMet X h m_X9_areLike a μ K := rfl
theorem qP2_X9_at {a : List MV} : mCall X P2 h m_X9_at a μ K = mMet X h m_X9_at a μ K := rfl
theorem qP2_X9_bad {a : List MV} : mCall X P2 h m_X9_bad a μ K = mMet X h m_X9_bad a μ K := rfl
theorem qP2_X9_begin {a : List MV} : mCall X P2 h m_X9_begin a μ K = mMet X h m_X9_begin a μ K := rfl
theorem qP2_X9_begin_ {a : List MV} : mCall X P2 h m_X9_begin_ a μ K = mMet X h m_X9_begin_ a μ K := rfl
theorem qP2_X9_bits {a : List MV} : mCall X P2 h m_X9_bits a μ K = mMet X h m_X9_bits a μ K := rfl
theorem qP2_X9_bring {a : List MV} : mCall X P2 h m_X9_bring a μ K = mMet X h m_X9_bring a μ K := rfl
theorem qP2_X9_brook {a : List MV} : mCall X P2 h m_X9_brook a μ K = mMet X h m_X9_brook a μ K := rfl
theorem qP2_X9_by {a : List MV} : mCall X P2 h m_X9_by a μ K = mMet X h m_X9_by a μ K := rfl
theorem qP2_X9_byteAt {a : List MV} : mCall X P2 h m_X9_byteAt a μ K = mMet X h m_X9_byteAt a μ K := rfl
theorem qP2_X9_cell {w g : Int32} : mCall X P2 h m_X9_cell [.inl w, .inl g] μ K = K (.inl (w * nI 6 + g)) μ := mCall_some rfl
theorem qP2_X9_change {a : List MV} : mCall X P2 h m_X9_change a μ K = mMet X h m_X9_change a μ K := rfl
theorem qP2_X9_come {a : List MV} : mCall X P2 h m_X9_come a μ K = mMet X h m_X9_come a μ K := rfl
theorem qP2_X9_comes {a : List MV} : mCall X P2 h m_X9_comes a μ K = mMet X h m_X9_comes a μ K := rfl
theorem qP2_X9_count {a : List MV} : mCall X P2 h m_X9_count a μ K = mMet X h m_X9_count a μ K := rfl
theorem qP2_X9_dry {a : List MV} : mCall X P2 h m_X9_dry a μ K = mMet X h m_X9_dry a μ K := rfl
theorem qP2_X9_end {a : List MV} : mCall X P2 h m_X9_end a μ K = mMet X h m_X9_end a μ K := rfl
theorem qP2_X9_exchanged {a : List MV} : mCall X P2 h m_X9_exchanged a μ K = mMet X h m_X9_exchanged a μ K := rfl
theorem qP2_X9_falls {a : List MV} : mCall X P2 h m_X9_falls a μ K = mMet X h m_X9_falls a μ K := rfl
theorem qP2_X9_fault {a : List MV} : mCall X P2 h m_X9_fault a μ K = mMet X h m_X9_fault a μ K := rfl
theorem qP2_X9_fed {a : List MV} : mCall X P2 h m_X9_fed a μ K = mMet X h m_X9_fed a μ K := rfl
theorem qP2_X9_feed {a : List MV} : mCall X P2 h m_X9_feed a μ K = mMet X h m_X9_feed a μ K := rfl
theorem qP2_X9_fill {a : List MV} : mCall X P2 h m_X9_fill a μ K = mMet X h m_X9_fill a μ K := rfl
theorem qP2_X9_findIn {a : List MV} : mCall X P2 h m_X9_findIn a μ K = mMet X h m_X9_findIn a μ K := rfl
theorem qP2_X9_go {a : List MV} : mCall X P2 h m_X9_go a μ K = mMet X h m_X9_go a μ K := rfl
theorem qP2_X9_goes {a : List MV} : mCall X P2 h m_X9_goes a μ K = mMet X h m_X9_goes a μ K := rfl
theorem qP2_X9_goes_ {a : List MV} : mCall X P2 h m_X9_goes_ a μ K = mMet X h m_X9_goes_ a μ K := rfl
theorem qP2_X9_goods {i : Nat} : mCall X P2 h m_X9_goods [.inr (.inr (8, 0, i))] μ K = K (.inl (μ.1 (i + 2) 0)) μ := mCall_some rfl
theorem qP2_X9_goodsIn {a : List MV} : mCall X P2 h m_X9_goodsIn a μ K = mMet X h m_X9_goodsIn a μ K := rfl
theorem qP2_X9_greatest {a : List MV} : mCall X P2 h m_X9_greatest a μ K = mMet X h m_X9_greatest a μ K := rfl
theorem qP2_X9_greatestOf {a : List MV} : mCall X P2 h m_X9_greatestOf a μ K = mMet X h m_X9_greatestOf a μ K := rfl
theorem qP2_X9_has {s k : Int32} : mCall X P2 h m_X9_has [.inl s, .inl k] μ K = K (.inl (bI (s >>> (k &&& 31) &&& nI 1 = nI 1))) μ := mCall_some rfl
theorem qP2_X9_holds {a : List MV} : mCall X P2 h m_X9_holds a μ K = mMet X h m_X9_holds a μ K := rfl
theorem qP2_X9_hour {a : List MV} : mCall X P2 h m_X9_hour a μ K = mMet X h m_X9_hour a μ K := rfl
theorem qP2_X9_hour_ {a : List MV} : mCall X P2 h m_X9_hour_ a μ K = mMet X h m_X9_hour_ a μ K := rfl
theorem qP2_X9_image {a : List MV} : mCall X P2 h m_X9_image a μ K = mMet X h m_X9_image a μ K := rfl
theorem qP2_X9_isDigit {c : Int32} : mCall X P2 h m_X9_isDigit [.inl c] μ K = K (.inl (bI (nI 48 ≤ c ∧ c ≤ nI 57))) μ := mCall_some rfl
theorem qP2_X9_isGood {i : Nat} {w : Int32} : mCall X P2 h m_X9_isGood [.inr (.inr (8, 0, i)), .inl w] μ K = K (.inl (bI (0 ≤ w ∧ w < μ.1 (i + 2) 0))) μ := mCall_some rfl
theorem qP2_X9_isHours {n : Int32} : mCall X P2 h m_X9_isHours [.inl n] μ K = K (.inl (bI (nI 1 ≤ n ∧ n ≤ nI 200))) μ := mCall_some rfl
theorem qP2_X9_isIn {v lo hi : Int32} : mCall X P2 h m_X9_isIn [.inl v, .inl lo, .inl hi] μ K = K (.inl (bI (lo ≤ v ∧ v ≤ hi))) μ := mCall_some rfl
theorem qP2_X9_isLetter {c : Int32} : mCall X P2 h m_X9_isLetter [.inl c] μ K = K (.inl (bI (nI 97 ≤ c ∧ c ≤ nI 122))) μ := mCall_some rfl
theorem qP2_X9_isName {a : List MV} : mCall X P2 h m_X9_isName a μ K = mMet X h m_X9_isName a μ K := rfl
theorem qP2_X9_isRun {i : Nat} : mCall X P2 h m_X9_isRun [.inr (.inr (8, 0, i))] μ K = K (.inl (bI (0 < μ.1 (i + 2) 621))) μ := mCall_some rfl
theorem qP2_X9_isSet {i : Nat} {s : Int32} : mCall X P2 h m_X9_isSet [.inr (.inr (8, 0, i)), .inl s] μ K = K (.inl (bI (0 ≤ s ∧ s < nI 1 <<< (μ.1 (i + 2) 1 &&& 31)))) μ := mCall_some rfl
theorem qP2_X9_isSign {i : Nat} {c : Int32} : mCall X P2 h m_X9_isSign [.inr (.inr (8, 0, i)), .inl c] μ K = K (.inl (bI (μ.1 i 7 = nI 4 ∧ μ.1 i 9 = c))) μ := mCall_some rfl
theorem qP2_X9_isSteady {a : List MV} : mCall X P2 h m_X9_isSteady a μ K = mMet X h m_X9_isSteady a μ K := rfl
theorem qP2_X9_isSteady_ {a : List MV} : mCall X P2 h m_X9_isSteady_ a μ K = mMet X h m_X9_isSteady_ a μ K := rfl
theorem qP2_X9_isStopped {a : List MV} : mCall X P2 h m_X9_isStopped a μ K = mMet X h m_X9_isStopped a μ K := rfl
theorem qP2_X9_isToldGood {a : List MV} : mCall X P2 h m_X9_isToldGood a μ K = mMet X h m_X9_isToldGood a μ K := rfl
theorem qP2_X9_isToldWork {a : List MV} : mCall X P2 h m_X9_isToldWork a μ K = mMet X h m_X9_isToldWork a μ K := rfl
theorem qP2_X9_isVat {a : List MV} : mCall X P2 h m_X9_isVat a μ K = mMet X h m_X9_isVat a μ K := rfl
theorem qP2_X9_isWord {a : List MV} : mCall X P2 h m_X9_isWord a μ K = mMet X h m_X9_isWord a μ K := rfl
theorem qP2_X9_isWork {i : Nat} {w : Int32} : mCall X P2 h m_X9_isWork [.inr (.inr (8, 0, i)), .inl w] μ K = K (.inl (bI (0 ≤ w ∧ w < μ.1 (i + 2) 1))) μ := mCall_some rfl
theorem qP2_X9_kept {a : List MV} : mCall X P2 h m_X9_kept a μ K = mMet X h m_X9_kept a μ K := rfl
theorem qP2_X9_kindle {a : List MV} : mCall X P2 h m_X9_kindle a μ K = mMet X h m_X9_kindle a μ K := rfl
theorem qP2_X9_kindled {a : List MV} : mCall X P2 h m_X9_kindled a μ K = mMet X h m_X9_kindled a μ K := rfl
theorem qP2_X9_kindles {a : List MV} : mCall X P2 h m_X9_kindles a μ K = mMet X h m_X9_kindles a μ K := rfl
theorem qP2_X9_lacks {a : List MV} : mCall X P2 h m_X9_lacks a μ K = mMet X h m_X9_lacks a μ K := rfl
theorem qP2_X9_layRule {a : List MV} : mCall X P2 h m_X9_layRule a μ K = mMet X h m_X9_layRule a μ K := rfl
theorem qP2_X9_layValues {a : List MV} : mCall X P2 h m_X9_layValues a μ K = mMet X h m_X9_layValues a μ K := rfl
theorem qP2_X9_lays {a : List MV} : mCall X P2 h m_X9_lays a μ K = mMet X h m_X9_lays a μ K := rfl
theorem qP2_X9_less {x y : Int32} : mCall X P2 h m_X9_less [.inl x, .inl y] μ K = K (.inl (if x < y then x else y)) μ := mCall_some rfl
theorem qP2_X9_longer {a : List MV} : mCall X P2 h m_X9_longer a μ K = mMet X h m_X9_longer a μ K := rfl
theorem qP2_X9_lose {a : List MV} : mCall X P2 h m_X9_lose a μ K = mMet X h m_X9_lose a μ K := rfl
theorem qP2_X9_loss {a : List MV} : mCall X P2 h m_X9_loss a μ K = mMet X h m_X9_loss a μ K := rfl
theorem qP2_X9_made {a : List MV} : mCall X P2 h m_X9_made a μ K = mMet X h m_X9_made a μ K := rfl
theorem qP2_X9_madeBy {a : List MV} : mCall X P2 h m_X9_madeBy a μ K = mMet X h m_X9_madeBy a μ K := rfl
theorem qP2_X9_madeIn {a : List MV} : mCall X P2 h m_X9_madeIn a μ K = mMet X h m_X9_madeIn a μ K := rfl
theorem qP2_X9_mayGo {a : List MV} : mCall X P2 h m_X9_mayGo a μ K = mMet X h m_X9_mayGo a μ K := rfl
theorem qP2_X9_needed {a : List MV} : mCall X P2 h m_X9_needed a μ K = mMet X h m_X9_needed a μ K := rfl
theorem qP2_X9_on {a : List MV} : mCall X P2 h m_X9_on a μ K = mMet X h m_X9_on a μ K := rfl
theorem qP2_X9_order {a : List MV} : mCall X P2 h m_X9_order a μ K = mMet X h m_X9_order a μ K := rfl
theorem qP2_X9_orders {a : List MV} : mCall X P2 h m_X9_orders a μ K = mMet X h m_X9_orders a μ K := rfl
theorem qP2_X9_parts {a : List MV} : mCall X P2 h m_X9_parts a μ K = mMet X h m_X9_parts a μ K := rfl
theorem qP2_X9_plan {a : List MV} : mCall X P2 h m_X9_plan a μ K = mMet X h m_X9_plan a μ K := rfl
theorem qP2_X9_put {a : List MV} : mCall X P2 h m_X9_put a μ K = mMet X h m_X9_put a μ K := rfl
theorem qP2_X9_putName {a : List MV} : mCall X P2 h m_X9_putName a μ K = mMet X h m_X9_putName a μ K := rfl
theorem qP2_X9_putNumber {a : List MV} : mCall X P2 h m_X9_putNumber a μ K = mMet X h m_X9_putNumber a μ K := rfl
theorem qP2_X9_readAct {a : List MV} : mCall X P2 h m_X9_readAct a μ K = mMet X h m_X9_readAct a μ K := rfl
theorem qP2_X9_readAnd {a : List MV} : mCall X P2 h m_X9_readAnd a μ K = mMet X h m_X9_readAnd a μ K := rfl
theorem qP2_X9_readBracket {a : List MV} : mCall X P2 h m_X9_readBracket a μ K = mMet X h m_X9_readBracket a μ K := rfl
theorem qP2_X9_readCell {a : List MV} : mCall X P2 h m_X9_readCell a μ K = mMet X h m_X9_readCell a μ K := rfl
theorem qP2_X9_readCompare {a : List MV} : mCall X P2 h m_X9_readCompare a μ K = mMet X h m_X9_readCompare a μ K := rfl
theorem qP2_X9_readEnd {a : List MV} : mCall X P2 h m_X9_readEnd a μ K = mMet X h m_X9_readEnd a μ K := rfl
theorem qP2_X9_readGood {a : List MV} : mCall X P2 h m_X9_readGood a μ K = mMet X h m_X9_readGood a μ K := rfl
theorem qP2_X9_readJoined {a : List MV} : mCall X P2 h m_X9_readJoined a μ K = mMet X h m_X9_readJoined a μ K := rfl
theorem qP2_X9_readLine {a : List MV} : mCall X P2 h m_X9_readLine a μ K = mMet X h m_X9_readLine a μ K := rfl
theorem qP2_X9_readMakes {a : List MV} : mCall X P2 h m_X9_readMakes a μ K = mMet X h m_X9_readMakes a μ K := rfl
theorem qP2_X9_readNamed {a : List MV} : mCall X P2 h m_X9_readNamed a μ K = mMet X h m_X9_readNamed a μ K := rfl
theorem qP2_X9_readNew {a : List MV} : mCall X P2 h m_X9_readNew a μ K = mMet X h m_X9_readNew a μ K := rfl
theorem qP2_X9_readNot {a : List MV} : mCall X P2 h m_X9_readNot a μ K = mMet X h m_X9_readNot a μ K := rfl
theorem qP2_X9_readNumber {a : List MV} : mCall X P2 h m_X9_readNumber a μ K = mMet X h m_X9_readNumber a μ K := rfl
theorem qP2_X9_readOne {a : List MV} : mCall X P2 h m_X9_readOne a μ K = mMet X h m_X9_readOne a μ K := rfl
theorem qP2_X9_readOr {a : List MV} : mCall X P2 h m_X9_readOr a μ K = mMet X h m_X9_readOr a μ K := rfl
theorem qP2_X9_readPlain {a : List MV} : mCall X P2 h m_X9_readPlain a μ K = mMet X h m_X9_readPlain a μ K := rfl
theorem qP2_X9_readTakes {a : List MV} : mCall X P2 h m_X9_readTakes a μ K = mMet X h m_X9_readTakes a μ K := rfl
theorem qP2_X9_readWork {a : List MV} : mCall X P2 h m_X9_readWork a μ K = mMet X h m_X9_readWork a μ K := rfl
theorem qP2_X9_refuse {a : List MV} : mCall X P2 h m_X9_refuse a μ K = mMet X h m_X9_refuse a μ K := rfl
theorem qP2_X9_rest {a : List MV} : mCall X P2 h m_X9_rest a μ K = mMet X h m_X9_rest a μ K := rfl
theorem qP2_X9_restore {a : List MV} : mCall X P2 h m_X9_restore a μ K = mMet X h m_X9_restore a μ K := rfl
theorem qP2_X9_run {a : List MV} : mCall X P2 h m_X9_run a μ K = mMet X h m_X9_run a μ K := rfl
theorem qP2_X9_said {a : List MV} : mCall X P2 h m_X9_said a μ K = mMet X h m_X9_said a μ K := rfl
theorem qP2_X9_sentence {a : List MV} : mCall X P2 h m_X9_sentence a μ K = mMet X h m_X9_sentence a μ K := rfl
theorem qP2_X9_spelt {a : List MV} : mCall X P2 h m_X9_spelt a μ K = mMet X h m_X9_spelt a μ K := rfl
theorem qP2_X9_start {a : List MV} : mCall X P2 h m_X9_start a μ K = mMet X h m_X9_start a μ K := rfl
theorem qP2_X9_steadies {a : List MV} : mCall X P2 h m_X9_steadies a μ K = mMet X h m_X9_steadies a μ K := rfl
theorem qP2_X9_steady {a : List MV} : mCall X P2 h m_X9_steady a μ K = mMet X h m_X9_steady a μ K := rfl
theorem qP2_X9_take {a : List MV} : mCall X P2 h m_X9_take a μ K = mMet X h m_X9_take a μ K := rfl
theorem qP2_X9_tapeAt {a : List MV} : mCall X P2 h m_X9_tapeAt a μ K = mMet X h m_X9_tapeAt a μ K := rfl
theorem qP2_X9_thrown {i : Nat} : mCall X P2 h m_X9_thrown [.inr (.inr (8, 0, i))] μ K = K (.inl (μ.1 i 0)) μ := mCall_some rfl
theorem qP2_X9_vat {a : List MV} : mCall X P2 h m_X9_vat a μ K = mMet X h m_X9_vat a μ K := rfl
theorem qP2_X9_went {a : List MV} : mCall X P2 h m_X9_went a μ K = mMet X h m_X9_went a μ K := rfl
theorem qP2_X9_wider {a : List MV} : mCall X P2 h m_X9_wider a μ K = mMet X h m_X9_wider a μ K := rfl
theorem qP2_X9_wordOf {a : List MV} : mCall X P2 h m_X9_wordOf a μ K = mMet X h m_X9_wordOf a μ K := rfl
theorem qP2_X9_work {a : List MV} : mCall X P2 h m_X9_work a μ K = mMet X h m_X9_work a μ K := rfl
theorem qP2_X9_works {i : Nat} : mCall X P2 h m_X9_works [.inr (.inr (8, 0, i))] μ K = K (.inl (μ.1 (i + 2) 1)) μ := mCall_some rfl
theorem qP2_X9_worth {a : List MV} : mCall X P2 h m_X9_worth a μ K = mMet X h m_X9_worth a μ K := rfl
theorem qP2_X9_worthOf {a : List MV} : mCall X P2 h m_X9_worthOf a μ K = mMet X h m_X9_worthOf a μ K := rfl
theorem qP2_X9_write {a : List MV} : mCall X P2 h m_X9_write a μ K = mMet X h m_X9_write a μ K := rfl
theorem qP2_L_law {a : List MV} : mCall X P2 h m_L_law a μ K = mMet X h m_L_law a μ K := rfl
end
def stF (x : Int32) (v : Int64) : Int64 := if x ≤ 0 then v else 27 * v + x.toInt64 - 96
def spF (a b c d e f : Int32) : Int64 := stF f (stF e (stF d (stF c (27 * (a.toInt64 - 96) + b.toInt64 - 96))))
theorem stF_p {x : Int32} {v : Int64} (h : x ≤ 0) : stF x v = v := if_pos h
theorem stF_n {x : Int32} {v : Int64} (h : ¬ x ≤ 0) : stF x v = 27 * v + x.toInt64 - 96 := if_neg h
def wdF (k : Int32) : Int64 :=
  if k = nI 0 then 149125 else
  if k = nI 1 then 464141 else
  if k = nI 2 then 10656676 else
  if k = nI 3 then 3913426 else
  if k = nI 4 then 6936589 else
  if k = nI 5 then 3290833 else
  if k = nI 6 then 151648177 else
  if k = nI 7 then 10502425 else
  if k = nI 8 then 38451313 else
  if k = nI 9 then 423 else
  if k = nI 10 then 1111 else
  if k = nI 11 then 10631 else
  if k = nI 12 then 12253591 else
  if k = nI 13 then 240400 else
  if k = nI 14 then 3376126 else
  if k = nI 15 then 456752 else
  if k = nI 16 then 10502383 else
  if k = nI 17 then 256721 else 8740067
section
variable {X : mC} {h : Nat} {K : MV → Mem → Prop} {μ : Mem}
theorem c_X9_spelt {a b c d e f : Int32} (hK : K (.inr (.inl (spF a b c d e f))) μ) : mMet X (h + 1) m_X9_spelt [.inl a, .inl b, .inl c, .inl d, .inl e, .inl f] μ K := by
  unfold spF at hK
  (refine vc_met2 P0_ok ok_X9_spelt cm_X9_spelt [] 8 t_X9_spelt_0 (Nat.le_of_ble_eq_true rfl) ?_; simp only [mArg_nil, mArg_I, mArg_L, mArg_A, Nat.reduceAdd])
  have s78 : ∀ (J : Nat) (ls : List (Nat × MV)) (v : Int64), K (.inr (.inl (stF f v))) μ → bb X P0 m_X9_spelt (h) K (vc X P0 m_X9_spelt (h) K k_X9_spelt [] (J + 2)) s_X9_spelt_78 [(6, .inr (.inl v)), (0, .inl a), (1, .inl b), (2, .inl c), (3, .inl d), (4, .inl e), (5, .inl f)] [] μ := by
    intro J ls v hv
    simp only [↓w_X9_spelt_0, ↓w_X9_spelt_38, ↓w_X9_spelt_57, ↓w_X9_spelt_78, ↓w_X9_spelt_100, ↓w_X9_spelt_102, ↓v_X9_spelt_38, ↓v_X9_spelt_57, ↓v_X9_spelt_78, ↓v_X9_spelt_100, ↓v_X9_spelt_102, ↓b_goto, ↓b_i2l, ↓b_if_le, ↓b_iload, ↓b_iload_n, ↓b_ladd, ↓b_ldc2_w, ↓b_lload, ↓b_lmul, ↓b_lret, ↓n_lstore, ↓b_lsub, ↓ldI_hit, ↓ldI_skip, ↓ldL_hit, ↓ldL_skip, ↓ldA_hit, ↓ldA_skip, ↓ldelK_nil, ↓ldelK_hit, ↓ldelK_skipI, ↓ldelK_skipA, ↓ldelK_skipL, ↓ldel2K_nil, ↓ldel2K_hit, ↓ldel2K_hit2, ↓ldel2K_skipI, ↓ldel2K_skipA, ↓ldel2K_skipL, lget_hit, lget_skip, ldel_nil, ldel_hit, ldel_skipI, ldel_skipA, ldel_skipL, ldel2_nil, ldel2_hit, ldel2_hit2, ldel2_skipI, ldel2_skipA, ldel2_skipL, vc_0, mCall_P0, mCat_nil, mCat_I, mCat_L, mCat_A, mRcv_A, mArg_nil, mArg_I, mArg_L, mArg_A, tsg, swt_nil, swt_cons, lkw_nil, lkw_cons, ↓reduceIte, Nat.reduceAdd, Nat.reduceEqDiff, Nat.reduceLeDiff, Nat.reduceMul, true_and, and_true, and_self, List.mem_cons, List.not_mem_nil, or_false, or_self, false_or, true_implies, false_implies, not_true_eq_false, not_false_eq_true, nI00, nI10, nI01, nI11, forall_const, implies_true]
    refine ⟨fun hc => ?_, fun hc => ?_⟩
    · rw [stF_p hc] at hv; exact hv
    · rw [stF_n hc] at hv; exact hv
  have s57 : ∀ (J : Nat) (ls : List (Nat × MV)) (v : Int64), K (.inr (.inl (stF f (stF e v)))) μ → bb X P0 m_X9_spelt (h) K (vc X P0 m_X9_spelt (h) K k_X9_spelt [] (J + 3)) s_X9_spelt_57 [(6, .inr (.inl v)), (0, .inl a), (1, .inl b), (2, .inl c), (3, .inl d), (4, .inl e), (5, .inl f)] [] μ := by
    intro J ls v hv
    simp only [↓w_X9_spelt_0, ↓w_X9_spelt_38, ↓w_X9_spelt_57, ↓w_X9_spelt_100, ↓w_X9_spelt_102, ↓v_X9_spelt_38, ↓v_X9_spelt_57, ↓v_X9_spelt_78, ↓v_X9_spelt_100, ↓v_X9_spelt_102, ↓b_goto, ↓b_i2l, ↓b_if_le, ↓b_iload, ↓b_iload_n, ↓b_ladd, ↓b_ldc2_w, ↓b_lload, ↓b_lmul, ↓b_lret, ↓n_lstore, ↓b_lsub, ↓ldI_hit, ↓ldI_skip, ↓ldL_hit, ↓ldL_skip, ↓ldA_hit, ↓ldA_skip, ↓ldelK_nil, ↓ldelK_hit, ↓ldelK_skipI, ↓ldelK_skipA, ↓ldelK_skipL, ↓ldel2K_nil, ↓ldel2K_hit, ↓ldel2K_hit2, ↓ldel2K_skipI, ↓ldel2K_skipA, ↓ldel2K_skipL, lget_hit, lget_skip, ldel_nil, ldel_hit, ldel_skipI, ldel_skipA, ldel_skipL, ldel2_nil, ldel2_hit, ldel2_hit2, ldel2_skipI, ldel2_skipA, ldel2_skipL, vc_0, mCall_P0, mCat_nil, mCat_I, mCat_L, mCat_A, mRcv_A, mArg_nil, mArg_I, mArg_L, mArg_A, tsg, swt_nil, swt_cons, lkw_nil, lkw_cons, ↓reduceIte, Nat.reduceAdd, Nat.reduceEqDiff, Nat.reduceLeDiff, Nat.reduceMul, true_and, and_true, and_self, List.mem_cons, List.not_mem_nil, or_false, or_self, false_or, true_implies, false_implies, not_true_eq_false, not_false_eq_true, nI00, nI10, nI01, nI11, forall_const, implies_true]
    refine ⟨fun hc => ?_, fun hc => ?_⟩
    · rw [stF_p hc] at hv; exact s78 J [] v hv
    · rw [stF_n hc] at hv; rintro _ rfl; exact s78 (J + 1) [] _ hv
  have s38 : ∀ (J : Nat) (ls : List (Nat × MV)) (v : Int64), K (.inr (.inl (stF f (stF e (stF d v))))) μ → bb X P0 m_X9_spelt (h) K (vc X P0 m_X9_spelt (h) K k_X9_spelt [] (J + 4)) s_X9_spelt_38 [(6, .inr (.inl v)), (0, .inl a), (1, .inl b), (2, .inl c), (3, .inl d), (4, .inl e), (5, .inl f)] [] μ := by
    intro J ls v hv
    simp only [↓w_X9_spelt_0, ↓w_X9_spelt_38, ↓w_X9_spelt_78, ↓w_X9_spelt_100, ↓w_X9_spelt_102, ↓v_X9_spelt_38, ↓v_X9_spelt_57, ↓v_X9_spelt_78, ↓v_X9_spelt_100, ↓v_X9_spelt_102, ↓b_goto, ↓b_i2l, ↓b_if_le, ↓b_iload, ↓b_iload_n, ↓b_ladd, ↓b_ldc2_w, ↓b_lload, ↓b_lmul, ↓b_lret, ↓n_lstore, ↓b_lsub, ↓ldI_hit, ↓ldI_skip, ↓ldL_hit, ↓ldL_skip, ↓ldA_hit, ↓ldA_skip, ↓ldelK_nil, ↓ldelK_hit, ↓ldelK_skipI, ↓ldelK_skipA, ↓ldelK_skipL, ↓ldel2K_nil, ↓ldel2K_hit, ↓ldel2K_hit2, ↓ldel2K_skipI, ↓ldel2K_skipA, ↓ldel2K_skipL, lget_hit, lget_skip, ldel_nil, ldel_hit, ldel_skipI, ldel_skipA, ldel_skipL, ldel2_nil, ldel2_hit, ldel2_hit2, ldel2_skipI, ldel2_skipA, ldel2_skipL, vc_0, mCall_P0, mCat_nil, mCat_I, mCat_L, mCat_A, mRcv_A, mArg_nil, mArg_I, mArg_L, mArg_A, tsg, swt_nil, swt_cons, lkw_nil, lkw_cons, ↓reduceIte, Nat.reduceAdd, Nat.reduceEqDiff, Nat.reduceLeDiff, Nat.reduceMul, true_and, and_true, and_self, List.mem_cons, List.not_mem_nil, or_false, or_self, false_or, true_implies, false_implies, not_true_eq_false, not_false_eq_true, nI00, nI10, nI01, nI11, forall_const, implies_true]
    refine ⟨fun hc => ?_, fun hc => ?_⟩
    · rw [stF_p hc] at hv; exact s57 J [] v hv
    · rw [stF_n hc] at hv; rintro _ rfl; exact s57 (J + 1) [] _ hv
  simp only [↓w_X9_spelt_0, ↓w_X9_spelt_57, ↓w_X9_spelt_78, ↓w_X9_spelt_100, ↓w_X9_spelt_102, ↓v_X9_spelt_38, ↓v_X9_spelt_57, ↓v_X9_spelt_78, ↓v_X9_spelt_100, ↓v_X9_spelt_102, ↓b_goto, ↓b_i2l, ↓b_if_le, ↓b_iload, ↓b_iload_n, ↓b_ladd, ↓b_ldc2_w, ↓b_lload, ↓b_lmul, ↓b_lret, ↓n_lstore, ↓b_lsub, ↓ldI_hit, ↓ldI_skip, ↓ldL_hit, ↓ldL_skip, ↓ldA_hit, ↓ldA_skip, ↓ldelK_nil, ↓ldelK_hit, ↓ldelK_skipI, ↓ldelK_skipA, ↓ldelK_skipL, ↓ldel2K_nil, ↓ldel2K_hit, ↓ldel2K_hit2, ↓ldel2K_skipI, ↓ldel2K_skipA, ↓ldel2K_skipL, lget_hit, lget_skip, ldel_nil, ldel_hit, ldel_skipI, ldel_skipA, ldel_skipL, ldel2_nil, ldel2_hit, ldel2_hit2, ldel2_skipI, ldel2_skipA, ldel2_skipL, vc_0, mCall_P0, mCat_nil, mCat_I, mCat_L, mCat_A, mRcv_A, mArg_nil, mArg_I, mArg_L, mArg_A, tsg, swt_nil, swt_cons, lkw_nil, lkw_cons, ↓reduceIte, Nat.reduceAdd, Nat.reduceEqDiff, Nat.reduceLeDiff, Nat.reduceMul, true_and, and_true, and_self, List.mem_cons, List.not_mem_nil, or_false, or_self, false_or, true_implies, false_implies, not_true_eq_false, not_false_eq_true, nI00, nI10, nI01, nI11, forall_const, implies_true]
  rintro _ rfl
  refine ⟨fun hc => ?_, fun hc => ?_⟩
  · rw [stF_p hc] at hK; exact s38 3 [] _ hK
  · rw [stF_n hc] at hK; rintro _ rfl; exact s38 4 [] _ hK
theorem c_X9_wordOf {k : Int32} (hK : K (.inr (.inl (wdF k))) μ) : mMet X (h + 2) m_X9_wordOf [.inl k] μ K := by
  unfold wdF at hK
  (refine vc_met2 P0_ok ok_X9_wordOf cm_X9_wordOf [] 4 t_X9_wordOf_0 (Nat.le_of_ble_eq_true rfl) ?_; simp only [mArg_nil, mArg_I, mArg_L, mArg_A, Nat.reduceAdd])
  simp only [↓w_X9_wordOf_0, ↓w_X9_wordOf_88, ↓w_X9_wordOf_102, ↓w_X9_wordOf_116, ↓w_X9_wordOf_131, ↓w_X9_wordOf_146, ↓w_X9_wordOf_161, ↓w_X9_wordOf_176, ↓w_X9_wordOf_192, ↓w_X9_wordOf_207, ↓w_X9_wordOf_223, ↓w_X9_wordOf_235, ↓w_X9_wordOf_248, ↓w_X9_wordOf_261, ↓w_X9_wordOf_276, ↓w_X9_wordOf_290, ↓w_X9_wordOf_305, ↓w_X9_wordOf_319, ↓w_X9_wordOf_334, ↓w_X9_wordOf_348, ↓v_X9_wordOf_88, ↓v_X9_wordOf_102, ↓v_X9_wordOf_116, ↓v_X9_wordOf_131, ↓v_X9_wordOf_146, ↓v_X9_wordOf_161, ↓v_X9_wordOf_176, ↓v_X9_wordOf_192, ↓v_X9_wordOf_207, ↓v_X9_wordOf_223, ↓v_X9_wordOf_235, ↓v_X9_wordOf_248, ↓v_X9_wordOf_261, ↓v_X9_wordOf_276, ↓v_X9_wordOf_290, ↓v_X9_wordOf_305, ↓v_X9_wordOf_319, ↓v_X9_wordOf_334, ↓v_X9_wordOf_348, ↓b_bipush, ↓b_callS6_2, ↓b_iconst, ↓b_iload_n, ↓b_lret, ↓b_tsw, ↓ldI_hit, ↓ldI_skip, ↓ldL_hit, ↓ldL_skip, ↓ldA_hit, ↓ldA_skip, ↓ldelK_nil, ↓ldelK_hit, ↓ldelK_skipI, ↓ldelK_skipA, ↓ldelK_skipL, lget_hit, lget_skip, ldel_nil, ldel_hit, ldel_skipI, ldel_skipA, ldel_skipL, ldel2_nil, ldel2_hit, ldel2_hit2, ldel2_skipI, ldel2_skipA, ldel2_skipL, vc_0, mCall_P0, mCat_nil, mCat_I, mCat_L, mCat_A, mRcv_A, mArg_nil, mArg_I, mArg_L, mArg_A, tsg, swt_nil, swt_cons, lkw_nil, lkw_cons, ↓reduceIte, Nat.reduceAdd, Nat.reduceEqDiff, Nat.reduceLeDiff, Nat.reduceMul, true_and, and_true, and_self, List.mem_cons, List.not_mem_nil, or_false, or_self, false_or, true_implies, false_implies, not_true_eq_false, not_false_eq_true, nI00, nI10, nI01, nI11, forall_const, implies_true]
  refine ⟨fun hc => ?_, fun e => ?_, fun e => ?_, fun e => ?_, fun e => ?_, fun e => ?_, fun e => ?_, fun e => ?_, fun e => ?_, fun e => ?_, fun e => ?_, fun e => ?_, fun e => ?_, fun e => ?_, fun e => ?_, fun e => ?_, fun e => ?_, fun e => ?_, fun e => ?_⟩
  · rw [if_neg (fun e => by rw [e] at hc; revert hc; decide), if_neg (fun e => by rw [e] at hc; revert hc; decide), if_neg (fun e => by rw [e] at hc; revert hc; decide), if_neg (fun e => by rw [e] at hc; revert hc; decide), if_neg (fun e => by rw [e] at hc; revert hc; decide), if_neg (fun e => by rw [e] at hc; revert hc; decide), if_neg (fun e => by rw [e] at hc; revert hc; decide), if_neg (fun e => by rw [e] at hc; revert hc; decide), if_neg (fun e => by rw [e] at hc; revert hc; decide), if_neg (fun e => by rw [e] at hc; revert hc; decide), if_neg (fun e => by rw [e] at hc; revert hc; decide), if_neg (fun e => by rw [e] at hc; revert hc; decide), if_neg (fun e => by rw [e] at hc; revert hc; decide), if_neg (fun e => by rw [e] at hc; revert hc; decide), if_neg (fun e => by rw [e] at hc; revert hc; decide), if_neg (fun e => by rw [e] at hc; revert hc; decide), if_neg (fun e => by rw [e] at hc; revert hc; decide), if_neg (fun e => by rw [e] at hc; revert hc; decide)] at hK
    refine c_X9_spelt ?_
    simp only [↓w_X9_wordOf_0, ↓w_X9_wordOf_88, ↓w_X9_wordOf_102, ↓w_X9_wordOf_116, ↓w_X9_wordOf_131, ↓w_X9_wordOf_146, ↓w_X9_wordOf_161, ↓w_X9_wordOf_176, ↓w_X9_wordOf_192, ↓w_X9_wordOf_207, ↓w_X9_wordOf_223, ↓w_X9_wordOf_235, ↓w_X9_wordOf_248, ↓w_X9_wordOf_261, ↓w_X9_wordOf_276, ↓w_X9_wordOf_290, ↓w_X9_wordOf_305, ↓w_X9_wordOf_319, ↓w_X9_wordOf_334, ↓w_X9_wordOf_348, ↓v_X9_wordOf_88, ↓v_X9_wordOf_102, ↓v_X9_wordOf_116, ↓v_X9_wordOf_131, ↓v_X9_wordOf_146, ↓v_X9_wordOf_161, ↓v_X9_wordOf_176, ↓v_X9_wordOf_192, ↓v_X9_wordOf_207, ↓v_X9_wordOf_223, ↓v_X9_wordOf_235, ↓v_X9_wordOf_248, ↓v_X9_wordOf_261, ↓v_X9_wordOf_276, ↓v_X9_wordOf_290, ↓v_X9_wordOf_305, ↓v_X9_wordOf_319, ↓v_X9_wordOf_334, ↓v_X9_wordOf_348, ↓b_bipush, ↓b_callS6_2, ↓b_iconst, ↓b_iload_n, ↓b_lret, ↓b_tsw, ↓ldI_hit, ↓ldI_skip, ↓ldL_hit, ↓ldL_skip, ↓ldA_hit, ↓ldA_skip, ↓ldelK_nil, ↓ldelK_hit, ↓ldelK_skipI, ↓ldelK_skipA, ↓ldelK_skipL, lget_hit, lget_skip, ldel_nil, ldel_hit, ldel_skipI, ldel_skipA, ldel_skipL, ldel2_nil, ldel2_hit, ldel2_hit2, ldel2_skipI, ldel2_skipA, ldel2_skipL, vc_0, mCall_P0, mCat_nil, mCat_I, mCat_L, mCat_A, mRcv_A, mArg_nil, mArg_I, mArg_L, mArg_A, tsg, swt_nil, swt_cons, lkw_nil, lkw_cons, ↓reduceIte, Nat.reduceAdd, Nat.reduceEqDiff, Nat.reduceLeDiff, Nat.reduceMul, true_and, and_true, and_self, List.mem_cons, List.not_mem_nil, or_false, or_self, false_or, true_implies, false_implies, not_true_eq_false, not_false_eq_true, nI00, nI10, nI01, nI11, forall_const, implies_true]
    exact hK
  · rw [if_pos e] at hK
    refine c_X9_spelt ?_
    simp only [↓w_X9_wordOf_0, ↓w_X9_wordOf_88, ↓w_X9_wordOf_102, ↓w_X9_wordOf_116, ↓w_X9_wordOf_131, ↓w_X9_wordOf_146, ↓w_X9_wordOf_161, ↓w_X9_wordOf_176, ↓w_X9_wordOf_192, ↓w_X9_wordOf_207, ↓w_X9_wordOf_223, ↓w_X9_wordOf_235, ↓w_X9_wordOf_248, ↓w_X9_wordOf_261, ↓w_X9_wordOf_276, ↓w_X9_wordOf_290, ↓w_X9_wordOf_305, ↓w_X9_wordOf_319, ↓w_X9_wordOf_334, ↓w_X9_wordOf_348, ↓v_X9_wordOf_88, ↓v_X9_wordOf_102, ↓v_X9_wordOf_116, ↓v_X9_wordOf_131, ↓v_X9_wordOf_146, ↓v_X9_wordOf_161, ↓v_X9_wordOf_176, ↓v_X9_wordOf_192, ↓v_X9_wordOf_207, ↓v_X9_wordOf_223, ↓v_X9_wordOf_235, ↓v_X9_wordOf_248, ↓v_X9_wordOf_261, ↓v_X9_wordOf_276, ↓v_X9_wordOf_290, ↓v_X9_wordOf_305, ↓v_X9_wordOf_319, ↓v_X9_wordOf_334, ↓v_X9_wordOf_348, ↓b_bipush, ↓b_callS6_2, ↓b_iconst, ↓b_iload_n, ↓b_lret, ↓b_tsw, ↓ldI_hit, ↓ldI_skip, ↓ldL_hit, ↓ldL_skip, ↓ldA_hit, ↓ldA_skip, ↓ldelK_nil, ↓ldelK_hit, ↓ldelK_skipI, ↓ldelK_skipA, ↓ldelK_skipL, lget_hit, lget_skip, ldel_nil, ldel_hit, ldel_skipI, ldel_skipA, ldel_skipL, ldel2_nil, ldel2_hit, ldel2_hit2, ldel2_skipI, ldel2_skipA, ldel2_skipL, vc_0, mCall_P0, mCat_nil, mCat_I, mCat_L, mCat_A, mRcv_A, mArg_nil, mArg_I, mArg_L, mArg_A, tsg, swt_nil, swt_cons, lkw_nil, lkw_cons, ↓reduceIte, Nat.reduceAdd, Nat.reduceEqDiff, Nat.reduceLeDiff, Nat.reduceMul, true_and, and_true, and_self, List.mem_cons, List.not_mem_nil, or_false, or_self, false_or, true_implies, false_implies, not_true_eq_false, not_false_eq_true, nI00, nI10, nI01, nI11, forall_const, implies_true]
    exact hK
  · rw [if_neg (by rw [e]; decide), if_pos e] at hK
    refine c_X9_spelt ?_
    simp only [↓w_X9_wordOf_0, ↓w_X9_wordOf_88, ↓w_X9_wordOf_102, ↓w_X9_wordOf_116, ↓w_X9_wordOf_131, ↓w_X9_wordOf_146, ↓w_X9_wordOf_161, ↓w_X9_wordOf_176, ↓w_X9_wordOf_192, ↓w_X9_wordOf_207, ↓w_X9_wordOf_223, ↓w_X9_wordOf_235, ↓w_X9_wordOf_248, ↓w_X9_wordOf_261, ↓w_X9_wordOf_276, ↓w_X9_wordOf_290, ↓w_X9_wordOf_305, ↓w_X9_wordOf_319, ↓w_X9_wordOf_334, ↓w_X9_wordOf_348, ↓v_X9_wordOf_88, ↓v_X9_wordOf_102, ↓v_X9_wordOf_116, ↓v_X9_wordOf_131, ↓v_X9_wordOf_146, ↓v_X9_wordOf_161, ↓v_X9_wordOf_176, ↓v_X9_wordOf_192, ↓v_X9_wordOf_207, ↓v_X9_wordOf_223, ↓v_X9_wordOf_235, ↓v_X9_wordOf_248, ↓v_X9_wordOf_261, ↓v_X9_wordOf_276, ↓v_X9_wordOf_290, ↓v_X9_wordOf_305, ↓v_X9_wordOf_319, ↓v_X9_wordOf_334, ↓v_X9_wordOf_348, ↓b_bipush, ↓b_callS6_2, ↓b_iconst, ↓b_iload_n, ↓b_lret, ↓b_tsw, ↓ldI_hit, ↓ldI_skip, ↓ldL_hit, ↓ldL_skip, ↓ldA_hit, ↓ldA_skip, ↓ldelK_nil, ↓ldelK_hit, ↓ldelK_skipI, ↓ldelK_skipA, ↓ldelK_skipL, lget_hit, lget_skip, ldel_nil, ldel_hit, ldel_skipI, ldel_skipA, ldel_skipL, ldel2_nil, ldel2_hit, ldel2_hit2, ldel2_skipI, ldel2_skipA, ldel2_skipL, vc_0, mCall_P0, mCat_nil, mCat_I, mCat_L, mCat_A, mRcv_A, mArg_nil, mArg_I, mArg_L, mArg_A, tsg, swt_nil, swt_cons, lkw_nil, lkw_cons, ↓reduceIte, Nat.reduceAdd, Nat.reduceEqDiff, Nat.reduceLeDiff, Nat.reduceMul, true_and, and_true, and_self, List.mem_cons, List.not_mem_nil, or_false, or_self, false_or, true_implies, false_implies, not_true_eq_false, not_false_eq_true, nI00, nI10, nI01, nI11, forall_const, implies_true]
    exact hK
  · rw [if_neg (by rw [e]; decide), if_neg (by rw [e]; decide), if_pos e] at hK
    refine c_X9_spelt ?_
    simp only [↓w_X9_wordOf_0, ↓w_X9_wordOf_88, ↓w_X9_wordOf_102, ↓w_X9_wordOf_116, ↓w_X9_wordOf_131, ↓w_X9_wordOf_146, ↓w_X9_wordOf_161, ↓w_X9_wordOf_176, ↓w_X9_wordOf_192, ↓w_X9_wordOf_207, ↓w_X9_wordOf_223, ↓w_X9_wordOf_235, ↓w_X9_wordOf_248, ↓w_X9_wordOf_261, ↓w_X9_wordOf_276, ↓w_X9_wordOf_290, ↓w_X9_wordOf_305, ↓w_X9_wordOf_319, ↓w_X9_wordOf_334, ↓w_X9_wordOf_348, ↓v_X9_wordOf_88, ↓v_X9_wordOf_102, ↓v_X9_wordOf_116, ↓v_X9_wordOf_131, ↓v_X9_wordOf_146, ↓v_X9_wordOf_161, ↓v_X9_wordOf_176, ↓v_X9_wordOf_192, ↓v_X9_wordOf_207, ↓v_X9_wordOf_223, ↓v_X9_wordOf_235, ↓v_X9_wordOf_248, ↓v_X9_wordOf_261, ↓v_X9_wordOf_276, ↓v_X9_wordOf_290, ↓v_X9_wordOf_305, ↓v_X9_wordOf_319, ↓v_X9_wordOf_334, ↓v_X9_wordOf_348, ↓b_bipush, ↓b_callS6_2, ↓b_iconst, ↓b_iload_n, ↓b_lret, ↓b_tsw, ↓ldI_hit, ↓ldI_skip, ↓ldL_hit, ↓ldL_skip, ↓ldA_hit, ↓ldA_skip, ↓ldelK_nil, ↓ldelK_hit, ↓ldelK_skipI, ↓ldelK_skipA, ↓ldelK_skipL, lget_hit, lget_skip, ldel_nil, ldel_hit, ldel_skipI, ldel_skipA, ldel_skipL, ldel2_nil, ldel2_hit, ldel2_hit2, ldel2_skipI, ldel2_skipA, ldel2_skipL, vc_0, mCall_P0, mCat_nil, mCat_I, mCat_L, mCat_A, mRcv_A, mArg_nil, mArg_I, mArg_L, mArg_A, tsg, swt_nil, swt_cons, lkw_nil, lkw_cons, ↓reduceIte, Nat.reduceAdd, Nat.reduceEqDiff, Nat.reduceLeDiff, Nat.reduceMul, true_and, and_true, and_self, List.mem_cons, List.not_mem_nil, or_false, or_self, false_or, true_implies, false_implies, not_true_eq_false, not_false_eq_true, nI00, nI10, nI01, nI11, forall_const, implies_true]
    exact hK
  · rw [if_neg (by rw [e]; decide), if_neg (by rw [e]; decide), if_neg (by rw [e]; decide), if_pos e] at hK
    refine c_X9_spelt ?_
    simp only [↓w_X9_wordOf_0, ↓w_X9_wordOf_88, ↓w_X9_wordOf_102, ↓w_X9_wordOf_116, ↓w_X9_wordOf_131, ↓w_X9_wordOf_146, ↓w_X9_wordOf_161, ↓w_X9_wordOf_176, ↓w_X9_wordOf_192, ↓w_X9_wordOf_207, ↓w_X9_wordOf_223, ↓w_X9_wordOf_235, ↓w_X9_wordOf_248, ↓w_X9_wordOf_261, ↓w_X9_wordOf_276, ↓w_X9_wordOf_290, ↓w_X9_wordOf_305, ↓w_X9_wordOf_319, ↓w_X9_wordOf_334, ↓w_X9_wordOf_348, ↓v_X9_wordOf_88, ↓v_X9_wordOf_102, ↓v_X9_wordOf_116, ↓v_X9_wordOf_131, ↓v_X9_wordOf_146, ↓v_X9_wordOf_161, ↓v_X9_wordOf_176, ↓v_X9_wordOf_192, ↓v_X9_wordOf_207, ↓v_X9_wordOf_223, ↓v_X9_wordOf_235, ↓v_X9_wordOf_248, ↓v_X9_wordOf_261, ↓v_X9_wordOf_276, ↓v_X9_wordOf_290, ↓v_X9_wordOf_305, ↓v_X9_wordOf_319, ↓v_X9_wordOf_334, ↓v_X9_wordOf_348, ↓b_bipush, ↓b_callS6_2, ↓b_iconst, ↓b_iload_n, ↓b_lret, ↓b_tsw, ↓ldI_hit, ↓ldI_skip, ↓ldL_hit, ↓ldL_skip, ↓ldA_hit, ↓ldA_skip, ↓ldelK_nil, ↓ldelK_hit, ↓ldelK_skipI, ↓ldelK_skipA, ↓ldelK_skipL, lget_hit, lget_skip, ldel_nil, ldel_hit, ldel_skipI, ldel_skipA, ldel_skipL, ldel2_nil, ldel2_hit, ldel2_hit2, ldel2_skipI, ldel2_skipA, ldel2_skipL, vc_0, mCall_P0, mCat_nil, mCat_I, mCat_L, mCat_A, mRcv_A, mArg_nil, mArg_I, mArg_L, mArg_A, tsg, swt_nil, swt_cons, lkw_nil, lkw_cons, ↓reduceIte, Nat.reduceAdd, Nat.reduceEqDiff, Nat.reduceLeDiff, Nat.reduceMul, true_and, and_true, and_self, List.mem_cons, List.not_mem_nil, or_false, or_self, false_or, true_implies, false_implies, not_true_eq_false, not_false_eq_true, nI00, nI10, nI01, nI11, forall_const, implies_true]
    exact hK
  · rw [if_neg (by rw [e]; decide), if_neg (by rw [e]; decide), if_neg (by rw [e]; decide), if_neg (by rw [e]; decide), if_pos e] at hK
    refine c_X9_spelt ?_
    simp only [↓w_X9_wordOf_0, ↓w_X9_wordOf_88, ↓w_X9_wordOf_102, ↓w_X9_wordOf_116, ↓w_X9_wordOf_131, ↓w_X9_wordOf_146, ↓w_X9_wordOf_161, ↓w_X9_wordOf_176, ↓w_X9_wordOf_192, ↓w_X9_wordOf_207, ↓w_X9_wordOf_223, ↓w_X9_wordOf_235, ↓w_X9_wordOf_248, ↓w_X9_wordOf_261, ↓w_X9_wordOf_276, ↓w_X9_wordOf_290, ↓w_X9_wordOf_305, ↓w_X9_wordOf_319, ↓w_X9_wordOf_334, ↓w_X9_wordOf_348, ↓v_X9_wordOf_88, ↓v_X9_wordOf_102, ↓v_X9_wordOf_116, ↓v_X9_wordOf_131, ↓v_X9_wordOf_146, ↓v_X9_wordOf_161, ↓v_X9_wordOf_176, ↓v_X9_wordOf_192, ↓v_X9_wordOf_207, ↓v_X9_wordOf_223, ↓v_X9_wordOf_235, ↓v_X9_wordOf_248, ↓v_X9_wordOf_261, ↓v_X9_wordOf_276, ↓v_X9_wordOf_290, ↓v_X9_wordOf_305, ↓v_X9_wordOf_319, ↓v_X9_wordOf_334, ↓v_X9_wordOf_348, ↓b_bipush, ↓b_callS6_2, ↓b_iconst, ↓b_iload_n, ↓b_lret, ↓b_tsw, ↓ldI_hit, ↓ldI_skip, ↓ldL_hit, ↓ldL_skip, ↓ldA_hit, ↓ldA_skip, ↓ldelK_nil, ↓ldelK_hit, ↓ldelK_skipI, ↓ldelK_skipA, ↓ldelK_skipL, lget_hit, lget_skip, ldel_nil, ldel_hit, ldel_skipI, ldel_skipA, ldel_skipL, ldel2_nil, ldel2_hit, ldel2_hit2, ldel2_skipI, ldel2_skipA, ldel2_skipL, vc_0, mCall_P0, mCat_nil, mCat_I, mCat_L, mCat_A, mRcv_A, mArg_nil, mArg_I, mArg_L, mArg_A, tsg, swt_nil, swt_cons, lkw_nil, lkw_cons, ↓reduceIte, Nat.reduceAdd, Nat.reduceEqDiff, Nat.reduceLeDiff, Nat.reduceMul, true_and, and_true, and_self, List.mem_cons, List.not_mem_nil, or_false, or_self, false_or, true_implies, false_implies, not_true_eq_false, not_false_eq_true, nI00, nI10, nI01, nI11, forall_const, implies_true]
    exact hK
  · rw [if_neg (by rw [e]; decide), if_neg (by rw [e]; decide), if_neg (by rw [e]; decide), if_neg (by rw [e]; decide), if_neg (by rw [e]; decide), if_pos e] at hK
    refine c_X9_spelt ?_
    simp only [↓w_X9_wordOf_0, ↓w_X9_wordOf_88, ↓w_X9_wordOf_102, ↓w_X9_wordOf_116, ↓w_X9_wordOf_131, ↓w_X9_wordOf_146, ↓w_X9_wordOf_161, ↓w_X9_wordOf_176, ↓w_X9_wordOf_192, ↓w_X9_wordOf_207, ↓w_X9_wordOf_223, ↓w_X9_wordOf_235, ↓w_X9_wordOf_248, ↓w_X9_wordOf_261, ↓w_X9_wordOf_276, ↓w_X9_wordOf_290, ↓w_X9_wordOf_305, ↓w_X9_wordOf_319, ↓w_X9_wordOf_334, ↓w_X9_wordOf_348, ↓v_X9_wordOf_88, ↓v_X9_wordOf_102, ↓v_X9_wordOf_116, ↓v_X9_wordOf_131, ↓v_X9_wordOf_146, ↓v_X9_wordOf_161, ↓v_X9_wordOf_176, ↓v_X9_wordOf_192, ↓v_X9_wordOf_207, ↓v_X9_wordOf_223, ↓v_X9_wordOf_235, ↓v_X9_wordOf_248, ↓v_X9_wordOf_261, ↓v_X9_wordOf_276, ↓v_X9_wordOf_290, ↓v_X9_wordOf_305, ↓v_X9_wordOf_319, ↓v_X9_wordOf_334, ↓v_X9_wordOf_348, ↓b_bipush, ↓b_callS6_2, ↓b_iconst, ↓b_iload_n, ↓b_lret, ↓b_tsw, ↓ldI_hit, ↓ldI_skip, ↓ldL_hit, ↓ldL_skip, ↓ldA_hit, ↓ldA_skip, ↓ldelK_nil, ↓ldelK_hit, ↓ldelK_skipI, ↓ldelK_skipA, ↓ldelK_skipL, lget_hit, lget_skip, ldel_nil, ldel_hit, ldel_skipI, ldel_skipA, ldel_skipL, ldel2_nil, ldel2_hit, ldel2_hit2, ldel2_skipI, ldel2_skipA, ldel2_skipL, vc_0, mCall_P0, mCat_nil, mCat_I, mCat_L, mCat_A, mRcv_A, mArg_nil, mArg_I, mArg_L, mArg_A, tsg, swt_nil, swt_cons, lkw_nil, lkw_cons, ↓reduceIte, Nat.reduceAdd, Nat.reduceEqDiff, Nat.reduceLeDiff, Nat.reduceMul, true_and, and_true, and_self, List.mem_cons, List.not_mem_nil, or_false, or_self, false_or, true_implies, false_implies, not_true_eq_false, not_false_eq_true, nI00, nI10, nI01, nI11, forall_const, implies_true]
    exact hK
  · rw [if_neg (by rw [e]; decide), if_neg (by rw [e]; decide), if_neg (by rw [e]; decide), if_neg (by rw [e]; decide), if_neg (by rw [e]; decide), if_neg (by rw [e]; decide), if_pos e] at hK
    refine c_X9_spelt ?_
    simp only [↓w_X9_wordOf_0, ↓w_X9_wordOf_88, ↓w_X9_wordOf_102, ↓w_X9_wordOf_116, ↓w_X9_wordOf_131, ↓w_X9_wordOf_146, ↓w_X9_wordOf_161, ↓w_X9_wordOf_176, ↓w_X9_wordOf_192, ↓w_X9_wordOf_207, ↓w_X9_wordOf_223, ↓w_X9_wordOf_235, ↓w_X9_wordOf_248, ↓w_X9_wordOf_261, ↓w_X9_wordOf_276, ↓w_X9_wordOf_290, ↓w_X9_wordOf_305, ↓w_X9_wordOf_319, ↓w_X9_wordOf_334, ↓w_X9_wordOf_348, ↓v_X9_wordOf_88, ↓v_X9_wordOf_102, ↓v_X9_wordOf_116, ↓v_X9_wordOf_131, ↓v_X9_wordOf_146, ↓v_X9_wordOf_161, ↓v_X9_wordOf_176, ↓v_X9_wordOf_192, ↓v_X9_wordOf_207, ↓v_X9_wordOf_223, ↓v_X9_wordOf_235, ↓v_X9_wordOf_248, ↓v_X9_wordOf_261, ↓v_X9_wordOf_276, ↓v_X9_wordOf_290, ↓v_X9_wordOf_305, ↓v_X9_wordOf_319, ↓v_X9_wordOf_334, ↓v_X9_wordOf_348, ↓b_bipush, ↓b_callS6_2, ↓b_iconst, ↓b_iload_n, ↓b_lret, ↓b_tsw, ↓ldI_hit, ↓ldI_skip, ↓ldL_hit, ↓ldL_skip, ↓ldA_hit, ↓ldA_skip, ↓ldelK_nil, ↓ldelK_hit, ↓ldelK_skipI, ↓ldelK_skipA, ↓ldelK_skipL, lget_hit, lget_skip, ldel_nil, ldel_hit, ldel_skipI, ldel_skipA, ldel_skipL, ldel2_nil, ldel2_hit, ldel2_hit2, ldel2_skipI, ldel2_skipA, ldel2_skipL, vc_0, mCall_P0, mCat_nil, mCat_I, mCat_L, mCat_A, mRcv_A, mArg_nil, mArg_I, mArg_L, mArg_A, tsg, swt_nil, swt_cons, lkw_nil, lkw_cons, ↓reduceIte, Nat.reduceAdd, Nat.reduceEqDiff, Nat.reduceLeDiff, Nat.reduceMul, true_and, and_true, and_self, List.mem_cons, List.not_mem_nil, or_false, or_self, false_or, true_implies, false_implies, not_true_eq_false, not_false_eq_true, nI00, nI10, nI01, nI11, forall_const, implies_true]
    exact hK
  · rw [if_neg (by rw [e]; decide), if_neg (by rw [e]; decide), if_neg (by rw [e]; decide), if_neg (by rw [e]; decide), if_neg (by rw [e]; decide), if_neg (by rw [e]; decide), if_neg (by rw [e]; decide), if_pos e] at hK
    refine c_X9_spelt ?_
    simp only [↓w_X9_wordOf_0, ↓w_X9_wordOf_88, ↓w_X9_wordOf_102, ↓w_X9_wordOf_116, ↓w_X9_wordOf_131, ↓w_X9_wordOf_146, ↓w_X9_wordOf_161, ↓w_X9_wordOf_176, ↓w_X9_wordOf_192, ↓w_X9_wordOf_207, ↓w_X9_wordOf_223, ↓w_X9_wordOf_235, ↓w_X9_wordOf_248, ↓w_X9_wordOf_261, ↓w_X9_wordOf_276, ↓w_X9_wordOf_290, ↓w_X9_wordOf_305, ↓w_X9_wordOf_319, ↓w_X9_wordOf_334, ↓w_X9_wordOf_348, ↓v_X9_wordOf_88, ↓v_X9_wordOf_102, ↓v_X9_wordOf_116, ↓v_X9_wordOf_131, ↓v_X9_wordOf_146, ↓v_X9_wordOf_161, ↓v_X9_wordOf_176, ↓v_X9_wordOf_192, ↓v_X9_wordOf_207, ↓v_X9_wordOf_223, ↓v_X9_wordOf_235, ↓v_X9_wordOf_248, ↓v_X9_wordOf_261, ↓v_X9_wordOf_276, ↓v_X9_wordOf_290, ↓v_X9_wordOf_305, ↓v_X9_wordOf_319, ↓v_X9_wordOf_334, ↓v_X9_wordOf_348, ↓b_bipush, ↓b_callS6_2, ↓b_iconst, ↓b_iload_n, ↓b_lret, ↓b_tsw, ↓ldI_hit, ↓ldI_skip, ↓ldL_hit, ↓ldL_skip, ↓ldA_hit, ↓ldA_skip, ↓ldelK_nil, ↓ldelK_hit, ↓ldelK_skipI, ↓ldelK_skipA, ↓ldelK_skipL, lget_hit, lget_skip, ldel_nil, ldel_hit, ldel_skipI, ldel_skipA, ldel_skipL, ldel2_nil, ldel2_hit, ldel2_hit2, ldel2_skipI, ldel2_skipA, ldel2_skipL, vc_0, mCall_P0, mCat_nil, mCat_I, mCat_L, mCat_A, mRcv_A, mArg_nil, mArg_I, mArg_L, mArg_A, tsg, swt_nil, swt_cons, lkw_nil, lkw_cons, ↓reduceIte, Nat.reduceAdd, Nat.reduceEqDiff, Nat.reduceLeDiff, Nat.reduceMul, true_and, and_true, and_self, List.mem_cons, List.not_mem_nil, or_false, or_self, false_or, true_implies, false_implies, not_true_eq_false, not_false_eq_true, nI00, nI10, nI01, nI11, forall_const, implies_true]
    exact hK
  · rw [if_neg (by rw [e]; decide), if_neg (by rw [e]; decide), if_neg (by rw [e]; decide), if_neg (by rw [e]; decide), if_neg (by rw [e]; decide), if_neg (by rw [e]; decide), if_neg (by rw [e]; decide), if_neg (by rw [e]; decide), if_pos e] at hK
    refine c_X9_spelt ?_
    simp only [↓w_X9_wordOf_0, ↓w_X9_wordOf_88, ↓w_X9_wordOf_102, ↓w_X9_wordOf_116, ↓w_X9_wordOf_131, ↓w_X9_wordOf_146, ↓w_X9_wordOf_161, ↓w_X9_wordOf_176, ↓w_X9_wordOf_192, ↓w_X9_wordOf_207, ↓w_X9_wordOf_223, ↓w_X9_wordOf_235, ↓w_X9_wordOf_248, ↓w_X9_wordOf_261, ↓w_X9_wordOf_276, ↓w_X9_wordOf_290, ↓w_X9_wordOf_305, ↓w_X9_wordOf_319, ↓w_X9_wordOf_334, ↓w_X9_wordOf_348, ↓v_X9_wordOf_88, ↓v_X9_wordOf_102, ↓v_X9_wordOf_116, ↓v_X9_wordOf_131, ↓v_X9_wordOf_146, ↓v_X9_wordOf_161, ↓v_X9_wordOf_176, ↓v_X9_wordOf_192, ↓v_X9_wordOf_207, ↓v_X9_wordOf_223, ↓v_X9_wordOf_235, ↓v_X9_wordOf_248, ↓v_X9_wordOf_261, ↓v_X9_wordOf_276, ↓v_X9_wordOf_290, ↓v_X9_wordOf_305, ↓v_X9_wordOf_319, ↓v_X9_wordOf_334, ↓v_X9_wordOf_348, ↓b_bipush, ↓b_callS6_2, ↓b_iconst, ↓b_iload_n, ↓b_lret, ↓b_tsw, ↓ldI_hit, ↓ldI_skip, ↓ldL_hit, ↓ldL_skip, ↓ldA_hit, ↓ldA_skip, ↓ldelK_nil, ↓ldelK_hit, ↓ldelK_skipI, ↓ldelK_skipA, ↓ldelK_skipL, lget_hit, lget_skip, ldel_nil, ldel_hit, ldel_skipI, ldel_skipA, ldel_skipL, ldel2_nil, ldel2_hit, ldel2_hit2, ldel2_skipI, ldel2_skipA, ldel2_skipL, vc_0, mCall_P0, mCat_nil, mCat_I, mCat_L, mCat_A, mRcv_A, mArg_nil, mArg_I, mArg_L, mArg_A, tsg, swt_nil, swt_cons, lkw_nil, lkw_cons, ↓reduceIte, Nat.reduceAdd, Nat.reduceEqDiff, Nat.reduceLeDiff, Nat.reduceMul, true_and, and_true, and_self, List.mem_cons, List.not_mem_nil, or_false, or_self, false_or, true_implies, false_implies, not_true_eq_false, not_false_eq_true, nI00, nI10, nI01, nI11, forall_const, implies_true]
    exact hK
  · rw [if_neg (by rw [e]; decide), if_neg (by rw [e]; decide), if_neg (by rw [e]; decide), if_neg (by rw [e]; decide), if_neg (by rw [e]; decide), if_neg (by rw [e]; decide), if_neg (by rw [e]; decide), if_neg (by rw [e]; decide), if_neg (by rw [e]; decide), if_pos e] at hK
    refine c_X9_spelt ?_
    simp only [↓w_X9_wordOf_0, ↓w_X9_wordOf_88, ↓w_X9_wordOf_102, ↓w_X9_wordOf_116, ↓w_X9_wordOf_131, ↓w_X9_wordOf_146, ↓w_X9_wordOf_161, ↓w_X9_wordOf_176, ↓w_X9_wordOf_192, ↓w_X9_wordOf_207, ↓w_X9_wordOf_223, ↓w_X9_wordOf_235, ↓w_X9_wordOf_248, ↓w_X9_wordOf_261, ↓w_X9_wordOf_276, ↓w_X9_wordOf_290, ↓w_X9_wordOf_305, ↓w_X9_wordOf_319, ↓w_X9_wordOf_334, ↓w_X9_wordOf_348, ↓v_X9_wordOf_88, ↓v_X9_wordOf_102, ↓v_X9_wordOf_116, ↓v_X9_wordOf_131, ↓v_X9_wordOf_146, ↓v_X9_wordOf_161, ↓v_X9_wordOf_176, ↓v_X9_wordOf_192, ↓v_X9_wordOf_207, ↓v_X9_wordOf_223, ↓v_X9_wordOf_235, ↓v_X9_wordOf_248, ↓v_X9_wordOf_261, ↓v_X9_wordOf_276, ↓v_X9_wordOf_290, ↓v_X9_wordOf_305, ↓v_X9_wordOf_319, ↓v_X9_wordOf_334, ↓v_X9_wordOf_348, ↓b_bipush, ↓b_callS6_2, ↓b_iconst, ↓b_iload_n, ↓b_lret, ↓b_tsw, ↓ldI_hit, ↓ldI_skip, ↓ldL_hit, ↓ldL_skip, ↓ldA_hit, ↓ldA_skip, ↓ldelK_nil, ↓ldelK_hit, ↓ldelK_skipI, ↓ldelK_skipA, ↓ldelK_skipL, lget_hit, lget_skip, ldel_nil, ldel_hit, ldel_skipI, ldel_skipA, ldel_skipL, ldel2_nil, ldel2_hit, ldel2_hit2, ldel2_skipI, ldel2_skipA, ldel2_skipL, vc_0, mCall_P0, mCat_nil, mCat_I, mCat_L, mCat_A, mRcv_A, mArg_nil, mArg_I, mArg_L, mArg_A, tsg, swt_nil, swt_cons, lkw_nil, lkw_cons, ↓reduceIte, Nat.reduceAdd, Nat.reduceEqDiff, Nat.reduceLeDiff, Nat.reduceMul, true_and, and_true, and_self, List.mem_cons, List.not_mem_nil, or_false, or_self, false_or, true_implies, false_implies, not_true_eq_false, not_false_eq_true, nI00, nI10, nI01, nI11, forall_const, implies_true]
    exact hK
  · rw [if_neg (by rw [e]; decide), if_neg (by rw [e]; decide), if_neg (by rw [e]; decide), if_neg (by rw [e]; decide), if_neg (by rw [e]; decide), if_neg (by rw [e]; decide), if_neg (by rw [e]; decide), if_neg (by rw [e]; decide), if_neg (by rw [e]; decide), if_neg (by rw [e]; decide), if_pos e] at hK
    refine c_X9_spelt ?_
    simp only [↓w_X9_wordOf_0, ↓w_X9_wordOf_88, ↓w_X9_wordOf_102, ↓w_X9_wordOf_116, ↓w_X9_wordOf_131, ↓w_X9_wordOf_146, ↓w_X9_wordOf_161, ↓w_X9_wordOf_176, ↓w_X9_wordOf_192, ↓w_X9_wordOf_207, ↓w_X9_wordOf_223, ↓w_X9_wordOf_235, ↓w_X9_wordOf_248, ↓w_X9_wordOf_261, ↓w_X9_wordOf_276, ↓w_X9_wordOf_290, ↓w_X9_wordOf_305, ↓w_X9_wordOf_319, ↓w_X9_wordOf_334, ↓w_X9_wordOf_348, ↓v_X9_wordOf_88, ↓v_X9_wordOf_102, ↓v_X9_wordOf_116, ↓v_X9_wordOf_131, ↓v_X9_wordOf_146, ↓v_X9_wordOf_161, ↓v_X9_wordOf_176, ↓v_X9_wordOf_192, ↓v_X9_wordOf_207, ↓v_X9_wordOf_223, ↓v_X9_wordOf_235, ↓v_X9_wordOf_248, ↓v_X9_wordOf_261, ↓v_X9_wordOf_276, ↓v_X9_wordOf_290, ↓v_X9_wordOf_305, ↓v_X9_wordOf_319, ↓v_X9_wordOf_334, ↓v_X9_wordOf_348, ↓b_bipush, ↓b_callS6_2, ↓b_iconst, ↓b_iload_n, ↓b_lret, ↓b_tsw, ↓ldI_hit, ↓ldI_skip, ↓ldL_hit, ↓ldL_skip, ↓ldA_hit, ↓ldA_skip, ↓ldelK_nil, ↓ldelK_hit, ↓ldelK_skipI, ↓ldelK_skipA, ↓ldelK_skipL, lget_hit, lget_skip, ldel_nil, ldel_hit, ldel_skipI, ldel_skipA, ldel_skipL, ldel2_nil, ldel2_hit, ldel2_hit2, ldel2_skipI, ldel2_skipA, ldel2_skipL, vc_0, mCall_P0, mCat_nil, mCat_I, mCat_L, mCat_A, mRcv_A, mArg_nil, mArg_I, mArg_L, mArg_A, tsg, swt_nil, swt_cons, lkw_nil, lkw_cons, ↓reduceIte, Nat.reduceAdd, Nat.reduceEqDiff, Nat.reduceLeDiff, Nat.reduceMul, true_and, and_true, and_self, List.mem_cons, List.not_mem_nil, or_false, or_self, false_or, true_implies, false_implies, not_true_eq_false, not_false_eq_true, nI00, nI10, nI01, nI11, forall_const, implies_true]
    exact hK
  · rw [if_neg (by rw [e]; decide), if_neg (by rw [e]; decide), if_neg (by rw [e]; decide), if_neg (by rw [e]; decide), if_neg (by rw [e]; decide), if_neg (by rw [e]; decide), if_neg (by rw [e]; decide), if_neg (by rw [e]; decide), if_neg (by rw [e]; decide), if_neg (by rw [e]; decide), if_neg (by rw [e]; decide), if_pos e] at hK
    refine c_X9_spelt ?_
    simp only [↓w_X9_wordOf_0, ↓w_X9_wordOf_88, ↓w_X9_wordOf_102, ↓w_X9_wordOf_116, ↓w_X9_wordOf_131, ↓w_X9_wordOf_146, ↓w_X9_wordOf_161, ↓w_X9_wordOf_176, ↓w_X9_wordOf_192, ↓w_X9_wordOf_207, ↓w_X9_wordOf_223, ↓w_X9_wordOf_235, ↓w_X9_wordOf_248, ↓w_X9_wordOf_261, ↓w_X9_wordOf_276, ↓w_X9_wordOf_290, ↓w_X9_wordOf_305, ↓w_X9_wordOf_319, ↓w_X9_wordOf_334, ↓w_X9_wordOf_348, ↓v_X9_wordOf_88, ↓v_X9_wordOf_102, ↓v_X9_wordOf_116, ↓v_X9_wordOf_131, ↓v_X9_wordOf_146, ↓v_X9_wordOf_161, ↓v_X9_wordOf_176, ↓v_X9_wordOf_192, ↓v_X9_wordOf_207, ↓v_X9_wordOf_223, ↓v_X9_wordOf_235, ↓v_X9_wordOf_248, ↓v_X9_wordOf_261, ↓v_X9_wordOf_276, ↓v_X9_wordOf_290, ↓v_X9_wordOf_305, ↓v_X9_wordOf_319, ↓v_X9_wordOf_334, ↓v_X9_wordOf_348, ↓b_bipush, ↓b_callS6_2, ↓b_iconst, ↓b_iload_n, ↓b_lret, ↓b_tsw, ↓ldI_hit, ↓ldI_skip, ↓ldL_hit, ↓ldL_skip, ↓ldA_hit, ↓ldA_skip, ↓ldelK_nil, ↓ldelK_hit, ↓ldelK_skipI, ↓ldelK_skipA, ↓ldelK_skipL, lget_hit, lget_skip, ldel_nil, ldel_hit, ldel_skipI, ldel_skipA, ldel_skipL, ldel2_nil, ldel2_hit, ldel2_hit2, ldel2_skipI, ldel2_skipA, ldel2_skipL, vc_0, mCall_P0, mCat_nil, mCat_I, mCat_L, mCat_A, mRcv_A, mArg_nil, mArg_I, mArg_L, mArg_A, tsg, swt_nil, swt_cons, lkw_nil, lkw_cons, ↓reduceIte, Nat.reduceAdd, Nat.reduceEqDiff, Nat.reduceLeDiff, Nat.reduceMul, true_and, and_true, and_self, List.mem_cons, List.not_mem_nil, or_false, or_self, false_or, true_implies, false_implies, not_true_eq_false, not_false_eq_true, nI00, nI10, nI01, nI11, forall_const, implies_true]
    exact hK
  · rw [if_neg (by rw [e]; decide), if_neg (by rw [e]; decide), if_neg (by rw [e]; decide), if_neg (by rw [e]; decide), if_neg (by rw [e]; decide), if_neg (by rw [e]; decide), if_neg (by rw [e]; decide), if_neg (by rw [e]; decide), if_neg (by rw [e]; decide), if_neg (by rw [e]; decide), if_neg (by rw [e]; decide), if_neg (by rw [e]; decide), if_pos e] at hK
    refine c_X9_spelt ?_
    simp only [↓w_X9_wordOf_0, ↓w_X9_wordOf_88, ↓w_X9_wordOf_102, ↓w_X9_wordOf_116, ↓w_X9_wordOf_131, ↓w_X9_wordOf_146, ↓w_X9_wordOf_161, ↓w_X9_wordOf_176, ↓w_X9_wordOf_192, ↓w_X9_wordOf_207, ↓w_X9_wordOf_223, ↓w_X9_wordOf_235, ↓w_X9_wordOf_248, ↓w_X9_wordOf_261, ↓w_X9_wordOf_276, ↓w_X9_wordOf_290, ↓w_X9_wordOf_305, ↓w_X9_wordOf_319, ↓w_X9_wordOf_334, ↓w_X9_wordOf_348, ↓v_X9_wordOf_88, ↓v_X9_wordOf_102, ↓v_X9_wordOf_116, ↓v_X9_wordOf_131, ↓v_X9_wordOf_146, ↓v_X9_wordOf_161, ↓v_X9_wordOf_176, ↓v_X9_wordOf_192, ↓v_X9_wordOf_207, ↓v_X9_wordOf_223, ↓v_X9_wordOf_235, ↓v_X9_wordOf_248, ↓v_X9_wordOf_261, ↓v_X9_wordOf_276, ↓v_X9_wordOf_290, ↓v_X9_wordOf_305, ↓v_X9_wordOf_319, ↓v_X9_wordOf_334, ↓v_X9_wordOf_348, ↓b_bipush, ↓b_callS6_2, ↓b_iconst, ↓b_iload_n, ↓b_lret, ↓b_tsw, ↓ldI_hit, ↓ldI_skip, ↓ldL_hit, ↓ldL_skip, ↓ldA_hit, ↓ldA_skip, ↓ldelK_nil, ↓ldelK_hit, ↓ldelK_skipI, ↓ldelK_skipA, ↓ldelK_skipL, lget_hit, lget_skip, ldel_nil, ldel_hit, ldel_skipI, ldel_skipA, ldel_skipL, ldel2_nil, ldel2_hit, ldel2_hit2, ldel2_skipI, ldel2_skipA, ldel2_skipL, vc_0, mCall_P0, mCat_nil, mCat_I, mCat_L, mCat_A, mRcv_A, mArg_nil, mArg_I, mArg_L, mArg_A, tsg, swt_nil, swt_cons, lkw_nil, lkw_cons, ↓reduceIte, Nat.reduceAdd, Nat.reduceEqDiff, Nat.reduceLeDiff, Nat.reduceMul, true_and, and_true, and_self, List.mem_cons, List.not_mem_nil, or_false, or_self, false_or, true_implies, false_implies, not_true_eq_false, not_false_eq_true, nI00, nI10, nI01, nI11, forall_const, implies_true]
    exact hK
  · rw [if_neg (by rw [e]; decide), if_neg (by rw [e]; decide), if_neg (by rw [e]; decide), if_neg (by rw [e]; decide), if_neg (by rw [e]; decide), if_neg (by rw [e]; decide), if_neg (by rw [e]; decide), if_neg (by rw [e]; decide), if_neg (by rw [e]; decide), if_neg (by rw [e]; decide), if_neg (by rw [e]; decide), if_neg (by rw [e]; decide), if_neg (by rw [e]; decide), if_pos e] at hK
    refine c_X9_spelt ?_
    simp only [↓w_X9_wordOf_0, ↓w_X9_wordOf_88, ↓w_X9_wordOf_102, ↓w_X9_wordOf_116, ↓w_X9_wordOf_131, ↓w_X9_wordOf_146, ↓w_X9_wordOf_161, ↓w_X9_wordOf_176, ↓w_X9_wordOf_192, ↓w_X9_wordOf_207, ↓w_X9_wordOf_223, ↓w_X9_wordOf_235, ↓w_X9_wordOf_248, ↓w_X9_wordOf_261, ↓w_X9_wordOf_276, ↓w_X9_wordOf_290, ↓w_X9_wordOf_305, ↓w_X9_wordOf_319, ↓w_X9_wordOf_334, ↓w_X9_wordOf_348, ↓v_X9_wordOf_88, ↓v_X9_wordOf_102, ↓v_X9_wordOf_116, ↓v_X9_wordOf_131, ↓v_X9_wordOf_146, ↓v_X9_wordOf_161, ↓v_X9_wordOf_176, ↓v_X9_wordOf_192, ↓v_X9_wordOf_207, ↓v_X9_wordOf_223, ↓v_X9_wordOf_235, ↓v_X9_wordOf_248, ↓v_X9_wordOf_261, ↓v_X9_wordOf_276, ↓v_X9_wordOf_290, ↓v_X9_wordOf_305, ↓v_X9_wordOf_319, ↓v_X9_wordOf_334, ↓v_X9_wordOf_348, ↓b_bipush, ↓b_callS6_2, ↓b_iconst, ↓b_iload_n, ↓b_lret, ↓b_tsw, ↓ldI_hit, ↓ldI_skip, ↓ldL_hit, ↓ldL_skip, ↓ldA_hit, ↓ldA_skip, ↓ldelK_nil, ↓ldelK_hit, ↓ldelK_skipI, ↓ldelK_skipA, ↓ldelK_skipL, lget_hit, lget_skip, ldel_nil, ldel_hit, ldel_skipI, ldel_skipA, ldel_skipL, ldel2_nil, ldel2_hit, ldel2_hit2, ldel2_skipI, ldel2_skipA, ldel2_skipL, vc_0, mCall_P0, mCat_nil, mCat_I, mCat_L, mCat_A, mRcv_A, mArg_nil, mArg_I, mArg_L, mArg_A, tsg, swt_nil, swt_cons, lkw_nil, lkw_cons, ↓reduceIte, Nat.reduceAdd, Nat.reduceEqDiff, Nat.reduceLeDiff, Nat.reduceMul, true_and, and_true, and_self, List.mem_cons, List.not_mem_nil, or_false, or_self, false_or, true_implies, false_implies, not_true_eq_false, not_false_eq_true, nI00, nI10, nI01, nI11, forall_const, implies_true]
    exact hK
  · rw [if_neg (by rw [e]; decide), if_neg (by rw [e]; decide), if_neg (by rw [e]; decide), if_neg (by rw [e]; decide), if_neg (by rw [e]; decide), if_neg (by rw [e]; decide), if_neg (by rw [e]; decide), if_neg (by rw [e]; decide), if_neg (by rw [e]; decide), if_neg (by rw [e]; decide), if_neg (by rw [e]; decide), if_neg (by rw [e]; decide), if_neg (by rw [e]; decide), if_neg (by rw [e]; decide), if_pos e] at hK
    refine c_X9_spelt ?_
    simp only [↓w_X9_wordOf_0, ↓w_X9_wordOf_88, ↓w_X9_wordOf_102, ↓w_X9_wordOf_116, ↓w_X9_wordOf_131, ↓w_X9_wordOf_146, ↓w_X9_wordOf_161, ↓w_X9_wordOf_176, ↓w_X9_wordOf_192, ↓w_X9_wordOf_207, ↓w_X9_wordOf_223, ↓w_X9_wordOf_235, ↓w_X9_wordOf_248, ↓w_X9_wordOf_261, ↓w_X9_wordOf_276, ↓w_X9_wordOf_290, ↓w_X9_wordOf_305, ↓w_X9_wordOf_319, ↓w_X9_wordOf_334, ↓w_X9_wordOf_348, ↓v_X9_wordOf_88, ↓v_X9_wordOf_102, ↓v_X9_wordOf_116, ↓v_X9_wordOf_131, ↓v_X9_wordOf_146, ↓v_X9_wordOf_161, ↓v_X9_wordOf_176, ↓v_X9_wordOf_192, ↓v_X9_wordOf_207, ↓v_X9_wordOf_223, ↓v_X9_wordOf_235, ↓v_X9_wordOf_248, ↓v_X9_wordOf_261, ↓v_X9_wordOf_276, ↓v_X9_wordOf_290, ↓v_X9_wordOf_305, ↓v_X9_wordOf_319, ↓v_X9_wordOf_334, ↓v_X9_wordOf_348, ↓b_bipush, ↓b_callS6_2, ↓b_iconst, ↓b_iload_n, ↓b_lret, ↓b_tsw, ↓ldI_hit, ↓ldI_skip, ↓ldL_hit, ↓ldL_skip, ↓ldA_hit, ↓ldA_skip, ↓ldelK_nil, ↓ldelK_hit, ↓ldelK_skipI, ↓ldelK_skipA, ↓ldelK_skipL, lget_hit, lget_skip, ldel_nil, ldel_hit, ldel_skipI, ldel_skipA, ldel_skipL, ldel2_nil, ldel2_hit, ldel2_hit2, ldel2_skipI, ldel2_skipA, ldel2_skipL, vc_0, mCall_P0, mCat_nil, mCat_I, mCat_L, mCat_A, mRcv_A, mArg_nil, mArg_I, mArg_L, mArg_A, tsg, swt_nil, swt_cons, lkw_nil, lkw_cons, ↓reduceIte, Nat.reduceAdd, Nat.reduceEqDiff, Nat.reduceLeDiff, Nat.reduceMul, true_and, and_true, and_self, List.mem_cons, List.not_mem_nil, or_false, or_self, false_or, true_implies, false_implies, not_true_eq_false, not_false_eq_true, nI00, nI10, nI01, nI11, forall_const, implies_true]
    exact hK
  · rw [if_neg (by rw [e]; decide), if_neg (by rw [e]; decide), if_neg (by rw [e]; decide), if_neg (by rw [e]; decide), if_neg (by rw [e]; decide), if_neg (by rw [e]; decide), if_neg (by rw [e]; decide), if_neg (by rw [e]; decide), if_neg (by rw [e]; decide), if_neg (by rw [e]; decide), if_neg (by rw [e]; decide), if_neg (by rw [e]; decide), if_neg (by rw [e]; decide), if_neg (by rw [e]; decide), if_neg (by rw [e]; decide), if_pos e] at hK
    refine c_X9_spelt ?_
    simp only [↓w_X9_wordOf_0, ↓w_X9_wordOf_88, ↓w_X9_wordOf_102, ↓w_X9_wordOf_116, ↓w_X9_wordOf_131, ↓w_X9_wordOf_146, ↓w_X9_wordOf_161, ↓w_X9_wordOf_176, ↓w_X9_wordOf_192, ↓w_X9_wordOf_207, ↓w_X9_wordOf_223, ↓w_X9_wordOf_235, ↓w_X9_wordOf_248, ↓w_X9_wordOf_261, ↓w_X9_wordOf_276, ↓w_X9_wordOf_290, ↓w_X9_wordOf_305, ↓w_X9_wordOf_319, ↓w_X9_wordOf_334, ↓w_X9_wordOf_348, ↓v_X9_wordOf_88, ↓v_X9_wordOf_102, ↓v_X9_wordOf_116, ↓v_X9_wordOf_131, ↓v_X9_wordOf_146, ↓v_X9_wordOf_161, ↓v_X9_wordOf_176, ↓v_X9_wordOf_192, ↓v_X9_wordOf_207, ↓v_X9_wordOf_223, ↓v_X9_wordOf_235, ↓v_X9_wordOf_248, ↓v_X9_wordOf_261, ↓v_X9_wordOf_276, ↓v_X9_wordOf_290, ↓v_X9_wordOf_305, ↓v_X9_wordOf_319, ↓v_X9_wordOf_334, ↓v_X9_wordOf_348, ↓b_bipush, ↓b_callS6_2, ↓b_iconst, ↓b_iload_n, ↓b_lret, ↓b_tsw, ↓ldI_hit, ↓ldI_skip, ↓ldL_hit, ↓ldL_skip, ↓ldA_hit, ↓ldA_skip, ↓ldelK_nil, ↓ldelK_hit, ↓ldelK_skipI, ↓ldelK_skipA, ↓ldelK_skipL, lget_hit, lget_skip, ldel_nil, ldel_hit, ldel_skipI, ldel_skipA, ldel_skipL, ldel2_nil, ldel2_hit, ldel2_hit2, ldel2_skipI, ldel2_skipA, ldel2_skipL, vc_0, mCall_P0, mCat_nil, mCat_I, mCat_L, mCat_A, mRcv_A, mArg_nil, mArg_I, mArg_L, mArg_A, tsg, swt_nil, swt_cons, lkw_nil, lkw_cons, ↓reduceIte, Nat.reduceAdd, Nat.reduceEqDiff, Nat.reduceLeDiff, Nat.reduceMul, true_and, and_true, and_self, List.mem_cons, List.not_mem_nil, or_false, or_self, false_or, true_implies, false_implies, not_true_eq_false, not_false_eq_true, nI00, nI10, nI01, nI11, forall_const, implies_true]
    exact hK
  · rw [if_neg (by rw [e]; decide), if_neg (by rw [e]; decide), if_neg (by rw [e]; decide), if_neg (by rw [e]; decide), if_neg (by rw [e]; decide), if_neg (by rw [e]; decide), if_neg (by rw [e]; decide), if_neg (by rw [e]; decide), if_neg (by rw [e]; decide), if_neg (by rw [e]; decide), if_neg (by rw [e]; decide), if_neg (by rw [e]; decide), if_neg (by rw [e]; decide), if_neg (by rw [e]; decide), if_neg (by rw [e]; decide), if_neg (by rw [e]; decide), if_pos e] at hK
    refine c_X9_spelt ?_
    simp only [↓w_X9_wordOf_0, ↓w_X9_wordOf_88, ↓w_X9_wordOf_102, ↓w_X9_wordOf_116, ↓w_X9_wordOf_131, ↓w_X9_wordOf_146, ↓w_X9_wordOf_161, ↓w_X9_wordOf_176, ↓w_X9_wordOf_192, ↓w_X9_wordOf_207, ↓w_X9_wordOf_223, ↓w_X9_wordOf_235, ↓w_X9_wordOf_248, ↓w_X9_wordOf_261, ↓w_X9_wordOf_276, ↓w_X9_wordOf_290, ↓w_X9_wordOf_305, ↓w_X9_wordOf_319, ↓w_X9_wordOf_334, ↓w_X9_wordOf_348, ↓v_X9_wordOf_88, ↓v_X9_wordOf_102, ↓v_X9_wordOf_116, ↓v_X9_wordOf_131, ↓v_X9_wordOf_146, ↓v_X9_wordOf_161, ↓v_X9_wordOf_176, ↓v_X9_wordOf_192, ↓v_X9_wordOf_207, ↓v_X9_wordOf_223, ↓v_X9_wordOf_235, ↓v_X9_wordOf_248, ↓v_X9_wordOf_261, ↓v_X9_wordOf_276, ↓v_X9_wordOf_290, ↓v_X9_wordOf_305, ↓v_X9_wordOf_319, ↓v_X9_wordOf_334, ↓v_X9_wordOf_348, ↓b_bipush, ↓b_callS6_2, ↓b_iconst, ↓b_iload_n, ↓b_lret, ↓b_tsw, ↓ldI_hit, ↓ldI_skip, ↓ldL_hit, ↓ldL_skip, ↓ldA_hit, ↓ldA_skip, ↓ldelK_nil, ↓ldelK_hit, ↓ldelK_skipI, ↓ldelK_skipA, ↓ldelK_skipL, lget_hit, lget_skip, ldel_nil, ldel_hit, ldel_skipI, ldel_skipA, ldel_skipL, ldel2_nil, ldel2_hit, ldel2_hit2, ldel2_skipI, ldel2_skipA, ldel2_skipL, vc_0, mCall_P0, mCat_nil, mCat_I, mCat_L, mCat_A, mRcv_A, mArg_nil, mArg_I, mArg_L, mArg_A, tsg, swt_nil, swt_cons, lkw_nil, lkw_cons, ↓reduceIte, Nat.reduceAdd, Nat.reduceEqDiff, Nat.reduceLeDiff, Nat.reduceMul, true_and, and_true, and_self, List.mem_cons, List.not_mem_nil, or_false, or_self, false_or, true_implies, false_implies, not_true_eq_false, not_false_eq_true, nI00, nI10, nI01, nI11, forall_const, implies_true]
    exact hK
  · rw [if_neg (by rw [e]; decide), if_neg (by rw [e]; decide), if_neg (by rw [e]; decide), if_neg (by rw [e]; decide), if_neg (by rw [e]; decide), if_neg (by rw [e]; decide), if_neg (by rw [e]; decide), if_neg (by rw [e]; decide), if_neg (by rw [e]; decide), if_neg (by rw [e]; decide), if_neg (by rw [e]; decide), if_neg (by rw [e]; decide), if_neg (by rw [e]; decide), if_neg (by rw [e]; decide), if_neg (by rw [e]; decide), if_neg (by rw [e]; decide), if_neg (by rw [e]; decide), if_pos e] at hK
    refine c_X9_spelt ?_
    simp only [↓w_X9_wordOf_0, ↓w_X9_wordOf_88, ↓w_X9_wordOf_102, ↓w_X9_wordOf_116, ↓w_X9_wordOf_131, ↓w_X9_wordOf_146, ↓w_X9_wordOf_161, ↓w_X9_wordOf_176, ↓w_X9_wordOf_192, ↓w_X9_wordOf_207, ↓w_X9_wordOf_223, ↓w_X9_wordOf_235, ↓w_X9_wordOf_248, ↓w_X9_wordOf_261, ↓w_X9_wordOf_276, ↓w_X9_wordOf_290, ↓w_X9_wordOf_305, ↓w_X9_wordOf_319, ↓w_X9_wordOf_334, ↓w_X9_wordOf_348, ↓v_X9_wordOf_88, ↓v_X9_wordOf_102, ↓v_X9_wordOf_116, ↓v_X9_wordOf_131, ↓v_X9_wordOf_146, ↓v_X9_wordOf_161, ↓v_X9_wordOf_176, ↓v_X9_wordOf_192, ↓v_X9_wordOf_207, ↓v_X9_wordOf_223, ↓v_X9_wordOf_235, ↓v_X9_wordOf_248, ↓v_X9_wordOf_261, ↓v_X9_wordOf_276, ↓v_X9_wordOf_290, ↓v_X9_wordOf_305, ↓v_X9_wordOf_319, ↓v_X9_wordOf_334, ↓v_X9_wordOf_348, ↓b_bipush, ↓b_callS6_2, ↓b_iconst, ↓b_iload_n, ↓b_lret, ↓b_tsw, ↓ldI_hit, ↓ldI_skip, ↓ldL_hit, ↓ldL_skip, ↓ldA_hit, ↓ldA_skip, ↓ldelK_nil, ↓ldelK_hit, ↓ldelK_skipI, ↓ldelK_skipA, ↓ldelK_skipL, lget_hit, lget_skip, ldel_nil, ldel_hit, ldel_skipI, ldel_skipA, ldel_skipL, ldel2_nil, ldel2_hit, ldel2_hit2, ldel2_skipI, ldel2_skipA, ldel2_skipL, vc_0, mCall_P0, mCat_nil, mCat_I, mCat_L, mCat_A, mRcv_A, mArg_nil, mArg_I, mArg_L, mArg_A, tsg, swt_nil, swt_cons, lkw_nil, lkw_cons, ↓reduceIte, Nat.reduceAdd, Nat.reduceEqDiff, Nat.reduceLeDiff, Nat.reduceMul, true_and, and_true, and_self, List.mem_cons, List.not_mem_nil, or_false, or_self, false_or, true_implies, false_implies, not_true_eq_false, not_false_eq_true, nI00, nI10, nI01, nI11, forall_const, implies_true]
    exact hK
end
section
variable {X : mC} {h : Nat} {K : MV → Mem → Prop} {μ : Mem}
theorem c_X9_isWord {i : Nat} {k : Int32} (hK : K (.inl (bI (μ.1 i 7 = nI 2 ∧ μ.2 i 12 = wdF k))) μ) : mMet X (h + 3) m_X9_isWord [.inr (.inr (8, 0, i)), .inl k] μ K := by
  (refine vc_met2 P2_ok ok_X9_isWord cm_X9_isWord [] 6 t_X9_isWord_0 (Nat.le_of_ble_eq_true rfl) ?_; simp only [mArg_nil, mArg_I, mArg_L, mArg_A, Nat.reduceAdd])
  simp only [↓w_X9_isWord_0, ↓w_X9_isWord_24, ↓w_X9_isWord_25, ↓v_X9_isWord_24, ↓v_X9_isWord_25, ↓b_aload_n, ↓b_callS1_2, ↓b_getI, ↓b_getL, ↓b_goto, ↓b_ic_ne, ↓b_iconst, ↓b_if_ne, ↓b_iload_n, ↓b_lcmp, ↓b_zret, ↓ldI_hit, ↓ldI_skip, ↓ldL_hit, ↓ldL_skip, ↓ldA_hit, ↓ldA_skip, ↓ldelK_nil, ↓ldelK_hit, ↓ldelK_skipI, ↓ldelK_skipA, ↓ldelK_skipL, qP2_X9_wordOf, ↓bI_b, bI_0, nnot, lget_hit, lget_skip, ldel_nil, ldel_hit, ldel_skipI, ldel_skipA, ldel_skipL, ldel2_nil, ldel2_hit, ldel2_hit2, ldel2_skipI, ldel2_skipA, ldel2_skipL, vc_0, mCat_nil, mCat_I, mCat_L, mCat_A, mRcv_A, mArg_nil, mArg_I, mArg_L, mArg_A, tsg, swt_nil, swt_cons, lkw_nil, lkw_cons, ↓reduceIte, Nat.reduceAdd, Nat.reduceEqDiff, Nat.reduceLeDiff, Nat.reduceMul, true_and, and_true, and_self, List.mem_cons, List.not_mem_nil, or_false, or_self, false_or, true_implies, false_implies, not_true_eq_false, not_false_eq_true, nI00, nI10, nI01, nI11, forall_const, implies_true]
  try simp (disch := omega) only [ixq, ixz, sb_in, sb_in0, upI_sb, upI_sb0, sb_out, nI_add, nI_mul, nI_subq, Nat.zero_add, forall_eq, u2_at, u2_row, upd_at, upd_ne, nI0b, nI1b, nI00, nI10, nI01, nI11, true_implies, false_implies, not_true_eq_false, not_false_eq_true, and_true, true_and, implies_true]
  refine ⟨fun hc => ?_, fun hc => ?_⟩
  · rw [bI_f (fun z => hc z.1)] at hK; exact hK
  · refine c_X9_wordOf ?_
    simp only [↓w_X9_isWord_0, ↓w_X9_isWord_24, ↓w_X9_isWord_25, ↓v_X9_isWord_24, ↓v_X9_isWord_25, ↓b_aload_n, ↓b_callS1_2, ↓b_getI, ↓b_getL, ↓b_goto, ↓b_ic_ne, ↓b_iconst, ↓b_if_ne, ↓b_iload_n, ↓b_lcmp, ↓b_zret, ↓ldI_hit, ↓ldI_skip, ↓ldL_hit, ↓ldL_skip, ↓ldA_hit, ↓ldA_skip, ↓ldelK_nil, ↓ldelK_hit, ↓ldelK_skipI, ↓ldelK_skipA, ↓ldelK_skipL, qP2_X9_wordOf, ↓bI_b, bI_0, nnot, lget_hit, lget_skip, ldel_nil, ldel_hit, ldel_skipI, ldel_skipA, ldel_skipL, ldel2_nil, ldel2_hit, ldel2_hit2, ldel2_skipI, ldel2_skipA, ldel2_skipL, vc_0, mCat_nil, mCat_I, mCat_L, mCat_A, mRcv_A, mArg_nil, mArg_I, mArg_L, mArg_A, tsg, swt_nil, swt_cons, lkw_nil, lkw_cons, ↓reduceIte, Nat.reduceAdd, Nat.reduceEqDiff, Nat.reduceLeDiff, Nat.reduceMul, true_and, and_true, and_self, List.mem_cons, List.not_mem_nil, or_false, or_self, false_or, true_implies, false_implies, not_true_eq_false, not_false_eq_true, nI00, nI10, nI01, nI11, forall_const, implies_true]
    simp only [lg_cmp_eq]
    refine ⟨fun hc2 => ?_, fun hc2 => ?_⟩
    · rw [bI_f (fun z => hc2 z.2)] at hK; exact hK
    · rw [bI_t ⟨hc, hc2⟩] at hK; exact hK
end
def pf_X9_isWord (a : List MV) (μ : Mem) : Option MV := match a with | [.inr (.inr (8, 0, i)), .inl k] => some (.inl (bI (μ.1 i 7 = nI 2 ∧ μ.2 i 12 = wdF k))) | _ => none
def P3 : mP := pc m_X9_isIn pf_X9_isIn (pc m_X9_has pf_X9_has (pc m_X9_less pf_X9_less (pc m_X9_cell pf_X9_cell (pc m_X9_isDigit pf_X9_isDigit (pc m_X9_isLetter pf_X9_isLetter (pc m_X9_works pf_X9_works (pc m_X9_goods pf_X9_goods (pc m_X9_isRun pf_X9_isRun (pc m_X9_isSign pf_X9_isSign (pc m_X9_thrown pf_X9_thrown (pc m_X0_allWorks pf_X0_allWorks (pc m_X8_isWork pf_X8_isWork (pc m_X8_isGood pf_X8_isGood (pc m_X8_areHours pf_X8_areHours (pc m_X8_isRunning pf_X8_isRunning (pc m_X9_isWork pf_X9_isWork (pc m_X9_isGood pf_X9_isGood (pc m_X9_isSet pf_X9_isSet (pc m_X9_isHours pf_X9_isHours (pc m_X9_all pf_X9_all (pc m_X8_isSet pf_X8_isSet (pc m_X9_isWord pf_X9_isWord (P0)))))))))))))))))))))))
theorem P3_ok {X : mC} {h : Nat} : mPok X P3 (h + 3) := (pc_ok (fun a μ r hr K hK => by unfold pf_X9_isIn at hr; split at hr <;> cases hr; exact c_X9_isIn (h := h + 2) hK) (pc_ok (fun a μ r hr K hK => by unfold pf_X9_has at hr; split at hr <;> cases hr; exact c_X9_has (h := h + 2) hK) (pc_ok (fun a μ r hr K hK => by unfold pf_X9_less at hr; split at hr <;> cases hr; exact c_X9_less (h := h + 2) hK) (pc_ok (fun a μ r hr K hK => by unfold pf_X9_cell at hr; split at hr <;> cases hr; exact c_X9_cell (h := h + 2) hK) (pc_ok (fun a μ r hr K hK => by unfold pf_X9_isDigit at hr; split at hr <;> cases hr; exact c_X9_isDigit (h := h + 2) hK) (pc_ok (fun a μ r hr K hK => by unfold pf_X9_isLetter at hr; split at hr <;> cases hr; exact c_X9_isLetter (h := h + 2) hK) (pc_ok (fun a μ r hr K hK => by unfold pf_X9_works at hr; split at hr <;> cases hr; exact c_X9_works (h := h + 2) hK) (pc_ok (fun a μ r hr K hK => by unfold pf_X9_goods at hr; split at hr <;> cases hr; exact c_X9_goods (h := h + 2) hK) (pc_ok (fun a μ r hr K hK => by unfold pf_X9_isRun at hr; split at hr <;> cases hr; exact c_X9_isRun (h := h + 2) hK) (pc_ok (fun a μ r hr K hK => by unfold pf_X9_isSign at hr; split at hr <;> cases hr; exact c_X9_isSign (h := h + 2) hK) (pc_ok (fun a μ r hr K hK => by unfold pf_X9_thrown at hr; split at hr <;> cases hr; exact c_X9_thrown (h := h + 2) hK) (pc_ok (fun a μ r hr K hK => by unfold pf_X0_allWorks at hr; split at hr <;> cases hr; exact c_X0_allWorks (h := h + 2) hK) (pc_ok (fun a μ r hr K hK => by unfold pf_X8_isWork at hr; split at hr <;> cases hr; exact c_X8_isWork (h := h + 2) hK) (pc_ok (fun a μ r hr K hK => by unfold pf_X8_isGood at hr; split at hr <;> cases hr; exact c_X8_isGood (h := h + 2) hK) (pc_ok (fun a μ r hr K hK => by unfold pf_X8_areHours at hr; split at hr <;> cases hr; exact c_X8_areHours (h := h + 2) hK) (pc_ok (fun a μ r hr K hK => by unfold pf_X8_isRunning at hr; split at hr <;> cases hr; exact c_X8_isRunning (h := h + 2) hK) (pc_ok (fun a μ r hr K hK => by unfold pf_X9_isWork at hr; split at hr <;> cases hr; exact c_X9_isWork (h := h + 1) hK) (pc_ok (fun a μ r hr K hK => by unfold pf_X9_isGood at hr; split at hr <;> cases hr; exact c_X9_isGood (h := h + 1) hK) (pc_ok (fun a μ r hr K hK => by unfold pf_X9_isSet at hr; split at hr <;> cases hr; exact c_X9_isSet (h := h + 1) hK) (pc_ok (fun a μ r hr K hK => by unfold pf_X9_isHours at hr; split at hr <;> cases hr; exact c_X9_isHours (h := h + 1) hK) (pc_ok (fun a μ r hr K hK => by unfold pf_X9_all at hr; split at hr <;> cases hr; exact c_X9_all (h := h + 1) hK) (pc_ok (fun a μ r hr K hK => by unfold pf_X8_isSet at hr; split at hr <;> cases hr; exact c_X8_isSet (h := h + 1) hK) (pc_ok (fun a μ r hr K hK => by unfold pf_X9_isWord at hr; split at hr <;> cases hr; exact c_X9_isWord (h := h + 0) hK) P0_ok)))))))))))))))))))))))
section
variable {X : mC} {h : Nat} {K : MV → Mem → Prop} {μ : Mem}
theorem qP3_J6_bitCount_0f7a4 {a : List MV} : mCall X P3 h m_J6_bitCount_0f7a4 a μ K = mMet X h m_J6_bitCount_0f7a4 a μ K := rfl
theorem qP3_J7_fill_53178 {a : List MV} : mCall X P3 h m_J7_fill_53178 a μ K = mMet X h m_J7_fill_53178 a μ K := rfl
theorem qP3_X0_allWorks {i : Nat} : mCall X P3 h m_X0_allWorks [.inr (.inr (0, 0, i))] μ K = K (.inl (nI 1 <<< (μ.1 i 1 &&& 31) - nI 1)) μ := mCall_some rfl
theorem qP3_X0_clear {a : List MV} : mCall X P3 h m_X0_clear a μ K = mMet X h m_X0_clear a μ K := rfl
theorem qP3_X0_copyFrom {a : List MV} : mCall X P3 h m_X0_copyFrom a μ K = mMet X h m_X0_copyFrom a μ K := rfl
theorem qP3_X0_exchange {a : List MV} : mCall X P3 h m_X0_exchange a μ K = mMet X h m_X0_exchange a μ K := rfl
theorem qP3_X0_exchangeWithNext {a : List MV} : mCall X P3 h m_X0_exchangeWithNext a μ K = mMet X h m_X0_exchangeWithNext a μ K := rfl
theorem qP3_X0_findGood {a : List MV} : mCall X P3 h m_X0_findGood a μ K = mMet X h m_X0_findGood a μ K := rfl
theorem qP3_X0_findWork {a : List MV} : mCall X P3 h m_X0_findWork a μ K = mMet X h m_X0_findWork a μ K := rfl
theorem qP3_X0_goodNamed {a : List MV} : mCall X P3 h m_X0_goodNamed a μ K = mMet X h m_X0_goodNamed a μ K := rfl
theorem qP3_X0_isNewName {a : List MV} : mCall X P3 h m_X0_isNewName a μ K = mMet X h m_X0_isNewName a μ K := rfl
theorem qP3_X0_readAmount {a : List MV} : mCall X P3 h m_X0_readAmount a μ K = mMet X h m_X0_readAmount a μ K := rfl
theorem qP3_X0_readFrom {a : List MV} : mCall X P3 h m_X0_readFrom a μ K = mMet X h m_X0_readFrom a μ K := rfl
theorem qP3_X0_readGood {a : List MV} : mCall X P3 h m_X0_readGood a μ K = mMet X h m_X0_readGood a μ K := rfl
theorem qP3_X0_readJoined {a : List MV} : mCall X P3 h m_X0_readJoined a μ K = mMet X h m_X0_readJoined a μ K := rfl
theorem qP3_X0_readLine {a : List MV} : mCall X P3 h m_X0_readLine a μ K = mMet X h m_X0_readLine a μ K := rfl
theorem qP3_X0_readMakes {a : List MV} : mCall X P3 h m_X0_readMakes a μ K = mMet X h m_X0_readMakes a μ K := rfl
theorem qP3_X0_readNew {a : List MV} : mCall X P3 h m_X0_readNew a μ K = mMet X h m_X0_readNew a μ K := rfl
theorem qP3_X0_readTakes {a : List MV} : mCall X P3 h m_X0_readTakes a μ K = mMet X h m_X0_readTakes a μ K := rfl
theorem qP3_X0_readWork {a : List MV} : mCall X P3 h m_X0_readWork a μ K = mMet X h m_X0_readWork a μ K := rfl
theorem qP3_X0_takeCell {a : List MV} : mCall X P3 h m_X0_takeCell a μ K = mMet X h m_X0_takeCell a μ K := rfl
theorem qP3_X0_workNamed {a : List MV} : mCall X P3 h m_X0_workNamed a μ K = mMet X h m_X0_workNamed a μ K := rfl
theorem qP3_X3_bringAll {a : List MV} : mCall X P3 h m_X3_bringAll a μ K = mMet X h m_X3_bringAll a μ K := rfl
theorem qP3_X3_clear {a : List MV} : mCall X P3 h m_X3_clear a μ K = mMet X h m_X3_clear a μ K := rfl
theorem qP3_X3_copyFrom {a : List MV} : mCall X P3 h m_X3_copyFrom a μ K = mMet X h m_X3_copyFrom a μ K := rfl
theorem qP3_X3_readBring {a : List MV} : mCall X P3 h m_X3_readBring a μ K = mMet X h m_X3_readBring a μ K := rfl
theorem qP3_X3_readFrom {a : List MV} : mCall X P3 h m_X3_readFrom a μ K = mMet X h m_X3_readFrom a μ K := rfl
theorem qP3_X3_readLine {a : List MV} : mCall X P3 h m_X3_readLine a μ K = mMet X h m_X3_readLine a μ K := rfl
theorem qP3_X3_readStop {a : List MV} : mCall X P3 h m_X3_readStop a μ K = mMet X h m_X3_readStop a μ K := rfl
theorem qP3_X3_stoppedAt {a : List MV} : mCall X P3 h m_X3_stoppedAt a μ K = mMet X h m_X3_stoppedAt a μ K := rfl
theorem qP3_X4_allGo {a : List MV} : mCall X P3 h m_X4_allGo a μ K = mMet X h m_X4_allGo a μ K := rfl
theorem qP3_X4_bring {a : List MV} : mCall X P3 h m_X4_bring a μ K = mMet X h m_X4_bring a μ K := rfl
theorem qP3_X4_comeToWork {a : List MV} : mCall X P3 h m_X4_comeToWork a μ K = mMet X h m_X4_comeToWork a μ K := rfl
theorem qP3_X4_copyFrom {a : List MV} : mCall X P3 h m_X4_copyFrom a μ K = mMet X h m_X4_copyFrom a μ K := rfl
theorem qP3_X4_goOnce {a : List MV} : mCall X P3 h m_X4_goOnce a μ K = mMet X h m_X4_goOnce a μ K := rfl
theorem qP3_X4_hasAll {a : List MV} : mCall X P3 h m_X4_hasAll a μ K = mMet X h m_X4_hasAll a μ K := rfl
theorem qP3_X4_inVats {a : List MV} : mCall X P3 h m_X4_inVats a μ K = mMet X h m_X4_inVats a μ K := rfl
theorem qP3_X4_isLike {a : List MV} : mCall X P3 h m_X4_isLike a μ K = mMet X h m_X4_isLike a μ K := rfl
theorem qP3_X4_isSteady {a : List MV} : mCall X P3 h m_X4_isSteady a μ K = mMet X h m_X4_isSteady a μ K := rfl
theorem qP3_X4_lessen {a : List MV} : mCall X P3 h m_X4_lessen a μ K = mMet X h m_X4_lessen a μ K := rfl
theorem qP3_X4_letOut {a : List MV} : mCall X P3 h m_X4_letOut a μ K = mMet X h m_X4_letOut a μ K := rfl
theorem qP3_X4_loseOnWay {a : List MV} : mCall X P3 h m_X4_loseOnWay a μ K = mMet X h m_X4_loseOnWay a μ K := rfl
theorem qP3_X4_pass {a : List MV} : mCall X P3 h m_X4_pass a μ K = mMet X h m_X4_pass a μ K := rfl
theorem qP3_X4_passMany {a : List MV} : mCall X P3 h m_X4_passMany a μ K = mMet X h m_X4_passMany a μ K := rfl
theorem qP3_X4_startAsTold {a : List MV} : mCall X P3 h m_X4_startAsTold a μ K = mMet X h m_X4_startAsTold a μ K := rfl
theorem qP3_X4_startEmpty {a : List MV} : mCall X P3 h m_X4_startEmpty a μ K = mMet X h m_X4_startEmpty a μ K := rfl
theorem qP3_X4_startKindled {a : List MV} : mCall X P3 h m_X4_startKindled a μ K = mMet X h m_X4_startKindled a μ K := rfl
theorem qP3_X4_total {a : List MV} : mCall X P3 h m_X4_total a μ K = mMet X h m_X4_total a μ K := rfl
theorem qP3_X4_wentLately {a : List MV} : mCall X P3 h m_X4_wentLately a μ K = mMet X h m_X4_wentLately a μ K := rfl
theorem qP3_X5_addStep {a : List MV} : mCall X P3 h m_X5_addStep a μ K = mMet X h m_X5_addStep a μ K := rfl
theorem qP3_X5_clear {a : List MV} : mCall X P3 h m_X5_clear a μ K = mMet X h m_X5_clear a μ K := rfl
theorem qP3_X5_compares {a : List MV} : mCall X P3 h m_X5_compares a μ K = mMet X h m_X5_compares a μ K := rfl
theorem qP3_X5_copyFrom {a : List MV} : mCall X P3 h m_X5_copyFrom a μ K = mMet X h m_X5_copyFrom a μ K := rfl
theorem qP3_X5_isStepTrueOf {a : List MV} : mCall X P3 h m_X5_isStepTrueOf a μ K = mMet X h m_X5_isStepTrueOf a μ K := rfl
theorem qP3_X5_isTrueOf {a : List MV} : mCall X P3 h m_X5_isTrueOf a μ K = mMet X h m_X5_isTrueOf a μ K := rfl
theorem qP3_X5_readAll {a : List MV} : mCall X P3 h m_X5_readAll a μ K = mMet X h m_X5_readAll a μ K := rfl
theorem qP3_X5_readComparison {a : List MV} : mCall X P3 h m_X5_readComparison a μ K = mMet X h m_X5_readComparison a μ K := rfl
theorem qP3_X5_readCondition {a : List MV} : mCall X P3 h m_X5_readCondition a μ K = mMet X h m_X5_readCondition a μ K := rfl
theorem qP3_X5_readFrom {a : List MV} : mCall X P3 h m_X5_readFrom a μ K = mMet X h m_X5_readFrom a μ K := rfl
theorem qP3_X5_readNamed {a : List MV} : mCall X P3 h m_X5_readNamed a μ K = mMet X h m_X5_readNamed a μ K := rfl
theorem qP3_X5_readOne {a : List MV} : mCall X P3 h m_X5_readOne a μ K = mMet X h m_X5_readOne a μ K := rfl
theorem qP3_X6_advance {a : List MV} : mCall X P3 h m_X6_advance a μ K = mMet X h m_X6_advance a μ K := rfl
theorem qP3_X6_fail {a : List MV} : mCall X P3 h m_X6_fail a μ K = mMet X h m_X6_fail a μ K := rfl
theorem qP3_X6_hasRoomForFive {a : List MV} : mCall X P3 h m_X6_hasRoomForFive a μ K = mMet X h m_X6_hasRoomForFive a μ K := rfl
theorem qP3_X6_isComparing {a : List MV} : mCall X P3 h m_X6_isComparing a μ K = mMet X h m_X6_isComparing a μ K := rfl
theorem qP3_X6_isName {a : List MV} : mCall X P3 h m_X6_isName a μ K = mMet X h m_X6_isName a μ K := rfl
theorem qP3_X6_isThisSign {a : List MV} : mCall X P3 h m_X6_isThisSign a μ K = mMet X h m_X6_isThisSign a μ K := rfl
theorem qP3_X6_openText {a : List MV} : mCall X P3 h m_X6_openText a μ K = mMet X h m_X6_openText a μ K := rfl
theorem qP3_X6_putNumber {a : List MV} : mCall X P3 h m_X6_putNumber a μ K = mMet X h m_X6_putNumber a μ K := rfl
theorem qP3_X6_readToken {a : List MV} : mCall X P3 h m_X6_readToken a μ K = mMet X h m_X6_readToken a μ K := rfl
theorem qP3_X6_takeNumber {a : List MV} : mCall X P3 h m_X6_takeNumber a μ K = mMet X h m_X6_takeNumber a μ K := rfl
theorem qP3_X6_takeSign {a : List MV} : mCall X P3 h m_X6_takeSign a μ K = mMet X h m_X6_takeSign a μ K := rfl
theorem qP3_X7_putByte {a : List MV} : mCall X P3 h m_X7_putByte a μ K = mMet X h m_X7_putByte a μ K := rfl
theorem qP3_X7_putName {a : List MV} : mCall X P3 h m_X7_putName a μ K = mMet X h m_X7_putName a μ K := rfl
theorem qP3_X7_putNumber {a : List MV} : mCall X P3 h m_X7_putNumber a μ K = mMet X h m_X7_putNumber a μ K := rfl
theorem qP3_X8_again {a : List MV} : mCall X P3 h m_X8_again a μ K = mMet X h m_X8_again a μ K := rfl
theorem qP3_X8_areHours {n : Int32} : mCall X P3 h m_X8_areHours [.inl n] μ K = K (.inl (bI (nI 1 ≤ n ∧ n ≤ nI 200))) μ := mCall_some rfl
theorem qP3_X8_at {a : List MV} : mCall X P3 h m_X8_at a μ K = mMet X h m_X8_at a μ K := rfl
theorem qP3_X8_begin {a : List MV} : mCall X P3 h m_X8_begin a μ K = mMet X h m_X8_begin a μ K := rfl
theorem qP3_X8_brook {a : List MV} : mCall X P3 h m_X8_brook a μ K = mMet X h m_X8_brook a μ K := rfl
theorem qP3_X8_by {a : List MV} : mCall X P3 h m_X8_by a μ K = mMet X h m_X8_by a μ K := rfl
theorem qP3_X8_byteAt {a : List MV} : mCall X P3 h m_X8_byteAt a μ K = mMet X h m_X8_byteAt a μ K := rfl
theorem qP3_X8_closeTape {a : List MV} : mCall X P3 h m_X8_closeTape a μ K = mMet X h m_X8_closeTape a μ K := rfl
theorem qP3_X8_comes {a : List MV} : mCall X P3 h m_X8_comes a μ K = mMet X h m_X8_comes a μ K := rfl
theorem qP3_X8_commonDivisor {a : List MV} : mCall X P3 h m_X8_commonDivisor a μ K = mMet X h m_X8_commonDivisor a μ K := rfl
theorem qP3_X8_count {a : List MV} : mCall X P3 h m_X8_count a μ K = mMet X h m_X8_count a μ K := rfl
theorem qP3_X8_countTold {a : List MV} : mCall X P3 h m_X8_countTold a μ K = mMet X h m_X8_countTold a μ K := rfl
theorem qP3_X8_dry {a : List MV} : mCall X P3 h m_X8_dry a μ K = mMet X h m_X8_dry a μ K := rfl
theorem qP3_X8_end {a : List MV} : mCall X P3 h m_X8_end a μ K = mMet X h m_X8_end a μ K := rfl
theorem qP3_X8_exchanged {a : List MV} : mCall X P3 h m_X8_exchanged a μ K = mMet X h m_X8_exchanged a μ K := rfl
theorem qP3_X8_falls {a : List MV} : mCall X P3 h m_X8_falls a μ K = mMet X h m_X8_falls a μ K := rfl
theorem qP3_X8_fault {a : List MV} : mCall X P3 h m_X8_fault a μ K = mMet X h m_X8_fault a μ K := rfl
theorem qP3_X8_fed {a : List MV} : mCall X P3 h m_X8_fed a μ K = mMet X h m_X8_fed a μ K := rfl
theorem qP3_X8_feed {a : List MV} : mCall X P3 h m_X8_feed a μ K = mMet X h m_X8_feed a μ K := rfl
theorem qP3_X8_firstHourOfPeriod {a : List MV} : mCall X P3 h m_X8_firstHourOfPeriod a μ K = mMet X h m_X8_firstHourOfPeriod a μ K := rfl
theorem qP3_X8_firstOf {a : List MV} : mCall X P3 h m_X8_firstOf a μ K = mMet X h m_X8_firstOf a μ K := rfl
theorem qP3_X8_goes {a : List MV} : mCall X P3 h m_X8_goes a μ K = mMet X h m_X8_goes a μ K := rfl
theorem qP3_X8_goodsOf {a : List MV} : mCall X P3 h m_X8_goodsOf a μ K = mMet X h m_X8_goodsOf a μ K := rfl
theorem qP3_X8_greatest {a : List MV} : mCall X P3 h m_X8_greatest a μ K = mMet X h m_X8_greatest a μ K := rfl
theorem qP3_X8_greatestOf {a : List MV} : mCall X P3 h m_X8_greatestOf a μ K = mMet X h m_X8_greatestOf a μ K := rfl
theorem qP3_X8_hour {a : List MV} : mCall X P3 h m_X8_hour a μ K = mMet X h m_X8_hour a μ K := rfl
theorem qP3_X8_image {a : List MV} : mCall X P3 h m_X8_image a μ K = mMet X h m_X8_image a μ K := rfl
theorem qP3_X8_isGood {i : Nat} {w : Int32} : mCall X P3 h m_X8_isGood [.inr (.inr (7, 0, i)), .inl w] μ K = K (.inl (bI (0 ≤ w ∧ w < μ.1 (i + 4) 0))) μ := mCall_some rfl
theorem qP3_X8_isRunning {i : Nat} : mCall X P3 h m_X8_isRunning [.inr (.inr (7, 0, i))] μ K = K (.inl (bI (¬ μ.1 (i + 50) 0 = -1))) μ := mCall_some rfl
theorem qP3_X8_isSet {i : Nat} {s : Int32} : mCall X P3 h m_X8_isSet [.inr (.inr (7, 0, i)), .inl s] μ K = K (.inl (bI (0 ≤ s ∧ s ≤ nI 1 <<< (μ.1 (i + 4) 1 &&& 31) - nI 1))) μ := mCall_some rfl
theorem qP3_X8_isVatOfRun {a : List MV} : mCall X P3 h m_X8_isVatOfRun a μ K = mMet X h m_X8_isVatOfRun a μ K := rfl
theorem qP3_X8_isWork {i : Nat} {w : Int32} : mCall X P3 h m_X8_isWork [.inr (.inr (7, 0, i)), .inl w] μ K = K (.inl (bI (0 ≤ w ∧ w < μ.1 (i + 4) 1))) μ := mCall_some rfl
theorem qP3_X8_kept {a : List MV} : mCall X P3 h m_X8_kept a μ K = mMet X h m_X8_kept a μ K := rfl
theorem qP3_X8_kindle {a : List MV} : mCall X P3 h m_X8_kindle a μ K = mMet X h m_X8_kindle a μ K := rfl
theorem qP3_X8_kindled {a : List MV} : mCall X P3 h m_X8_kindled a μ K = mMet X h m_X8_kindled a μ K := rfl
theorem qP3_X8_lacks {a : List MV} : mCall X P3 h m_X8_lacks a μ K = mMet X h m_X8_lacks a μ K := rfl
theorem qP3_X8_longer {a : List MV} : mCall X P3 h m_X8_longer a μ K = mMet X h m_X8_longer a μ K := rfl
theorem qP3_X8_loss {a : List MV} : mCall X P3 h m_X8_loss a μ K = mMet X h m_X8_loss a μ K := rfl
theorem qP3_X8_made {a : List MV} : mCall X P3 h m_X8_made a μ K = mMet X h m_X8_made a μ K := rfl
theorem qP3_X8_madeAlone {a : List MV} : mCall X P3 h m_X8_madeAlone a μ K = mMet X h m_X8_madeAlone a μ K := rfl
theorem qP3_X8_needed {a : List MV} : mCall X P3 h m_X8_needed a μ K = mMet X h m_X8_needed a μ K := rfl
theorem qP3_X8_on {a : List MV} : mCall X P3 h m_X8_on a μ K = mMet X h m_X8_on a μ K := rfl
theorem qP3_X8_order {a : List MV} : mCall X P3 h m_X8_order a μ K = mMet X h m_X8_order a μ K := rfl
theorem qP3_X8_parts {a : List MV} : mCall X P3 h m_X8_parts a μ K = mMet X h m_X8_parts a μ K := rfl
theorem qP3_X8_periodAtEnd {a : List MV} : mCall X P3 h m_X8_periodAtEnd a μ K = mMet X h m_X8_periodAtEnd a μ K := rfl
theorem qP3_X8_plan {a : List MV} : mCall X P3 h m_X8_plan a μ K = mMet X h m_X8_plan a μ K := rfl
theorem qP3_X8_rest {a : List MV} : mCall X P3 h m_X8_rest a μ K = mMet X h m_X8_rest a μ K := rfl
theorem qP3_X8_restore {a : List MV} : mCall X P3 h m_X8_restore a μ K = mMet X h m_X8_restore a μ K := rfl
theorem qP3_X8_said {a : List MV} : mCall X P3 h m_X8_said a μ K = mMet X h m_X8_said a μ K := rfl
theorem qP3_X8_sentence {a : List MV} : mCall X P3 h m_X8_sentence a μ K = mMet X h m_X8_sentence a μ K := rfl
theorem qP3_X8_setWorth {a : List MV} : mCall X P3 h m_X8_setWorth a μ K = mMet X h m_X8_setWorth a μ K := rfl
theorem qP3_X8_sharesOf {a : List MV} : mCall X P3 h m_X8_sharesOf a μ K = mMet X h m_X8_sharesOf a μ K := rfl
theorem qP3_X8_steadies {a : List MV} : mCall X P3 h m_X8_steadies a μ K = mMet X h m_X8_steadies a μ K := rfl
theorem qP3_X8_steady {a : List MV} : mCall X P3 h m_X8_steady a μ K = mMet X h m_X8_steady a μ K := rfl
theorem qP3_X8_vat {a : List MV} : mCall X P3 h m_X8_vat a μ K = mMet X h m_X8_vat a μ K := rfl
theorem qP3_X8_went {a : List MV} : mCall X P3 h m_X8_went a μ K = mMet X h m_X8_went a μ K := rfl
theorem qP3_X8_wider {a : List MV} : mCall X P3 h m_X8_wider a μ K = mMet X h m_X8_wider a μ K := rfl
theorem qP3_X8_work {a : List MV} : mCall X P3 h m_X8_work a μ K = mMet X h m_X8_work a μ K := rfl
theorem qP3_X8_worth {a : List MV} : mCall X P3 h m_X8_worth a μ K = mMet X h m_X8_worth a μ K := rfl
theorem qP3_X8_worthOf {a : List MV} : mCall X P3 h m_X8_worthOf a μ K = mMet X h m_X8_worthOf a μ K := rfl
theorem qP3_X8_write {a : List MV} : mCall X P3 h m_X8_write a μ K = mMet X h m_X8_write a μ K := rfl
theorem qP3_X9_again {a : List MV} : mCall X P3 h m_X9_again a μ K = mMet X h m_X9_again a μ K := rfl
theorem qP3_X9_all {i : Nat} : mCall X P3 h m_X9_all [.inr (.inr (8, 0, i))] μ K = K (.inl (nI 1 <<< (μ.1 (i + 2) 1 &&& 31) - nI 1)) μ := mCall_some rfl
theorem qP3_X9_areLike {a : List MV} : mCall X P3 h m_X9_areLike a μ K = mMet X h m_X9_areLike a μ K := rfl
theorem qP3_X9_at {a : List MV} : mCall X P3 h m_X9_at a μ K = mMet X h m_X9_at a μ K := rfl
theorem qP3_X9_bad {a : List MV} : mCall X P3 h m_X9_bad a μ K = mMet X h m_X9_bad a μ K := rfl
theorem qP3_X9_begin {a : List MV} : mCall X P3 h m_X9_begin a μ K = mMet X h m_X9_begin a μ K := rfl
theorem qP3_X9_begin_ {a : List MV} : mCall X P3 h m_X9_begin_ a μ K = mMet X h m_X9_begin_ a μ K := rfl
theorem qP3_X9_bits {a : List MV} : mCall X P3 h m_X9_bits a μ K = mMet X h m_X9_bits a μ K := rfl
theorem qP3_X9_bring {a : List MV} : mCall X P3 h m_X9_bring a μ K = mMet X h m_X9_bring a μ K := rfl
theorem qP3_X9_brook {a : List MV} : mCall X P3 h m_X9_brook a μ K = mMet X h m_X9_brook a μ K := rfl
theorem qP3_X9_by {a : List MV} : mCall X P3 h m_X9_by a μ K = mMet X h m_X9_by a μ K := rfl
theorem qP3_X9_byteAt {a : List MV} : mCall X P3 h m_X9_byteAt a μ K = mMet X h m_X9_byteAt a μ K := rfl
theorem qP3_X9_cell {w g : Int32} : mCall X P3 h m_X9_cell [.inl w, .inl g] μ K = K (.inl (w * nI 6 + g)) μ := mCall_some rfl
theorem qP3_X9_change {a : List MV} : mCall X P3 h m_X9_change a μ K = mMet X h m_X9_change a μ K := rfl
theorem qP3_X9_come {a : List MV} : mCall X P3 h m_X9_come a μ K = mMet X h m_X9_come a μ K := rfl
theorem qP3_X9_comes {a : List MV} : mCall X P3 h m_X9_comes a μ K = mMet X h m_X9_comes a μ K := rfl
theorem qP3_X9_count {a : List MV} : mCall X P3 h m_X9_count a μ K = mMet X h m_X9_count a μ K := rfl
theorem qP3_X9_dry {a : List MV} : mCall X P3 h m_X9_dry a μ K = mMet X h m_X9_dry a μ K := rfl
theorem qP3_X9_end {a : List MV} : mCall X P3 h m_X9_end a μ K = mMet X h m_X9_end a μ K := rfl
theorem qP3_X9_exchanged {a : List MV} : mCall X P3 h m_X9_exchanged a μ K = mMet X h m_X9_exchanged a μ K := rfl
theorem qP3_X9_falls {a : List MV} : mCall X P3 h m_X9_falls a μ K = mMet X h m_X9_falls a μ K := rfl
theorem qP3_X9_fault {a : List MV} : mCall X P3 h m_X9_fault a μ K = mMet X h m_X9_fault a μ K := rfl
theorem qP3_X9_fed {a : List MV} : mCall X P3 h m_X9_fed a μ K = mMet X h m_X9_fed a μ K := rfl
theorem qP3_X9_feed {a : List MV} : mCall X P3 h m_X9_feed a μ K = mMet X h m_X9_feed a μ K := rfl
theorem qP3_X9_fill {a : List MV} : mCall X P3 h m_X9_fill a μ K = mMet X h m_X9_fill a μ K := rfl
theorem qP3_X9_findIn {a : List MV} : mCall X P3 h m_X9_findIn a μ K = mMet X h m_X9_findIn a μ K := rfl
theorem qP3_X9_go {a : List MV} : mCall X P3 h m_X9_go a μ K = mMet X h m_X9_go a μ K := rfl
theorem qP3_X9_goes {a : List MV} : mCall X P3 h m_X9_goes a μ K = mMet X h m_X9_goes a μ K := rfl
theorem qP3_X9_goes_ {a : List MV} : mCall X P3 h m_X9_goes_ a μ K = mMet X h m_X9_goes_ a μ K := rfl
theorem qP3_X9_goods {i : Nat} : mCall X P3 h m_X9_goods [.inr (.inr (8, 0, i))] μ K = K (.inl (μ.1 (i + 2) 0)) μ := mCall_some rfl
theorem qP3_X9_goodsIn {a : List MV} : mCall X P3 h m_X9_goodsIn a μ K = mMet X h m_X9_goodsIn a μ K := rfl
theorem qP3_X9_greatest {a : List MV} : mCall X P3 h m_X9_greatest a μ K = mMet X h m_X9_greatest a μ K := rfl
theorem qP3_X9_greatestOf {a : List MV} : mCall X P3 h m_X9_greatestOf a μ K = mMet X h m_X9_greatestOf a μ K := rfl
theorem qP3_X9_has {s k : Int32} : mCall X P3 h m_X9_has [.inl s, .inl k] μ K = K (.inl (bI (s >>> (k &&& 31) &&& nI 1 = nI 1))) μ := mCall_some rfl
theorem qP3_X9_holds {a : List MV} : mCall X P3 h m_X9_holds a μ K = mMet X h m_X9_holds a μ K := rfl
theorem qP3_X9_hour {a : List MV} : mCall X P3 h m_X9_hour a μ K = mMet X h m_X9_hour a μ K := rfl
theorem qP3_X9_hour_ {a : List MV} : mCall X P3 h m_X9_hour_ a μ K = mMet X h m_X9_hour_ a μ K := rfl
theorem qP3_X9_image {a : List MV} : mCall X P3 h m_X9_image a μ K = mMet X h m_X9_image a μ K := rfl
theorem qP3_X9_isDigit {c : Int32} : mCall X P3 h m_X9_isDigit [.inl c] μ K = K (.inl (bI (nI 48 ≤ c ∧ c ≤ nI 57))) μ := mCall_some rfl
theorem qP3_X9_isGood {i : Nat} {w : Int32} : mCall X P3 h m_X9_isGood [.inr (.inr (8, 0, i)), .inl w] μ K = K (.inl (bI (0 ≤ w ∧ w < μ.1 (i + 2) 0))) μ := mCall_some rfl
theorem qP3_X9_isHours {n : Int32} : mCall X P3 h m_X9_isHours [.inl n] μ K = K (.inl (bI (nI 1 ≤ n ∧ n ≤ nI 200))) μ := mCall_some rfl
theorem qP3_X9_isIn {v lo hi : Int32} : mCall X P3 h m_X9_isIn [.inl v, .inl lo, .inl hi] μ K = K (.inl (bI (lo ≤ v ∧ v ≤ hi))) μ := mCall_some rfl
theorem qP3_X9_isLetter {c : Int32} : mCall X P3 h m_X9_isLetter [.inl c] μ K = K (.inl (bI (nI 97 ≤ c ∧ c ≤ nI 122))) μ := mCall_some rfl
theorem qP3_X9_isName {a : List MV} : mCall X P3 h m_X9_isName a μ K = mMet X h m_X9_isName a μ K := rfl
theorem qP3_X9_isRun {i : Nat} : mCall X P3 h m_X9_isRun [.inr (.inr (8, 0, i))] μ K = K (.inl (bI (0 < μ.1 (i + 2) 621))) μ := mCall_some rfl
theorem qP3_X9_isSet {i : Nat} {s : Int32} : mCall X P3 h m_X9_isSet [.inr (.inr (8, 0, i)), .inl s] μ K = K (.inl (bI (0 ≤ s ∧ s < nI 1 <<< (μ.1 (i + 2) 1 &&& 31)))) μ := mCall_some rfl
theorem qP3_X9_isSign {i : Nat} {c : Int32} : mCall X P3 h m_X9_isSign [.inr (.inr (8, 0, i)), .inl c] μ K = K (.inl (bI (μ.1 i 7 = nI 4 ∧ μ.1 i 9 = c))) μ := mCall_some rfl
theorem qP3_X9_isSteady {a : List MV} : mCall X P3 h m_X9_isSteady a μ K = mMet X h m_X9_isSteady a μ K := rfl
theorem qP3_X9_isSteady_ {a : List MV} : mCall X P3 h m_X9_isSteady_ a μ K = mMet X h m_X9_isSteady_ a μ K := rfl
theorem qP3_X9_isStopped {a : List MV} : mCall X P3 h m_X9_isStopped a μ K = mMet X h m_X9_isStopped a μ K := rfl
theorem qP3_X9_isToldGood {a : List MV} : mCall X P3 h m_X9_isToldGood a μ K = mMet X h m_X9_isToldGood a μ K := rfl
theorem qP3_X9_isToldWork {a : List MV} : mCall X P3 h m_X9_isToldWork a μ K = mMet X h m_X9_isToldWork a μ K := rfl
theorem qP3_X9_isVat {a : List MV} : mCall X P3 h m_X9_isVat a μ K = mMet X h m_X9_isVat a μ K := rfl
theorem qP3_X9_isWord {i : Nat} {k : Int32} : mCall X P3 h m_X9_isWord [.inr (.inr (8, 0, i)), .inl k] μ K = K (.inl (bI (μ.1 i 7 = nI 2 ∧ μ.2 i 12 = wdF k))) μ := mCall_some rfl
theorem qP3_X9_isWork {i : Nat} {w : Int32} : mCall X P3 h m_X9_isWork [.inr (.inr (8, 0, i)), .inl w] μ K = K (.inl (bI (0 ≤ w ∧ w < μ.1 (i + 2) 1))) μ := mCall_some rfl
theorem qP3_X9_kept {a : List MV} : mCall X P3 h m_X9_kept a μ K = mMet X h m_X9_kept a μ K := rfl
theorem qP3_X9_kindle {a : List MV} : mCall X P3 h m_X9_kindle a μ K = mMet X h m_X9_kindle a μ K := rfl
theorem qP3_X9_kindled {a : List MV} : mCall X P3 h m_X9_kindled a μ K = mMet X h m_X9_kindled a μ K := rfl
theorem qP3_X9_kindles {a : List MV} : mCall X P3 h m_X9_kindles a μ K = mMet X h m_X9_kindles a μ K := rfl
theorem qP3_X9_lacks {a : List MV} : mCall X P3 h m_X9_lacks a μ K = mMet X h m_X9_lacks a μ K := rfl
theorem qP3_X9_layRule {a : List MV} : mCall X P3 h m_X9_layRule a μ K = mMet X h m_X9_layRule a μ K := rfl
theorem qP3_X9_layValues {a : List MV} : mCall X P3 h m_X9_layValues a μ K = mMet X h m_X9_layValues a μ K := rfl
theorem qP3_X9_lays {a : List MV} : mCall X P3 h m_X9_lays a μ K = mMet X h m_X9_lays a μ K := rfl
theorem qP3_X9_less {x y : Int32} : mCall X P3 h m_X9_less [.inl x, .inl y] μ K = K (.inl (if x < y then x else y)) μ := mCall_some rfl
theorem qP3_X9_longer {a : List MV} : mCall X P3 h m_X9_longer a μ K = mMet X h m_X9_longer a μ K := rfl
theorem qP3_X9_lose {a : List MV} : mCall X P3 h m_X9_lose a μ K = mMet X h m_X9_lose a μ K := rfl
theorem qP3_X9_loss {a : List MV} : mCall X P3 h m_X9_loss a μ K = mMet X h m_X9_loss a μ K := rfl
theorem qP3_X9_made {a : List MV} : mCall X P3 h m_X9_made a μ K = mMet X h m_X9_made a μ K := rfl
theorem qP3_X9_madeBy {a : List MV} : mCall X P3 h m_X9_madeBy a μ K = mMet X h m_X9_madeBy a μ K := rfl
theorem qP3_X9_madeIn {a : List MV} : mCall X P3 h m_X9_madeIn a μ K = mMet X h m_X9_madeIn a μ K := rfl
theorem qP3_X9_mayGo {a : List MV} : mCall X P3 h m_X9_mayGo a μ K = mMet X h m_X9_mayGo a μ K := rfl
theorem qP3_X9_needed {a : List MV} : mCall X P3 h m_X9_needed a μ K = mMet X h m_X9_needed a μ K := rfl
theorem qP3_X9_on {a : List MV} : mCall X P3 h m_X9_on a μ K = mMet X h m_X9_on a μ K := rfl
theorem qP3_X9_order {a : List MV} : mCall X P3 h m_X9_order a μ K = mMet X h m_X9_order a μ K := rfl
theorem qP3_X9_orders {a : List MV} : mCall X P3 h m_X9_orders a μ K = mMet X h m_X9_orders a μ K := rfl
theorem qP3_X9_parts {a : List MV} : mCall X P3 h m_X9_parts a μ K = mMet X h m_X9_parts a μ K := rfl
theorem qP3_X9_plan {a : List MV} : mCall X P3 h m_X9_plan a μ K = mMet X h m_X9_plan a μ K := rfl
theorem qP3_X9_put {a : List MV} : mCall X P3 h m_X9_put a μ K = mMet X h m_X9_put a μ K := rfl
theorem qP3_X9_putName {a : List MV} : mCall X P3 h m_X9_putName a μ K = mMet X h m_X9_putName a μ K := rfl
theorem qP3_X9_putNumber {a : List MV} : mCall X P3 h m_X9_putNumber a μ K = mMet X h m_X9_putNumber a μ K := rfl
theorem qP3_X9_readAct {a : List MV} : mCall X P3 h m_X9_readAct a μ K = mMet X h m_X9_readAct a μ K := rfl
theorem qP3_X9_readAnd {a : List MV} : mCall X P3 h m_X9_readAnd a μ K = mMet X h m_X9_readAnd a μ K := rfl
theorem qP3_X9_readBracket {a : List MV} : mCall X P3 h m_X9_readBracket a μ K = mMet X h m_X9_readBracket a μ K := rfl
theorem qP3_X9_readCell {a : List MV} : mCall X P3 h m_X9_readCell a μ K = mMet X h m_X9_readCell a μ K := rfl
theorem qP3_X9_readCompare {a : List MV} : mCall X P3 h m_X9_readCompare a μ K = mMet X h m_X9_readCompare a μ K := rfl
theorem qP3_X9_readEnd {a : List MV} : mCall X P3 h m_X9_readEnd a μ K = mMet X h m_X9_readEnd a μ K := rfl
theorem qP3_X9_readGood {a : List MV} : mCall X P3 h m_X9_readGood a μ K = mMet X h m_X9_readGood a μ K := rfl
theorem qP3_X9_readJoined {a : List MV} : mCall X P3 h m_X9_readJoined a μ K = mMet X h m_X9_readJoined a μ K := rfl
theorem qP3_X9_readLine {a : List MV} : mCall X P3 h m_X9_readLine a μ K = mMet X h m_X9_readLine a μ K := rfl
theorem qP3_X9_readMakes {a : List MV} : mCall X P3 h m_X9_readMakes a μ K = mMet X h m_X9_readMakes a μ K := rfl
theorem qP3_X9_readNamed {a : List MV} : mCall X P3 h m_X9_readNamed a μ K = mMet X h m_X9_readNamed a μ K := rfl
theorem qP3_X9_readNew {a : List MV} : mCall X P3 h m_X9_readNew a μ K = mMet X h m_X9_readNew a μ K := rfl
theorem qP3_X9_readNot {a : List MV} : mCall X P3 h m_X9_readNot a μ K = mMet X h m_X9_readNot a μ K := rfl
theorem qP3_X9_readNumber {a : List MV} : mCall X P3 h m_X9_readNumber a μ K = mMet X h m_X9_readNumber a μ K := rfl
theorem qP3_X9_readOne {a : List MV} : mCall X P3 h m_X9_readOne a μ K = mMet X h m_X9_readOne a μ K := rfl
theorem qP3_X9_readOr {a : List MV} : mCall X P3 h m_X9_readOr a μ K = mMet X h m_X9_readOr a μ K := rfl
theorem qP3_X9_readPlain {a : List MV} : mCall X P3 h m_X9_readPlain a μ K = mMet X h m_X9_readPlain a μ K := rfl
theorem qP3_X9_readTakes {a : List MV} : mCall X P3 h m_X9_readTakes a μ K = mMet X h m_X9_readTakes a μ K := rfl
theorem qP3_X9_readWork {a : List MV} : mCall X P3 h m_X9_readWork a μ K = mMet X h m_X9_readWork a μ K := rfl
theorem qP3_X9_refuse {a : List MV} : mCall X P3 h m_X9_refuse a μ K = mMet X h m_X9_refuse a μ K := rfl
theorem qP3_X9_rest {a : List MV} : mCall X P3 h m_X9_rest a μ K = mMet X h m_X9_rest a μ K := rfl
theorem qP3_X9_restore {a : List MV} : mCall X P3 h m_X9_restore a μ K = mMet X h m_X9_restore a μ K := rfl
theorem qP3_X9_run {a : List MV} : mCall X P3 h m_X9_run a μ K = mMet X h m_X9_run a μ K := rfl
theorem qP3_X9_said {a : List MV} : mCall X P3 h m_X9_said a μ K = mMet X h m_X9_said a μ K := rfl
theorem qP3_X9_sentence {a : List MV} : mCall X P3 h m_X9_sentence a μ K = mMet X h m_X9_sentence a μ K := rfl
theorem qP3_X9_spelt {a : List MV} : mCall X P3 h m_X9_spelt a μ K = mMet X h m_X9_spelt a μ K := rfl
theorem qP3_X9_start {a : List MV} : mCall X P3 h m_X9_start a μ K = mMet X h m_X9_start a μ K := rfl
theorem qP3_X9_steadies {a : List MV} : mCall X P3 h m_X9_steadies a μ K = mMet X h m_X9_steadies a μ K := rfl
theorem qP3_X9_steady {a : List MV} : mCall X P3 h m_X9_steady a μ K = mMet X h m_X9_steady a μ K := rfl
theorem qP3_X9_take {a : List MV} : mCall X P3 h m_X9_take a μ K = mMet X h m_X9_take a μ K := rfl
theorem qP3_X9_tapeAt {a : List MV} : mCall X P3 h m_X9_tapeAt a μ K = mMet X h m_X9_tapeAt a μ K := rfl
theorem qP3_X9_thrown {i : Nat} : mCall X P3 h m_X9_thrown [.inr (.inr (8, 0, i))] μ K = K (.inl (μ.1 i 0)) μ := mCall_some rfl
theorem qP3_X9_vat {a : List MV} : mCall X P3 h m_X9_vat a μ K = mMet X h m_X9_vat a μ K := rfl
theorem qP3_X9_went {a : List MV} : mCall X P3 h m_X9_went a μ K = mMet X h m_X9_went a μ K := rfl
theorem qP3_X9_wider {a : List MV} : mCall X P3 h m_X9_wider a μ K = mMet X h m_X9_wider a μ K := rfl
theorem qP3_X9_wordOf {a : List MV} : mCall X P3 h m_X9_wordOf a μ K = mMet X h m_X9_wordOf a μ K := rfl
theorem qP3_X9_work {a : List MV} : mCall X P3 h m_X9_work a μ K = mMet X h m_X9_work a μ K := rfl
theorem qP3_X9_works {i : Nat} : mCall X P3 h m_X9_works [.inr (.inr (8, 0, i))] μ K = K (.inl (μ.1 (i + 2) 1)) μ := mCall_some rfl
theorem qP3_X9_worth {a : List MV} : mCall X P3 h m_X9_worth a μ K = mMet X h m_X9_worth a μ K := rfl
theorem qP3_X9_worthOf {a : List MV} : mCall X P3 h m_X9_worthOf a μ K = mMet X h m_X9_worthOf a μ K := rfl
theorem qP3_X9_write {a : List MV} : mCall X P3 h m_X9_write a μ K = mMet X h m_X9_write a μ K := rfl
theorem qP3_L_law {a : List MV} : mCall X P3 h m_L_law a μ K = mMet X h m_L_law a μ K := rfl
end
section
variable {X : mC} {h : Nat} {K : MV → Mem → Prop} {μ : Mem}
theorem c_X9_isName {i : Nat} (h1 : μ.1 i 7 = nI 2 → (∀ k, k < 19 → ¬ μ.2 i 12 = wdF (nI k)) → K (.inl (nI 1)) μ) (h0 : ¬ (μ.1 i 7 = nI 2 ∧ ∀ k, k < 19 → ¬ μ.2 i 12 = wdF (nI k)) → K (.inl (nI 0)) μ) : mMet X (h + 3) m_X9_isName [.inr (.inr (8, 0, i))] μ K := by
  (refine vc_met2 P2_ok ok_X9_isName cm_X9_isName [12] 6 t_X9_isName_0 (Nat.le_of_ble_eq_true rfl) ?_; simp only [mArg_nil, mArg_I, mArg_L, mArg_A, Nat.reduceAdd])
  simp only [↓w_X9_isName_0, ↓w_X9_isName_10, ↓w_X9_isName_32, ↓w_X9_isName_38, ↓v_X9_isName_10, ↓v_X9_isName_12, ↓v_X9_isName_32, ↓v_X9_isName_38, ↓b_aload_n, ↓b_bipush, ↓b_callS1_2, ↓b_getI, ↓b_getL, ↓b_goto, ↓b_ic_eq, ↓b_ic_gt, ↓b_iconst, ↓b_if_ne, ↓n_iinc, ↓b_iload_n, ↓n_istore_n, ↓b_lcmp, ↓b_zret, ↓ldI_hit, ↓ldI_skip, ↓ldL_hit, ↓ldL_skip, ↓ldA_hit, ↓ldA_skip, ↓ldelK_nil, ↓ldelK_hit, ↓ldelK_skipI, ↓ldelK_skipA, ↓ldelK_skipL, qP2_X9_wordOf, ↓bI_b, bI_0, nnot, lget_hit, lget_skip, ldel_nil, ldel_hit, ldel_skipI, ldel_skipA, ldel_skipL, ldel2_nil, ldel2_hit, ldel2_hit2, ldel2_skipI, ldel2_skipA, ldel2_skipL, vc_0, mCat_nil, mCat_I, mCat_L, mCat_A, mRcv_A, mArg_nil, mArg_I, mArg_L, mArg_A, tsg, swt_nil, swt_cons, lkw_nil, lkw_cons, ↓reduceIte, Nat.reduceAdd, Nat.reduceEqDiff, Nat.reduceLeDiff, Nat.reduceMul, true_and, and_true, and_self, List.mem_cons, List.not_mem_nil, or_false, or_self, false_or, true_implies, false_implies, not_true_eq_false, not_false_eq_true, nI00, nI10, nI01, nI11, forall_const, implies_true]
  refine ⟨fun hc => ?_, fun hc => ?_⟩
  · rintro _ rfl
    refine loop_up (fun k => (∀ j, j < k → ¬ μ.2 i 12 = wdF (nI j)) → bb X P2 m_X9_isName (h + 2) K (vc X P2 m_X9_isName (h + 2) K k_X9_isName [12] 5) s_X9_isName_12 [(1, .inl (nI k)), (0, .inr (.inr (8, 0, i)))] [] μ) 19 ?_ ?_ (fun i hi => absurd hi (Nat.not_lt_zero i))
    · intro hv
      simp only [↓w_X9_isName_0, ↓w_X9_isName_10, ↓w_X9_isName_12, ↓w_X9_isName_32, ↓w_X9_isName_38, ↓v_X9_isName_10, ↓v_X9_isName_12, ↓v_X9_isName_32, ↓v_X9_isName_38, ↓b_aload_n, ↓b_bipush, ↓b_callS1_2, ↓b_getI, ↓b_getL, ↓b_goto, ↓b_ic_eq, ↓b_ic_gt, ↓b_iconst, ↓b_if_ne, ↓n_iinc, ↓b_iload_n, ↓n_istore_n, ↓b_lcmp, ↓b_zret, ↓ldI_hit, ↓ldI_skip, ↓ldL_hit, ↓ldL_skip, ↓ldA_hit, ↓ldA_skip, ↓ldelK_nil, ↓ldelK_hit, ↓ldelK_skipI, ↓ldelK_skipA, ↓ldelK_skipL, qP2_X9_wordOf, ↓bI_b, bI_0, nnot, lget_hit, lget_skip, ldel_nil, ldel_hit, ldel_skipI, ldel_skipA, ldel_skipL, ldel2_nil, ldel2_hit, ldel2_hit2, ldel2_skipI, ldel2_skipA, ldel2_skipL, vc_0, mCat_nil, mCat_I, mCat_L, mCat_A, mRcv_A, mArg_nil, mArg_I, mArg_L, mArg_A, tsg, swt_nil, swt_cons, lkw_nil, lkw_cons, ↓reduceIte, Nat.reduceAdd, Nat.reduceEqDiff, Nat.reduceLeDiff, Nat.reduceMul, true_and, and_true, and_self, List.mem_cons, List.not_mem_nil, or_false, or_self, false_or, true_implies, false_implies, not_true_eq_false, not_false_eq_true, nI00, nI10, nI01, nI11, forall_const, implies_true]
      simp (disch := omega) only [ixq, ixz, sb_in, sb_in0, upI_sb, upI_sb0, sb_out, nI_add, nI_mul, nI_subq, Nat.zero_add, forall_eq, u2_at, u2_row, upd_at, upd_ne, nI0b, nI1b, nI00, nI10, nI01, nI11, true_implies, false_implies, not_true_eq_false, not_false_eq_true, and_true, true_and, implies_true, nI_ltq]
      exact ⟨fun _ => h1 hc hv, fun hc => absurd (show 18 < 19 by decide) hc⟩
    · intro k hk ih hv
      simp only [↓w_X9_isName_0, ↓w_X9_isName_10, ↓w_X9_isName_12, ↓w_X9_isName_32, ↓w_X9_isName_38, ↓v_X9_isName_10, ↓v_X9_isName_12, ↓v_X9_isName_32, ↓v_X9_isName_38, ↓b_aload_n, ↓b_bipush, ↓b_callS1_2, ↓b_getI, ↓b_getL, ↓b_goto, ↓b_ic_eq, ↓b_ic_gt, ↓b_iconst, ↓b_if_ne, ↓n_iinc, ↓b_iload_n, ↓n_istore_n, ↓b_lcmp, ↓b_zret, ↓ldI_hit, ↓ldI_skip, ↓ldL_hit, ↓ldL_skip, ↓ldA_hit, ↓ldA_skip, ↓ldelK_nil, ↓ldelK_hit, ↓ldelK_skipI, ↓ldelK_skipA, ↓ldelK_skipL, qP2_X9_wordOf, ↓bI_b, bI_0, nnot, lget_hit, lget_skip, ldel_nil, ldel_hit, ldel_skipI, ldel_skipA, ldel_skipL, ldel2_nil, ldel2_hit, ldel2_hit2, ldel2_skipI, ldel2_skipA, ldel2_skipL, vc_0, mCat_nil, mCat_I, mCat_L, mCat_A, mRcv_A, mArg_nil, mArg_I, mArg_L, mArg_A, tsg, swt_nil, swt_cons, lkw_nil, lkw_cons, ↓reduceIte, Nat.reduceAdd, Nat.reduceEqDiff, Nat.reduceLeDiff, Nat.reduceMul, true_and, and_true, and_self, List.mem_cons, List.not_mem_nil, or_false, or_self, false_or, true_implies, false_implies, not_true_eq_false, not_false_eq_true, nI00, nI10, nI01, nI11, forall_const, implies_true]
      simp (disch := omega) only [ixq, ixz, sb_in, sb_in0, upI_sb, upI_sb0, sb_out, nI_add, nI_mul, nI_subq, Nat.zero_add, forall_eq, u2_at, u2_row, upd_at, upd_ne, nI0b, nI1b, nI00, nI10, nI01, nI11, true_implies, false_implies, not_true_eq_false, not_false_eq_true, and_true, true_and, implies_true, nI_ltq]
      refine ⟨fun hc => absurd hc (by omega), fun _ => ?_⟩
      refine c_X9_wordOf ?_
      simp only [↓w_X9_isName_0, ↓w_X9_isName_10, ↓w_X9_isName_12, ↓w_X9_isName_32, ↓w_X9_isName_38, ↓v_X9_isName_10, ↓v_X9_isName_12, ↓v_X9_isName_32, ↓v_X9_isName_38, ↓b_aload_n, ↓b_bipush, ↓b_callS1_2, ↓b_getI, ↓b_getL, ↓b_goto, ↓b_ic_eq, ↓b_ic_gt, ↓b_iconst, ↓b_if_ne, ↓n_iinc, ↓b_iload_n, ↓n_istore_n, ↓b_lcmp, ↓b_zret, ↓ldI_hit, ↓ldI_skip, ↓ldL_hit, ↓ldL_skip, ↓ldA_hit, ↓ldA_skip, ↓ldelK_nil, ↓ldelK_hit, ↓ldelK_skipI, ↓ldelK_skipA, ↓ldelK_skipL, qP2_X9_wordOf, ↓bI_b, bI_0, nnot, lget_hit, lget_skip, ldel_nil, ldel_hit, ldel_skipI, ldel_skipA, ldel_skipL, ldel2_nil, ldel2_hit, ldel2_hit2, ldel2_skipI, ldel2_skipA, ldel2_skipL, vc_0, mCat_nil, mCat_I, mCat_L, mCat_A, mRcv_A, mArg_nil, mArg_I, mArg_L, mArg_A, tsg, swt_nil, swt_cons, lkw_nil, lkw_cons, ↓reduceIte, Nat.reduceAdd, Nat.reduceEqDiff, Nat.reduceLeDiff, Nat.reduceMul, true_and, and_true, and_self, List.mem_cons, List.not_mem_nil, or_false, or_self, false_or, true_implies, false_implies, not_true_eq_false, not_false_eq_true, nI00, nI10, nI01, nI11, forall_const, implies_true]
      simp (disch := omega) only [ixq, ixz, sb_in, sb_in0, upI_sb, upI_sb0, sb_out, nI_add, nI_mul, nI_subq, Nat.zero_add, forall_eq, u2_at, u2_row, upd_at, upd_ne, nI0b, nI1b, nI00, nI10, nI01, nI11, true_implies, false_implies, not_true_eq_false, not_false_eq_true, and_true, true_and, implies_true, lg_cmp_eq]
      refine ⟨fun he => ?_, fun he => ?_⟩
      · exact vc_back P2_ok ok_X9_isName [12] 5 t_X9_isName_12 (ih (all_s hv he)) (by simp [nI_add]) rfl
      · exact h0 (fun z => z.2 k hk he)
  · exact h0 (fun z => hc z.1)
end
