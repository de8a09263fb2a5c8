/-! worth: the pair -/
section MWp
variable {X : mC} {h x m : Nat} {μ μ1 μ' : Mem} {K : MV → Mem → Prop} {Q B P : Bk} {G W T n : Nat} {N : Nat → Int64} {tot : Nat → Int32} {v : Int32}
theorem frZ_f {j : Nat} (h : frZ x μ μ1) : frZ x (upI μ x j v) (upI μ1 x j v) := by
  refine ⟨h.1, fun i hi => ?_⟩
  by_cases i0 : i = 0
  · subst i0
    have z : μ1.1 x = μ.1 x := h.2 0 (by omega)
    show va_up μ1.1 x (upd (μ1.1 x) j v) x = va_up μ.1 x (upd (μ.1 x) j v) x
    rw [up_at, up_at, z]
  · rw [upI_out (by omega), upI_out (by omega)]
    exact h.2 i hi
theorem upL_row {j k : Nat} {y : Int64} : (upL μ j k y).2 j = vp_updL (μ.2 j) k y := up_at
/-- the class behind worth: fields, rows, longs -/
def woC (x : Nat) (μ : Mem) (W T : Nat) (tot : Nat → Int32) (ν : Mem) : Prop := (∃ μ1, frZ x (upI μ x 15 (nI W)) μ1 ∧ ν.1 = μ1.1) ∧ (∀ i, i ≠ x + 162 → i ≠ x + 163 → ν.2 i = μ.2 i) ∧ ∀ w, w < W → WR (ν.2 (x + 162) w) (ν.2 (x + 163) w) (fo T (woF tot W w) 0) (mFac W).toInt64
theorem Rel_wo {Q' : Bk} (hx : x + 164 = m) (hr : Rel x m μ) (w8 : W ≤ 8) (hc : woC x μ W T tot μ1) (h1 : ∀ k, k = 1 ∨ k = 2 ∨ k = 5 ∨ k = 9 ∨ k = 18 → Q' k = μ.1 (m + k)) (h0 : ∀ j, j = 2 ∨ j = 10 ∨ j = 35 ∨ j = 38 → Q' 0 j = μ.1 m j) (h33 : Q' 0 33 = nI W) (hN : ∀ w, w < W → N w = fo T (woF tot W w) 0) : Rel x m (sb (rL (upL μ1 m 34 (mFac W).toInt64) (m + 17) N) m 21 Q') := by
  obtain ⟨⟨μ2, hf, e1⟩, hl, hw⟩ := hc
  have e : ∀ k, k < 21 → (sb (rL (upL μ1 m 34 (mFac W).toInt64) (m + 17) N) m 21 Q').1 (m + k) = Q' k := fun k hk => sb_in hk
  have e0 : (sb (rL (upL μ1 m 34 (mFac W).toInt64) (m + 17) N) m 21 Q').1 m = Q' 0 := e 0 (by omega)
  have r1 : (rL (upL μ1 m 34 (mFac W).toInt64) (m + 17) N).1 = μ2.1 := e1
  have o : ∀ i, 1 ≤ i → i < 164 → (i < 16 ∨ (28 ≤ i ∧ i < 35) ∨ (42 ≤ i ∧ i < 46) ∨ (50 ≤ i ∧ i < 62) ∨ (87 ≤ i ∧ i ≠ 161)) → (sb (rL (upL μ1 m 34 (mFac W).toInt64) (m + 17) N) m 21 Q').1 (x + i) = μ.1 (x + i) := fun i h1 h2 h3 => by
    rw [sb_out (by omega), r1, hf.2 i h3, upI_out (by omega)]
  have ox : (sb (rL (upL μ1 m 34 (mFac W).toInt64) (m + 17) N) m 21 Q').1 x = upd (μ.1 x) 15 (nI W) := by
    rw [sb_out (by omega), r1]
    exact (hf.2 0 (by omega)).trans up_at
  have l : ∀ i, i ≠ x + 162 → i ≠ x + 163 → i ≠ m → i ≠ m + 17 → (sb (rL (upL μ1 m 34 (mFac W).toInt64) (m + 17) N) m 21 Q').2 i = μ.2 i := fun i a b c d => by
    rw [sb_2, rL_o d, upL_o c]
    exact hl i a b
  have l2 : ∀ i, i = x + 162 ∨ i = x + 163 → (sb (rL (upL μ1 m 34 (mFac W).toInt64) (m + 17) N) m 21 Q').2 i = μ1.2 i := fun i a => by
    rw [sb_2, rL_o (by omega), upL_o (by omega)]
  have l3 : (sb (rL (upL μ1 m 34 (mFac W).toInt64) (m + 17) N) m 21 Q').2 (m + 17) = N := by rw [sb_2, rL_at]
  have l4 : (sb (rL (upL μ1 m 34 (mFac W).toInt64) (m + 17) N) m 21 Q').2 m 34 = (mFac W).toInt64 := by rw [sb_2, rL_o (by omega), upL_at]
  generalize sb (rL (upL μ1 m 34 (mFac W).toInt64) (m + 17) N) m 21 Q' = μ' at e e0 o ox l l2 l3 l4 ⊢
  obtain ⟨s1, s2, s3, s4, s5, s6, s7, s8⟩ := hr
  refine ⟨RTp_k s1 (by rw [o 1 (by omega) (by omega) (by omega)]) (by rw [e0]; exact h0 2 (by omega)) (by rw [e 1 (by omega)]; exact h1 1 (by omega)) (o 2 (by omega) (by omega) (by omega)), RKw_k s2 (o 3 (by omega) (by omega) (by omega)), RSt_k s3 (fun i hi => o i (by omega) (by omega) (by omega)) (by rw [e 2 (by omega)]; exact h1 2 (by omega)) (l _ (by omega) (by omega) (by omega) (by omega)), fun k hk => RIm_k hk (s4 k hk) (fun i _ hi => o i (by omega) (by omega) (by omega)) (by rw [e 5 (by omega)]; exact h1 5 (by omega)) (l _ (by omega) (by omega) (by omega) (by omega)) (by rw [e 9 (by omega)]; exact h1 9 (by omega)), RTx_k s5 (by rw [o 159 (by omega) (by omega) (by omega)]) (by rw [e0]; exact h0 38 (by omega)) (o 160 (by omega) (by omega) (by omega)) (by rw [e 18 (by omega)]; exact h1 18 (by omega)), ⟨W, w8, ?_, ?_, ?_⟩, ?_, ?_⟩
  · rw [ox, upd_at]
  · rw [e0]; exact h33
  · intro w hw'
    rw [l2 _ (Or.inl rfl), l2 _ (Or.inr rfl), l3, l4, hN w hw']
    exact hw w hw'
  · rw [ox, upd_ne (by decide), e0, h0 35 (by omega)]; exact s7
  · rw [ox, upd_ne (by decide), e0, h0 10 (by omega)]; exact s8
/-- the class's worth -/
theorem c8_worth (rb : RBB G W (μ.1 (m + 2)) N (bk μ (x + 4))) (k1 : 1 ≤ n) (k2 : n ≤ 200) (W0 : W ≠ 0) (eT : nI 1 <<< (nI W &&& 31) = nI T) (hT : T = 2 ^ W) (T256 : T ≤ 256) (ht : ∀ s, totF W (bk μ (x + 4)) (runC G W (bk μ (x + 4)) (fun _ => nI s) (fun _ _ => nI 0) n) = tot s) (hb : ∀ s, s < 256 → ∃ k, k ≤ 158400 ∧ tot s = nI k) (hK : ∀ ν, woC x μ W T tot ν → K (.inl (tot (T - 1))) ν) : mMet X (h + 10) m_X8_worth [.inr (.inr (7, 0, x)), .inl (nI n)] μ K := by
  have b1 : μ.1 (x + 4) 1 = nI W := rb.b1
  have g6 := rb.g6
  have w8 := rb.w8
  have T0 : 1 ≤ T := by rw [hT]; exact Nat.one_le_two_pow
  (refine vc_met2 P2_ok ok_X8_worth cm_X8_worth [19,29,56,69,88] 8 t_X8_worth_0 (Nat.le_of_ble_eq_true rfl) ?_; simp only [mArg_nil, mArg_I, mArg_L, mArg_A, Nat.reduceAdd])
  have k69 : ∀ i w ν, w + i = W → (∃ μ1, frZ x (upI μ x 15 (nI W)) μ1 ∧ ν.1 = μ1.1) → (∀ s, s < T → ν.1 (x + 161) s = tot s) → (∀ i, i ≠ x + 162 → i ≠ x + 163 → ν.2 i = μ.2 i) → (∀ w', w' < w → WR (ν.2 (x + 162) w') (ν.2 (x + 163) w') (fo T (woF tot W w') 0) (mFac W).toInt64) → bb X P2 m_X8_worth (h + 9) K (vc X P2 m_X8_worth (h + 9) K k_X8_worth [19,29,56,69,88] 8) s_X8_worth_69 [(3, .inl (nI w)), (2, .inl (nI (T - 1))), (0, .inr (.inr (7, 0, x))), (1, .inl (nI n))] [] ν := by
    intro i
    induction i with
    | zero =>
      intro w ν hw h1 hm hl hv
      have ew : w = W := by omega
      subst ew
      have hK := hK ν ⟨h1, hl, hv⟩
      obtain ⟨μ1, hf, e1⟩ := h1
      have f15 : ν.1 x 15 = nI w := by
        rw [e1, show μ1.1 x = upd (μ.1 x) 15 (nI w) from (hf.2 0 (by omega)).trans up_at, upd_at]
      have v1 := hm (T - 1) (by omega)
      (try simp only [↓w_X8_worth_0, ↓w_X8_worth_17, ↓w_X8_worth_19, ↓w_X8_worth_29, ↓w_X8_worth_56, ↓w_X8_worth_69, ↓v_X8_worth_17, ↓v_X8_worth_19, ↓v_X8_worth_29, ↓v_X8_worth_56, ↓v_X8_worth_69, ↓v_X8_worth_88, ↓b_aload_n, ↓b_callS1_1, ↓b_callV1_1, ↓b_callV2_0, ↓b_callV4_1, ↓b_getA, ↓b_getI, ↓b_goto, ↓b_iaload, ↓n_iastore, ↓b_ic_ge, ↓b_ic_gt, ↓b_iconst, ↓b_if_eq, ↓b_if_ne, ↓n_iinc, ↓b_iload_n, ↓b_iret, ↓n_istore_n, ↓n_putI, ↓ldI_hit, ↓ldI_skip, ↓ldL_hit, ↓ldL_skip, ↓ldA_hit, ↓ldA_skip, ↓ldelK_nil, ↓ldelK_hit, ↓ldelK_skipI, ↓ldelK_skipA, ↓ldelK_skipL, qP2_X0_allWorks, qP2_X8_areHours, qP2_X8_madeAlone, qP2_X8_setWorth, ↓bI_b, bI_0, nnot, lget_hit, lget_skip, ldel_nil, ldel_hit, ldel_skipI, ldel_skipA, ldel_skipL, ldel2_nil, ldel2_hit, ldel2_hit2, ldel2_skipI, ldel2_skipA, ldel2_skipL, vc_0, mCat_nil, mCat_I, mCat_L, mCat_A, mRcv_A, mArg_nil, mArg_I, mArg_L, mArg_A, tsg, swt_nil, swt_cons, lkw_nil, lkw_cons, ↓reduceIte, Nat.reduceAdd, Nat.reduceEqDiff, Nat.reduceLeDiff, Nat.reduceMul, true_and, and_true, and_self, List.mem_cons, List.not_mem_nil, or_false, or_self, false_or, true_implies, false_implies, not_true_eq_false, not_false_eq_true, nI00, nI10, nI01, nI11, forall_const, implies_true])
      (try simp (disch := omega) only [ixq, ixz, sb_in, sb_in0, upI_sb, upI_sb0, sb_out, nI_add, nI_mul, nI_subq, Nat.zero_add, forall_eq, u2_at, u2_row, upd_at, upd_ne, nI0b, nI1b, nI00, nI10, nI01, nI11, true_implies, false_implies, not_true_eq_false, not_false_eq_true, and_true, true_and, implies_true, f15, nI_lq, Nat.le_refl])
      (refine vc_from P2_ok ok_X8_worth [19,29,56,69,88] 8 ?_; rw [t_X8_worth_88])
      (try simp only [↓w_X8_worth_0, ↓w_X8_worth_17, ↓w_X8_worth_19, ↓w_X8_worth_29, ↓w_X8_worth_56, ↓w_X8_worth_69, ↓w_X8_worth_88, ↓v_X8_worth_17, ↓v_X8_worth_19, ↓v_X8_worth_29, ↓v_X8_worth_56, ↓v_X8_worth_69, ↓v_X8_worth_88, ↓b_aload_n, ↓b_callS1_1, ↓b_callV1_1, ↓b_callV2_0, ↓b_callV4_1, ↓b_getA, ↓b_getI, ↓b_goto, ↓b_iaload, ↓n_iastore, ↓b_ic_ge, ↓b_ic_gt, ↓b_iconst, ↓b_if_eq, ↓b_if_ne, ↓n_iinc, ↓b_iload_n, ↓b_iret, ↓n_istore_n, ↓n_putI, ↓ldI_hit, ↓ldI_skip, ↓ldL_hit, ↓ldL_skip, ↓ldA_hit, ↓ldA_skip, ↓ldelK_nil, ↓ldelK_hit, ↓ldelK_skipI, ↓ldelK_skipA, ↓ldelK_skipL, qP2_X0_allWorks, qP2_X8_areHours, qP2_X8_madeAlone, qP2_X8_setWorth, ↓bI_b, bI_0, nnot, lget_hit, lget_skip, ldel_nil, ldel_hit, ldel_skipI, ldel_skipA, ldel_skipL, ldel2_nil, ldel2_hit, ldel2_hit2, ldel2_skipI, ldel2_skipA, ldel2_skipL, vc_0, mCat_nil, mCat_I, mCat_L, mCat_A, mRcv_A, mArg_nil, mArg_I, mArg_L, mArg_A, tsg, swt_nil, swt_cons, lkw_nil, lkw_cons, ↓reduceIte, Nat.reduceAdd, Nat.reduceEqDiff, Nat.reduceLeDiff, Nat.reduceMul, true_and, and_true, and_self, List.mem_cons, List.not_mem_nil, or_false, or_self, false_or, true_implies, false_implies, not_true_eq_false, not_false_eq_true, nI00, nI10, nI01, nI11, forall_const, implies_true])
      (try simp (disch := omega) only [ixq, ixz, sb_in, sb_in0, upI_sb, upI_sb0, sb_out, nI_add, nI_mul, nI_subq, Nat.zero_add, forall_eq, u2_at, u2_row, upd_at, upd_ne, nI0b, nI1b, nI00, nI10, nI01, nI11, true_implies, false_implies, not_true_eq_false, not_false_eq_true, and_true, true_and, implies_true, v1])
      exact hK
    | succ i ih =>
      intro w ν hw h1 hm hl hv
      have h1' := h1
      obtain ⟨μ1, hf, e1⟩ := h1
      have f15 : ν.1 x 15 = nI W := by
        rw [e1, show μ1.1 x = upd (μ.1 x) 15 (nI W) from (hf.2 0 (by omega)).trans up_at, upd_at]
      have f41 : ν.1 (x + 4) 1 = nI W := by
        rw [e1, hf.2 4 (by omega), upI_out (by omega)]
        exact b1
      have c1 : (nI W ≤ nI w) = False := by rw [nI_lq (by omega) (by omega)]; exact eq_false (by omega)
      (try simp only [↓w_X8_worth_0, ↓w_X8_worth_17, ↓w_X8_worth_19, ↓w_X8_worth_29, ↓w_X8_worth_56, ↓w_X8_worth_69, ↓v_X8_worth_17, ↓v_X8_worth_19, ↓v_X8_worth_29, ↓v_X8_worth_56, ↓v_X8_worth_69, ↓v_X8_worth_88, ↓b_aload_n, ↓b_callS1_1, ↓b_callV1_1, ↓b_callV2_0, ↓b_callV4_1, ↓b_getA, ↓b_getI, ↓b_goto, ↓b_iaload, ↓n_iastore, ↓b_ic_ge, ↓b_ic_gt, ↓b_iconst, ↓b_if_eq, ↓b_if_ne, ↓n_iinc, ↓b_iload_n, ↓b_iret, ↓n_istore_n, ↓n_putI, ↓ldI_hit, ↓ldI_skip, ↓ldL_hit, ↓ldL_skip, ↓ldA_hit, ↓ldA_skip, ↓ldelK_nil, ↓ldelK_hit, ↓ldelK_skipI, ↓ldelK_skipA, ↓ldelK_skipL, qP2_X0_allWorks, qP2_X8_areHours, qP2_X8_madeAlone, qP2_X8_setWorth, ↓bI_b, bI_0, nnot, lget_hit, lget_skip, ldel_nil, ldel_hit, ldel_skipI, ldel_skipA, ldel_skipL, ldel2_nil, ldel2_hit, ldel2_hit2, ldel2_skipI, ldel2_skipA, ldel2_skipL, vc_0, mCat_nil, mCat_I, mCat_L, mCat_A, mRcv_A, mArg_nil, mArg_I, mArg_L, mArg_A, tsg, swt_nil, swt_cons, lkw_nil, lkw_cons, ↓reduceIte, Nat.reduceAdd, Nat.reduceEqDiff, Nat.reduceLeDiff, Nat.reduceMul, true_and, and_true, and_self, List.mem_cons, List.not_mem_nil, or_false, or_self, false_or, true_implies, false_implies, not_true_eq_false, not_false_eq_true, nI00, nI10, nI01, nI11, forall_const, implies_true])
      (try simp (disch := omega) only [ixq, ixz, sb_in, sb_in0, upI_sb, upI_sb0, sb_out, nI_add, nI_mul, nI_subq, Nat.zero_add, forall_eq, u2_at, u2_row, upd_at, upd_ne, nI0b, nI1b, nI00, nI10, nI01, nI11, true_implies, false_implies, not_true_eq_false, not_false_eq_true, and_true, true_and, implies_true, f15, c1])
      refine c_setWorth (tot := tot) (W := W) (T := T) (by omega) w8 eT hT T256 f41 f15 hm hb (fun a b hab => ?_)
      have i2 := ih (w + 1) (upL (upL ν (x + 162) w a) (x + 163) w b) (by omega) h1' hm (fun i a1 a2 => by rw [upL_o a2, upL_o a1]; exact hl i a1 a2) (fun w' hw' => by
        by_cases ew : w' = w
        · subst ew
          rw [upL_o (by omega), upL_at, upL_at]
          exact hab
        · rw [upL_o (show x + 162 ≠ x + 163 by omega), upL_row, upL_row, upL_o (show x + 163 ≠ x + 162 by omega), updL_off _ ew, updL_off _ ew]
          exact hv w' (by omega))
      clear ih
      (try simp only [↓w_X8_worth_0, ↓w_X8_worth_17, ↓w_X8_worth_19, ↓w_X8_worth_29, ↓w_X8_worth_56, ↓w_X8_worth_69, ↓v_X8_worth_17, ↓v_X8_worth_19, ↓v_X8_worth_29, ↓v_X8_worth_56, ↓v_X8_worth_69, ↓v_X8_worth_88, ↓b_aload_n, ↓b_callS1_1, ↓b_callV1_1, ↓b_callV2_0, ↓b_callV4_1, ↓b_getA, ↓b_getI, ↓b_goto, ↓b_iaload, ↓n_iastore, ↓b_ic_ge, ↓b_ic_gt, ↓b_iconst, ↓b_if_eq, ↓b_if_ne, ↓n_iinc, ↓b_iload_n, ↓b_iret, ↓n_istore_n, ↓n_putI, ↓ldI_hit, ↓ldI_skip, ↓ldL_hit, ↓ldL_skip, ↓ldA_hit, ↓ldA_skip, ↓ldelK_nil, ↓ldelK_hit, ↓ldelK_skipI, ↓ldelK_skipA, ↓ldelK_skipL, qP2_X0_allWorks, qP2_X8_areHours, qP2_X8_madeAlone, qP2_X8_setWorth, ↓bI_b, bI_0, nnot, lget_hit, lget_skip, ldel_nil, ldel_hit, ldel_skipI, ldel_skipA, ldel_skipL, ldel2_nil, ldel2_hit, ldel2_hit2, ldel2_skipI, ldel2_skipA, ldel2_skipL, vc_0, mCat_nil, mCat_I, mCat_L, mCat_A, mRcv_A, mArg_nil, mArg_I, mArg_L, mArg_A, tsg, swt_nil, swt_cons, lkw_nil, lkw_cons, ↓reduceIte, Nat.reduceAdd, Nat.reduceEqDiff, Nat.reduceLeDiff, Nat.reduceMul, true_and, and_true, and_self, List.mem_cons, List.not_mem_nil, or_false, or_self, false_or, true_implies, false_implies, not_true_eq_false, not_false_eq_true, nI00, nI10, nI01, nI11, forall_const, implies_true])
      (try simp (disch := omega) only [ixq, ixz, sb_in, sb_in0, upI_sb, upI_sb0, sb_out, nI_add, nI_mul, nI_subq, Nat.zero_add, forall_eq, u2_at, u2_row, upd_at, upd_ne, nI0b, nI1b, nI00, nI10, nI01, nI11, true_implies, false_implies, not_true_eq_false, not_false_eq_true, and_true, true_and, implies_true])
      exact vc_back P2_ok ok_X8_worth [19,29,56,69,88] 8 t_X8_worth_69 (i2) (by simp) (rfl)
  have main : ∀ i s μ1, s + i = T → frZ x μ μ1 → (∀ s', s' < s → μ1.1 (x + 161) s' = tot s') → bb X P2 m_X8_worth (h + 9) K (vc X P2 m_X8_worth (h + 9) K k_X8_worth [19,29,56,69,88] 8) s_X8_worth_29 [(3, .inl (nI s)), (2, .inl (nI (T - 1))), (0, .inr (.inr (7, 0, x))), (1, .inl (nI n))] [] μ1 := by
    intro i
    induction i with
    | zero =>
      intro s μ1 hs hf hm
      have b1' : μ1.1 (x + 4) 1 = nI W := by rw [hf.2 4 (by omega)]; exact b1
      have i2 := k69 W 0 (upI μ1 x 15 (nI W)) (by omega) ⟨_, frZ_f hf, rfl⟩ (fun s' hs' => by rw [upI_out (by omega)]; exact hm s' (by omega)) (fun i _ _ => by rw [show (upI μ1 x 15 (nI W)).2 = μ1.2 from rfl, hf.1]) (fun w' hw' => absurd hw' (Nat.not_lt_zero w'))
      clear k69
      have c1 : (nI (T - 1) < nI s) = True := by rw [nI_ltq (by omega) (by omega)]; exact eq_true (by omega)
      (try simp only [↓w_X8_worth_0, ↓w_X8_worth_17, ↓w_X8_worth_19, ↓w_X8_worth_29, ↓w_X8_worth_88, ↓v_X8_worth_17, ↓v_X8_worth_19, ↓v_X8_worth_29, ↓v_X8_worth_56, ↓v_X8_worth_69, ↓v_X8_worth_88, ↓b_aload_n, ↓b_callS1_1, ↓b_callV1_1, ↓b_callV2_0, ↓b_callV4_1, ↓b_getA, ↓b_getI, ↓b_goto, ↓b_iaload, ↓n_iastore, ↓b_ic_ge, ↓b_ic_gt, ↓b_iconst, ↓b_if_eq, ↓b_if_ne, ↓n_iinc, ↓b_iload_n, ↓b_iret, ↓n_istore_n, ↓n_putI, ↓ldI_hit, ↓ldI_skip, ↓ldL_hit, ↓ldL_skip, ↓ldA_hit, ↓ldA_skip, ↓ldelK_nil, ↓ldelK_hit, ↓ldelK_skipI, ↓ldelK_skipA, ↓ldelK_skipL, qP2_X0_allWorks, qP2_X8_areHours, qP2_X8_madeAlone, qP2_X8_setWorth, ↓bI_b, bI_0, nnot, lget_hit, lget_skip, ldel_nil, ldel_hit, ldel_skipI, ldel_skipA, ldel_skipL, ldel2_nil, ldel2_hit, ldel2_hit2, ldel2_skipI, ldel2_skipA, ldel2_skipL, vc_0, mCat_nil, mCat_I, mCat_L, mCat_A, mRcv_A, mArg_nil, mArg_I, mArg_L, mArg_A, tsg, swt_nil, swt_cons, lkw_nil, lkw_cons, ↓reduceIte, Nat.reduceAdd, Nat.reduceEqDiff, Nat.reduceLeDiff, Nat.reduceMul, true_and, and_true, and_self, List.mem_cons, List.not_mem_nil, or_false, or_self, false_or, true_implies, false_implies, not_true_eq_false, not_false_eq_true, nI00, nI10, nI01, nI11, forall_const, implies_true])
      (try simp (disch := omega) only [ixq, ixz, sb_in, sb_in0, upI_sb, upI_sb0, sb_out, nI_add, nI_mul, nI_subq, Nat.zero_add, forall_eq, u2_at, u2_row, upd_at, upd_ne, nI0b, nI1b, nI00, nI10, nI01, nI11, true_implies, false_implies, not_true_eq_false, not_false_eq_true, and_true, true_and, implies_true, c1])
      (refine vc_from P2_ok ok_X8_worth [19,29,56,69,88] 8 ?_; rw [t_X8_worth_56])
      (try simp only [↓w_X8_worth_0, ↓w_X8_worth_17, ↓w_X8_worth_19, ↓w_X8_worth_29, ↓w_X8_worth_56, ↓w_X8_worth_88, ↓v_X8_worth_17, ↓v_X8_worth_19, ↓v_X8_worth_29, ↓v_X8_worth_56, ↓v_X8_worth_69, ↓v_X8_worth_88, ↓b_aload_n, ↓b_callS1_1, ↓b_callV1_1, ↓b_callV2_0, ↓b_callV4_1, ↓b_getA, ↓b_getI, ↓b_goto, ↓b_iaload, ↓n_iastore, ↓b_ic_ge, ↓b_ic_gt, ↓b_iconst, ↓b_if_eq, ↓b_if_ne, ↓n_iinc, ↓b_iload_n, ↓b_iret, ↓n_istore_n, ↓n_putI, ↓ldI_hit, ↓ldI_skip, ↓ldL_hit, ↓ldL_skip, ↓ldA_hit, ↓ldA_skip, ↓ldelK_nil, ↓ldelK_hit, ↓ldelK_skipI, ↓ldelK_skipA, ↓ldelK_skipL, qP2_X0_allWorks, qP2_X8_areHours, qP2_X8_madeAlone, qP2_X8_setWorth, ↓bI_b, bI_0, nnot, lget_hit, lget_skip, ldel_nil, ldel_hit, ldel_skipI, ldel_skipA, ldel_skipL, ldel2_nil, ldel2_hit, ldel2_hit2, ldel2_skipI, ldel2_skipA, ldel2_skipL, vc_0, mCat_nil, mCat_I, mCat_L, mCat_A, mRcv_A, mArg_nil, mArg_I, mArg_L, mArg_A, tsg, swt_nil, swt_cons, lkw_nil, lkw_cons, ↓reduceIte, Nat.reduceAdd, Nat.reduceEqDiff, Nat.reduceLeDiff, Nat.reduceMul, true_and, and_true, and_self, List.mem_cons, List.not_mem_nil, or_false, or_self, false_or, true_implies, false_implies, not_true_eq_false, not_false_eq_true, nI00, nI10, nI01, nI11, forall_const, implies_true])
      (try simp (disch := omega) only [ixq, ixz, sb_in, sb_in0, upI_sb, upI_sb0, sb_out, nI_add, nI_mul, nI_subq, Nat.zero_add, forall_eq, u2_at, u2_row, upd_at, upd_ne, nI0b, nI1b, nI00, nI10, nI01, nI11, true_implies, false_implies, not_true_eq_false, not_false_eq_true, and_true, true_and, implies_true, b1'])
      exact i2
    | succ i ih =>
      intro s μ1 hs hf hm
      clear k69
      have c1 : (nI (T - 1) < nI s) = False := by rw [nI_ltq (by omega) (by omega)]; exact eq_false (by omega)
      (try simp only [↓w_X8_worth_0, ↓w_X8_worth_17, ↓w_X8_worth_19, ↓w_X8_worth_29, ↓w_X8_worth_88, ↓v_X8_worth_17, ↓v_X8_worth_19, ↓v_X8_worth_29, ↓v_X8_worth_56, ↓v_X8_worth_69, ↓v_X8_worth_88, ↓b_aload_n, ↓b_callS1_1, ↓b_callV1_1, ↓b_callV2_0, ↓b_callV4_1, ↓b_getA, ↓b_getI, ↓b_goto, ↓b_iaload, ↓n_iastore, ↓b_ic_ge, ↓b_ic_gt, ↓b_iconst, ↓b_if_eq, ↓b_if_ne, ↓n_iinc, ↓b_iload_n, ↓b_iret, ↓n_istore_n, ↓n_putI, ↓ldI_hit, ↓ldI_skip, ↓ldL_hit, ↓ldL_skip, ↓ldA_hit, ↓ldA_skip, ↓ldelK_nil, ↓ldelK_hit, ↓ldelK_skipI, ↓ldelK_skipA, ↓ldelK_skipL, qP2_X0_allWorks, qP2_X8_areHours, qP2_X8_madeAlone, qP2_X8_setWorth, ↓bI_b, bI_0, nnot, lget_hit, lget_skip, ldel_nil, ldel_hit, ldel_skipI, ldel_skipA, ldel_skipL, ldel2_nil, ldel2_hit, ldel2_hit2, ldel2_skipI, ldel2_skipA, ldel2_skipL, vc_0, mCat_nil, mCat_I, mCat_L, mCat_A, mRcv_A, mArg_nil, mArg_I, mArg_L, mArg_A, tsg, swt_nil, swt_cons, lkw_nil, lkw_cons, ↓reduceIte, Nat.reduceAdd, Nat.reduceEqDiff, Nat.reduceLeDiff, Nat.reduceMul, true_and, and_true, and_self, List.mem_cons, List.not_mem_nil, or_false, or_self, false_or, true_implies, false_implies, not_true_eq_false, not_false_eq_true, nI00, nI10, nI01, nI11, forall_const, implies_true])
      (try simp (disch := omega) only [ixq, ixz, sb_in, sb_in0, upI_sb, upI_sb0, sb_out, nI_add, nI_mul, nI_subq, Nat.zero_add, forall_eq, u2_at, u2_row, upd_at, upd_ne, nI0b, nI1b, nI00, nI10, nI01, nI11, true_implies, false_implies, not_true_eq_false, not_false_eq_true, and_true, true_and, implies_true, c1])
      refine d_madeAlone (μ := μ) (b := x + 4) (B := bk μ (x + 4)) (G := G) (W := W) k2 hf (fun j hj => tri_B hf j hj) (by omega) rb.b0 g6 rb.b1 w8 (fun μ2 f2 _ k87 => ?_)
      rw [ht]
      have i2 := ih (s + 1) (upI μ2 (x + 161) s (tot s)) (by omega) (frZ_up f2 (by omega)) (fun s' hs' => by
        rw [show (upI μ2 (x + 161) s (tot s)).1 (x + 161) = upd (μ2.1 (x + 161)) s (tot s) from up_at]
        by_cases es : s' = s
        · rw [es, upd_at]
        · rw [upd_ne es, k87 (x + 161) (by omega)]
          exact hm s' (by omega))
      clear ih
      (try simp only [↓w_X8_worth_0, ↓w_X8_worth_17, ↓w_X8_worth_19, ↓w_X8_worth_29, ↓w_X8_worth_88, ↓v_X8_worth_17, ↓v_X8_worth_19, ↓v_X8_worth_29, ↓v_X8_worth_56, ↓v_X8_worth_69, ↓v_X8_worth_88, ↓b_aload_n, ↓b_callS1_1, ↓b_callV1_1, ↓b_callV2_0, ↓b_callV4_1, ↓b_getA, ↓b_getI, ↓b_goto, ↓b_iaload, ↓n_iastore, ↓b_ic_ge, ↓b_ic_gt, ↓b_iconst, ↓b_if_eq, ↓b_if_ne, ↓n_iinc, ↓b_iload_n, ↓b_iret, ↓n_istore_n, ↓n_putI, ↓ldI_hit, ↓ldI_skip, ↓ldL_hit, ↓ldL_skip, ↓ldA_hit, ↓ldA_skip, ↓ldelK_nil, ↓ldelK_hit, ↓ldelK_skipI, ↓ldelK_skipA, ↓ldelK_skipL, qP2_X0_allWorks, qP2_X8_areHours, qP2_X8_madeAlone, qP2_X8_setWorth, ↓bI_b, bI_0, nnot, lget_hit, lget_skip, ldel_nil, ldel_hit, ldel_skipI, ldel_skipA, ldel_skipL, ldel2_nil, ldel2_hit, ldel2_hit2, ldel2_skipI, ldel2_skipA, ldel2_skipL, vc_0, mCat_nil, mCat_I, mCat_L, mCat_A, mRcv_A, mArg_nil, mArg_I, mArg_L, mArg_A, tsg, swt_nil, swt_cons, lkw_nil, lkw_cons, ↓reduceIte, Nat.reduceAdd, Nat.reduceEqDiff, Nat.reduceLeDiff, Nat.reduceMul, true_and, and_true, and_self, List.mem_cons, List.not_mem_nil, or_false, or_self, false_or, true_implies, false_implies, not_true_eq_false, not_false_eq_true, nI00, nI10, nI01, nI11, forall_const, implies_true])
      (try simp (disch := omega) only [ixq, ixz, sb_in, sb_in0, upI_sb, upI_sb0, sb_out, nI_add, nI_mul, nI_subq, Nat.zero_add, forall_eq, u2_at, u2_row, upd_at, upd_ne, nI0b, nI1b, nI00, nI10, nI01, nI11, true_implies, false_implies, not_true_eq_false, not_false_eq_true, and_true, true_and, implies_true])
      exact vc_back P2_ok ok_X8_worth [19,29,56,69,88] 8 t_X8_worth_29 (i2) (by simp) (rfl)
  have i2 := main T 0 μ (by omega) frZ_r (fun s' hs' => absurd hs' (Nat.not_lt_zero s'))
  clear main k69
  have c1 : (nI W = 0) = False := by rw [nI_ez (by omega)]; exact eq_false W0
  (try simp only [↓w_X8_worth_0, ↓w_X8_worth_17, ↓w_X8_worth_56, ↓w_X8_worth_69, ↓w_X8_worth_88, ↓v_X8_worth_17, ↓v_X8_worth_19, ↓v_X8_worth_29, ↓v_X8_worth_56, ↓v_X8_worth_69, ↓v_X8_worth_88, ↓b_aload_n, ↓b_callS1_1, ↓b_callV1_1, ↓b_callV2_0, ↓b_callV4_1, ↓b_getA, ↓b_getI, ↓b_goto, ↓b_iaload, ↓n_iastore, ↓b_ic_ge, ↓b_ic_gt, ↓b_iconst, ↓b_if_eq, ↓b_if_ne, ↓n_iinc, ↓b_iload_n, ↓b_iret, ↓n_istore_n, ↓n_putI, ↓ldI_hit, ↓ldI_skip, ↓ldL_hit, ↓ldL_skip, ↓ldA_hit, ↓ldA_skip, ↓ldelK_nil, ↓ldelK_hit, ↓ldelK_skipI, ↓ldelK_skipA, ↓ldelK_skipL, qP2_X0_allWorks, qP2_X8_areHours, qP2_X8_madeAlone, qP2_X8_setWorth, ↓bI_b, bI_0, nnot, lget_hit, lget_skip, ldel_nil, ldel_hit, ldel_skipI, ldel_skipA, ldel_skipL, ldel2_nil, ldel2_hit, ldel2_hit2, ldel2_skipI, ldel2_skipA, ldel2_skipL, vc_0, mCat_nil, mCat_I, mCat_L, mCat_A, mRcv_A, mArg_nil, mArg_I, mArg_L, mArg_A, tsg, swt_nil, swt_cons, lkw_nil, lkw_cons, ↓reduceIte, Nat.reduceAdd, Nat.reduceEqDiff, Nat.reduceLeDiff, Nat.reduceMul, true_and, and_true, and_self, List.mem_cons, List.not_mem_nil, or_false, or_self, false_or, true_implies, false_implies, not_true_eq_false, not_false_eq_true, nI00, nI10, nI01, nI11, forall_const, implies_true])
  (try simp (disch := omega) only [ixq, ixz, sb_in, sb_in0, upI_sb, upI_sb0, sb_out, nI_add, nI_mul, nI_subq, Nat.zero_add, forall_eq, u2_at, u2_row, upd_at, upd_ne, nI0b, nI1b, nI00, nI10, nI01, nI11, true_implies, false_implies, not_true_eq_false, not_false_eq_true, and_true, true_and, implies_true, b1, c1, hin, hik])
  (refine vc_from P2_ok ok_X8_worth [19,29,56,69,88] 8 ?_; rw [t_X8_worth_19])
  (try simp only [↓w_X8_worth_0, ↓w_X8_worth_17, ↓w_X8_worth_19, ↓w_X8_worth_56, ↓w_X8_worth_69, ↓w_X8_worth_88, ↓v_X8_worth_17, ↓v_X8_worth_19, ↓v_X8_worth_29, ↓v_X8_worth_56, ↓v_X8_worth_69, ↓v_X8_worth_88, ↓b_aload_n, ↓b_callS1_1, ↓b_callV1_1, ↓b_callV2_0, ↓b_callV4_1, ↓b_getA, ↓b_getI, ↓b_goto, ↓b_iaload, ↓n_iastore, ↓b_ic_ge, ↓b_ic_gt, ↓b_iconst, ↓b_if_eq, ↓b_if_ne, ↓n_iinc, ↓b_iload_n, ↓b_iret, ↓n_istore_n, ↓n_putI, ↓ldI_hit, ↓ldI_skip, ↓ldL_hit, ↓ldL_skip, ↓ldA_hit, ↓ldA_skip, ↓ldelK_nil, ↓ldelK_hit, ↓ldelK_skipI, ↓ldelK_skipA, ↓ldelK_skipL, qP2_X0_allWorks, qP2_X8_areHours, qP2_X8_madeAlone, qP2_X8_setWorth, ↓bI_b, bI_0, nnot, lget_hit, lget_skip, ldel_nil, ldel_hit, ldel_skipI, ldel_skipA, ldel_skipL, ldel2_nil, ldel2_hit, ldel2_hit2, ldel2_skipI, ldel2_skipA, ldel2_skipL, vc_0, mCat_nil, mCat_I, mCat_L, mCat_A, mRcv_A, mArg_nil, mArg_I, mArg_L, mArg_A, tsg, swt_nil, swt_cons, lkw_nil, lkw_cons, ↓reduceIte, Nat.reduceAdd, Nat.reduceEqDiff, Nat.reduceLeDiff, Nat.reduceMul, true_and, and_true, and_self, List.mem_cons, List.not_mem_nil, or_false, or_self, false_or, true_implies, false_implies, not_true_eq_false, not_false_eq_true, nI00, nI10, nI01, nI11, forall_const, implies_true])
  (try simp (disch := omega) only [ixq, ixz, sb_in, sb_in0, upI_sb, upI_sb0, sb_out, nI_add, nI_mul, nI_subq, Nat.zero_add, forall_eq, u2_at, u2_row, upd_at, upd_ne, nI0b, nI1b, nI00, nI10, nI01, nI11, true_implies, false_implies, not_true_eq_false, not_false_eq_true, and_true, true_and, implies_true, b1, eT])
  exact i2
end MWp
