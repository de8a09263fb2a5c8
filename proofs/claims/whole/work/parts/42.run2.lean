def runS (G W : Nat) (f fr : Nat → Int32) (k : Nat) (V : Bk) : Bk := hourV G W f (fr k) (nI k) V
section MRp
variable {X : mC} {h m n : Nat} {K : MV → Mem → Prop} {μ : Mem} {Q : Bk} {G W L : Nat}
theorem stp_no {f2 : Nat → Int32} {pl : Int32} {L : Nat} {w hour : Int32} (h : pl = 0) : ¬ stpP f2 pl L w hour := fun ⟨_, _, z, _⟩ => z h
theorem c_runR {fr : Nat → Int32} (hn : n < 2 ^ 31) (hG : Q 10 0 = nI G) (hG6 : G ≤ 6) (hW : Q 10 1 = nI W) (hW8 : W ≤ 8) (hL : Q 2 278 = nI L) (hL20 : L ≤ 20) (hq : ∀ k, k < L → Q 2 (279 + 5 * k) = nI 1 → ∃ w g, w < 8 ∧ g < 6 ∧ Q 2 (279 + 5 * k + 1) = nI w ∧ Q 2 (279 + 5 * k + 2) = nI g) (hp : Q 0 29 = 0)
    (hfr : ∀ k, k < n → ∀ w, w < W → ((¬ Q 0 27 >>> (nI w &&& 31) &&& nI 1 = nI 1) ∧ (¬ nI k / nI 12 = Q 0 28) ↔ fr k >>> (nI w &&& 31) &&& nI 1 = nI 1))
    (hK : K (.inl (madeV (runV G W (Q 10) fr n (vw 11 0 Q)))) (sb μ m 21 (rb 11 0 Q (runV G W (Q 10) fr n (vw 11 0 Q))))) : mMet X (h + 5) m_X9_run [.inr (.inr (8, 0, m)), .inl (nI n)] (sb μ m 21 Q) K := by
  have hK : K (.inl (madeV (fo n (runS G W (Q 10) fr) (startV (Q 10) (vw 11 0 Q))))) (sb μ m 21 (rb 11 0 Q (fo n (runS G W (Q 10) fr) (startV (Q 10) (vw 11 0 Q))))) := hK
  (refine vc_met2 P0_ok ok_X9_run cm_X9_run [11] 6 t_X9_run_0 (Nat.le_of_ble_eq_true rfl) ?_; simp only [mArg_nil, mArg_I, mArg_L, mArg_A, Nat.reduceAdd])
  simp only [↓w_X9_run_0, ↓w_X9_run_31, ↓v_X9_run_11, ↓v_X9_run_31, ↓b_aload_n, ↓b_callV3_0, ↓b_callV3_1, ↓b_getA, ↓b_goto, ↓b_ic_ge, ↓b_iconst, ↓n_iinc, ↓b_iload_n, ↓b_iret, ↓n_istore_n, ↓ldI_hit, ↓ldI_skip, ↓ldL_hit, ↓ldL_skip, ↓ldA_hit, ↓ldA_skip, ↓ldelK_nil, ↓ldelK_hit, ↓ldelK_skipI, ↓ldelK_skipA, ↓ldelK_skipL, lget_hit, lget_skip, ldel_nil, ldel_hit, ldel_skipI, ldel_skipA, ldel_skipL, ldel2_nil, ldel2_hit, ldel2_hit2, ldel2_skipI, ldel2_skipA, ldel2_skipL, vc_0, mCall_P0, mCat_nil, mCat_I, mCat_L, mCat_A, mRcv_A, mArg_nil, mArg_I, mArg_L, mArg_A, tsg, swt_nil, swt_cons, lkw_nil, lkw_cons, ↓reduceIte, Nat.reduceAdd, Nat.reduceEqDiff, Nat.reduceLeDiff, Nat.reduceMul, true_and, and_true, and_self, List.mem_cons, List.not_mem_nil, or_false, or_self, false_or, true_implies, false_implies, not_true_eq_false, not_false_eq_true, nI00, nI10, nI01, nI11, forall_const, implies_true]
  have e := rb_self (r := 11) (base := 0) (Q := Q) (by decide)
  rw [← e]
  generalize vw 11 0 Q = V at hK ⊢
  refine c_startR (r := 11) (base := 0) (n := 296) (Or.inr rfl) (by omega) (by omega) ?_
  have es : startV (Q 10) V 0 0 = nI 0 := start_0
  generalize startV (Q 10) V = S at hK es ⊢
  rintro _ rfl
  have key := loop_up (fun k => bb X P0 m_X9_run (h + 4) K (vc X P0 m_X9_run (h + 4) K k_X9_run [11] 6) s_X9_run_11 [(2, .inl (nI k)), (0, .inr (.inr (8, 0, m))), (1, .inl (nI n))] [] (sb μ m 21 (rb 11 0 Q (fo k (runS G W (Q 10) fr) S)))) n ?_ ?_
  · rw [fo_0] at key
    exact key
  · simp only [↓w_X9_run_0, ↓w_X9_run_11, ↓w_X9_run_31, ↓v_X9_run_11, ↓v_X9_run_31, ↓b_aload_n, ↓b_callV3_0, ↓b_callV3_1, ↓b_getA, ↓b_goto, ↓b_ic_ge, ↓b_iconst, ↓n_iinc, ↓b_iload_n, ↓b_iret, ↓n_istore_n, ↓ldI_hit, ↓ldI_skip, ↓ldL_hit, ↓ldL_skip, ↓ldA_hit, ↓ldA_skip, ↓ldelK_nil, ↓ldelK_hit, ↓ldelK_skipI, ↓ldelK_skipA, ↓ldelK_skipL, lget_hit, lget_skip, ldel_nil, ldel_hit, ldel_skipI, ldel_skipA, ldel_skipL, ldel2_nil, ldel2_hit, ldel2_hit2, ldel2_skipI, ldel2_skipA, ldel2_skipL, vc_0, mCall_P0, mCat_nil, mCat_I, mCat_L, mCat_A, mRcv_A, mArg_nil, mArg_I, mArg_L, mArg_A, tsg, swt_nil, swt_cons, lkw_nil, lkw_cons, ↓reduceIte, Nat.reduceAdd, Nat.reduceEqDiff, Nat.reduceLeDiff, Nat.reduceMul, true_and, and_true, and_self, List.mem_cons, List.not_mem_nil, or_false, or_self, false_or, true_implies, false_implies, not_true_eq_false, not_false_eq_true, nI00, nI10, nI01, nI11, forall_const, implies_true]
    simp (disch := omega) only [ixq, ixz, sb_in, sb_in0, upI_sb, upI_sb0, sb_out, nI_add, nI_mul, nI_subq, Nat.zero_add, forall_eq, u2_at, u2_row, upd_at, upd_ne, nI0b, nI1b, nI00, nI10, nI01, nI11, true_implies, false_implies, not_true_eq_false, not_false_eq_true, and_true, true_and, implies_true, nI_lq]
    refine ⟨fun _ => ?_, fun hc => absurd (Nat.le_refl n) hc⟩
    refine c_madeIn (r := 11) (base := 0) (n := 296) (Or.inr rfl) (by omega) (by omega) ?_
    (try simp only [↓w_X9_run_0, ↓w_X9_run_11, ↓w_X9_run_31, ↓v_X9_run_11, ↓v_X9_run_31, ↓b_aload_n, ↓b_callV3_0, ↓b_callV3_1, ↓b_getA, ↓b_goto, ↓b_ic_ge, ↓b_iconst, ↓n_iinc, ↓b_iload_n, ↓b_iret, ↓n_istore_n, ↓ldI_hit, ↓ldI_skip, ↓ldL_hit, ↓ldL_skip, ↓ldA_hit, ↓ldA_skip, ↓ldelK_nil, ↓ldelK_hit, ↓ldelK_skipI, ↓ldelK_skipA, ↓ldelK_skipL, lget_hit, lget_skip, ldel_nil, ldel_hit, ldel_skipI, ldel_skipA, ldel_skipL, ldel2_nil, ldel2_hit, ldel2_hit2, ldel2_skipI, ldel2_skipA, ldel2_skipL, vc_0, mCall_P0, mCat_nil, mCat_I, mCat_L, mCat_A, mRcv_A, mArg_nil, mArg_I, mArg_L, mArg_A, tsg, swt_nil, swt_cons, lkw_nil, lkw_cons, ↓reduceIte, Nat.reduceAdd, Nat.reduceEqDiff, Nat.reduceLeDiff, Nat.reduceMul, true_and, and_true, and_self, List.mem_cons, List.not_mem_nil, or_false, or_self, false_or, true_implies, false_implies, not_true_eq_false, not_false_eq_true, nI00, nI10, nI01, nI11, forall_const, implies_true]); (try simp (disch := omega) only [ixq, ixz, sb_in, sb_in0, upI_sb, upI_sb0, sb_out, nI_add, nI_mul, nI_subq, Nat.zero_add, forall_eq, u2_at, u2_row, upd_at, upd_ne, nI0b, nI1b, nI00, nI10, nI01, nI11, true_implies, false_implies, not_true_eq_false, not_false_eq_true, and_true, true_and, implies_true])
    exact hK
  · intro k hk ih
    rw [fo_s] at ih
    have e0 : fo k (runS G W (Q 10) fr) S 0 0 = nI k := run_0 (fr := fr) es k
    generalize fo k (runS G W (Q 10) fr) S = V1 at ih e0 ⊢
    simp only [↓w_X9_run_0, ↓w_X9_run_11, ↓w_X9_run_31, ↓v_X9_run_11, ↓v_X9_run_31, ↓b_aload_n, ↓b_callV3_0, ↓b_callV3_1, ↓b_getA, ↓b_goto, ↓b_ic_ge, ↓b_iconst, ↓n_iinc, ↓b_iload_n, ↓b_iret, ↓n_istore_n, ↓ldI_hit, ↓ldI_skip, ↓ldL_hit, ↓ldL_skip, ↓ldA_hit, ↓ldA_skip, ↓ldelK_nil, ↓ldelK_hit, ↓ldelK_skipI, ↓ldelK_skipA, ↓ldelK_skipL, lget_hit, lget_skip, ldel_nil, ldel_hit, ldel_skipI, ldel_skipA, ldel_skipL, ldel2_nil, ldel2_hit, ldel2_hit2, ldel2_skipI, ldel2_skipA, ldel2_skipL, vc_0, mCall_P0, mCat_nil, mCat_I, mCat_L, mCat_A, mRcv_A, mArg_nil, mArg_I, mArg_L, mArg_A, tsg, swt_nil, swt_cons, lkw_nil, lkw_cons, ↓reduceIte, Nat.reduceAdd, Nat.reduceEqDiff, Nat.reduceLeDiff, Nat.reduceMul, true_and, and_true, and_self, List.mem_cons, List.not_mem_nil, or_false, or_self, false_or, true_implies, false_implies, not_true_eq_false, not_false_eq_true, nI00, nI10, nI01, nI11, forall_const, implies_true]
    simp (disch := omega) only [ixq, ixz, sb_in, sb_in0, upI_sb, upI_sb0, sb_out, nI_add, nI_mul, nI_subq, Nat.zero_add, forall_eq, u2_at, u2_row, upd_at, upd_ne, nI0b, nI1b, nI00, nI10, nI01, nI11, true_implies, false_implies, not_true_eq_false, not_false_eq_true, and_true, true_and, implies_true, nI_lq]
    refine ⟨fun hc => absurd hc (by omega), fun _ => ?_⟩
    refine c_hourR (r := 11) (base := 0) (n := 296) (free := fr k) (V0 := V1) (Or.inr rfl) (by omega) (by omega) hG hG6 hW hW8 hL hL20 hq ?_ ?_ ?_
    · intro w hw
      rw [e0, ← hfr k hk w hw]
      exact ⟨fun z => ⟨z.1, z.2.1⟩, fun z => ⟨z.1, z.2, stp_no hp⟩⟩
    · rw [if_pos hp]
    · rw [e0]
      have ih2 := ih
      unfold runS at ih2
      exact vc_back P0_ok ok_X9_run [11] 6 t_X9_run_11 (ih2) (by simp) (rfl)
end MRp
