section MAl
variable {X : mC} {h x b : Nat} {K : MV → Mem → Prop} {μ : Mem} {B : Bk} {G W : Nat} {set : Int32}
theorem runC_many {R : Bk} {a : Nat} : ∀ n, fo n (fun _ => passF G W B set) (runC G W B (fun _ => set) R a) = runC G W B (fun _ => set) R (a + n) := by
  intro n
  induction n with
  | zero => rfl
  | succ n ih => rw [fo_s, ih]; exact runC_s.symm
theorem sb_outB {r n : Nat} {R : Bk} (hd : b + 12 ≤ r) (hB : ∀ k, k < 12 → μ.1 (b + k) = B k) : ∀ k, k < 12 → (sb μ r n R).1 (b + k) = B k := fun k hk => by rw [sb_out (by omega)]; exact hB k hk
theorem copyRF_at {R R2 : Bk} : (∀ c, c < 48 → copyRF R R2 1 c = R2 1 c) ∧ (∀ g, g < 6 → copyRF R R2 5 g = R2 5 g) ∧ ∀ w, w < 8 → copyRF R R2 8 w = R2 8 w := by
  unfold copyRF
  refine ⟨fun c hc => ?_, fun g hg => ?_, fun w hw => ?_⟩ <;> simp (disch := omega) only [up_row, up_at, cpy_in]
theorem c_madeAlone {n : Nat} (hn : n ≤ 200) (hB : ∀ k, k < 12 → μ.1 (b + k) = B k) (hb : b + 12 ≤ x + 62) (hG : B 0 0 = nI G) (hG6 : G ≤ 6) (hW : B 0 1 = nI W) (hW8 : W ≤ 8) (hK : ∀ R1 R2, K (.inl (totF W B (runC G W B (fun _ => set) (fun _ _ => nI 0) n))) (sb (sb μ (x + 74) 12 R2) (x + 62) 12 R1)) : mMet X (h + 5) m_X8_madeAlone [.inr (.inr (7, 0, x)), .inr (.inr (0, 0, b)), .inl set, .inl (nI n)] μ K := by
  have e62 : μ = sb (sb μ (x + 74) 12 (bk μ (x + 74))) (x + 62) 12 (bk μ (x + 62)) := by
    rw [sb_self, sb_self]
  generalize hR0 : bk μ (x + 62) = R0 at e62
  generalize bk μ (x + 74) = S0 at e62
  have hK2 : ∀ R1 R2, K (.inl (totF W B (runC G W B (fun _ => set) R0 n))) (sb (sb μ (x + 74) 12 R2) (x + 62) 12 R1) := fun R1 R2 => by
    rw [tot_start (R2 := fun _ _ => nI 0) hG6 hW8 (by omega)]
    exact hK R1 R2
  have hd12 : nI n / nI 12 = nI (n / 12) := pk_div (a := n) (d := 12) (by omega) (by decide) (by decide)
  have hr12 : nI n - nI n / nI 12 * nI 12 = nI (n % 12) := hod_nat (by omega)
  rw [e62]
  have hBS : ∀ S k, k < 12 → (sb μ (x + 74) 12 S).1 (b + k) = B k := fun S => sb_outB (by omega) hB
  (refine vc_met2 P0_ok ok_X8_madeAlone cm_X8_madeAlone [20,99] 8 t_X8_madeAlone_0 (Nat.le_of_ble_eq_true rfl) ?_; simp only [mArg_nil, mArg_I, mArg_L, mArg_A, Nat.reduceAdd])
  have k99 : ∀ y t ca S, t + n % 12 < 2 ^ 20 → totF W B (runC G W B (fun _ => set) R0 (t + n % 12)) + ca = totF W B (runC G W B (fun _ => set) R0 n) → mAt X m_X8_madeAlone (h + 4) K 99 [(6, .inl y), (5, .inl ca), (4, .inl (nI (n / 12))), (0, .inr (.inr (7, 0, x))), (1, .inr (.inr (0, 0, b))), (2, .inl set), (3, .inl (nI n))] [] (sb (sb μ (x + 74) 12 S) (x + 62) 12 (runC G W B (fun _ => set) R0 t)) := by
    intro y t ca S ht hca
    (refine vc_from P0_ok ok_X8_madeAlone [20,99] 8 ?_; rw [t_X8_madeAlone_99])
    simp only [↓w_X8_madeAlone_0, ↓w_X8_madeAlone_20, ↓w_X8_madeAlone_93, ↓w_X8_madeAlone_99, ↓v_X8_madeAlone_20, ↓v_X8_madeAlone_93, ↓v_X8_madeAlone_99, ↓b_aload_n, ↓b_bipush, ↓b_callV2_0, ↓b_callV2_1, ↓b_callV4_0, ↓b_getA, ↓b_goto, ↓b_iadd, ↓b_ic_ge, ↓b_iconst, ↓b_idiv, ↓b_if_eq, ↓n_iinc, ↓b_iload, ↓b_iload_n, ↓b_imul, ↓b_irem, ↓b_iret, ↓n_istore, ↓b_isub, ↓ldI_hit, ↓ldI_skip, ↓ldL_hit, ↓ldL_skip, ↓ldA_hit, ↓ldA_skip, ↓ldelK_nil, ↓ldelK_hit, ↓ldelK_skipI, ↓ldelK_skipA, ↓ldelK_skipL, lget_hit, lget_skip, ldel_nil, ldel_hit, ldel_skipI, ldel_skipA, ldel_skipL, ldel2_nil, ldel2_hit, ldel2_hit2, ldel2_skipI, ldel2_skipA, ldel2_skipL, vc_0, mCall_P0, mCat_nil, mCat_I, mCat_L, mCat_A, mRcv_A, mArg_nil, mArg_I, mArg_L, mArg_A, tsg, swt_nil, swt_cons, lkw_nil, lkw_cons, ↓reduceIte, Nat.reduceAdd, Nat.reduceEqDiff, Nat.reduceLeDiff, Nat.reduceMul, true_and, and_true, and_self, List.mem_cons, List.not_mem_nil, or_false, or_self, false_or, true_implies, false_implies, not_true_eq_false, not_false_eq_true, nI00, nI10, nI01, nI11, forall_const, implies_true]
    refine ⟨by decide, ?_⟩
    rw [hr12]
    refine c_passMany (by omega) (hBS S) hG hG6 hW hW8 (by omega) ?_
    rw [runC_many]
    refine c_total (R := runC G W B (fun _ => set) R0 (t + n % 12)) (sb_outB hb (hBS S)) (fun k hk => sb_in hk) hW hW8 ?_
    (try simp only [↓w_X8_madeAlone_0, ↓w_X8_madeAlone_20, ↓w_X8_madeAlone_93, ↓w_X8_madeAlone_99, ↓v_X8_madeAlone_20, ↓v_X8_madeAlone_93, ↓v_X8_madeAlone_99, ↓b_aload_n, ↓b_bipush, ↓b_callV2_0, ↓b_callV2_1, ↓b_callV4_0, ↓b_getA, ↓b_goto, ↓b_iadd, ↓b_ic_ge, ↓b_iconst, ↓b_idiv, ↓b_if_eq, ↓n_iinc, ↓b_iload, ↓b_iload_n, ↓b_imul, ↓b_irem, ↓b_iret, ↓n_istore, ↓b_isub, ↓ldI_hit, ↓ldI_skip, ↓ldL_hit, ↓ldL_skip, ↓ldA_hit, ↓ldA_skip, ↓ldelK_nil, ↓ldelK_hit, ↓ldelK_skipI, ↓ldelK_skipA, ↓ldelK_skipL, lget_hit, lget_skip, ldel_nil, ldel_hit, ldel_skipI, ldel_skipA, ldel_skipL, ldel2_nil, ldel2_hit, ldel2_hit2, ldel2_skipI, ldel2_skipA, ldel2_skipL, vc_0, mCall_P0, mCat_nil, mCat_I, mCat_L, mCat_A, mRcv_A, mArg_nil, mArg_I, mArg_L, mArg_A, tsg, swt_nil, swt_cons, lkw_nil, lkw_cons, ↓reduceIte, Nat.reduceAdd, Nat.reduceEqDiff, Nat.reduceLeDiff, Nat.reduceMul, true_and, and_true, and_self, List.mem_cons, List.not_mem_nil, or_false, or_self, false_or, true_implies, false_implies, not_true_eq_false, not_false_eq_true, nI00, nI10, nI01, nI11, forall_const, implies_true]); (try simp (disch := omega) only [ixq, ixz, sb_in, sb_in0, upI_sb, upI_sb0, sb_out, nI_add, nI_mul, nI_subq, Nat.zero_add, forall_eq, u2_at, u2_row, upd_at, upd_ne, nI0b, nI1b, nI00, nI10, nI01, nI11, true_implies, false_implies, not_true_eq_false, not_false_eq_true, and_true, true_and, implies_true])
    rw [hca]
    exact hK2 _ _
  simp only [↓w_X8_madeAlone_0, ↓w_X8_madeAlone_93, ↓w_X8_madeAlone_99, ↓v_X8_madeAlone_20, ↓v_X8_madeAlone_93, ↓v_X8_madeAlone_99, ↓b_aload_n, ↓b_bipush, ↓b_callV2_0, ↓b_callV2_1, ↓b_callV4_0, ↓b_getA, ↓b_goto, ↓b_iadd, ↓b_ic_ge, ↓b_iconst, ↓b_idiv, ↓b_if_eq, ↓n_iinc, ↓b_iload, ↓b_iload_n, ↓b_imul, ↓b_irem, ↓b_iret, ↓n_istore, ↓b_isub, ↓ldI_hit, ↓ldI_skip, ↓ldL_hit, ↓ldL_skip, ↓ldA_hit, ↓ldA_skip, ↓ldelK_nil, ↓ldelK_hit, ↓ldelK_skipI, ↓ldelK_skipA, ↓ldelK_skipL, lget_hit, lget_skip, ldel_nil, ldel_hit, ldel_skipI, ldel_skipA, ldel_skipL, ldel2_nil, ldel2_hit, ldel2_hit2, ldel2_skipI, ldel2_skipA, ldel2_skipL, vc_0, mCall_P0, mCat_nil, mCat_I, mCat_L, mCat_A, mRcv_A, mArg_nil, mArg_I, mArg_L, mArg_A, tsg, swt_nil, swt_cons, lkw_nil, lkw_cons, ↓reduceIte, Nat.reduceAdd, Nat.reduceEqDiff, Nat.reduceLeDiff, Nat.reduceMul, true_and, and_true, and_self, List.mem_cons, List.not_mem_nil, or_false, or_self, false_or, true_implies, false_implies, not_true_eq_false, not_false_eq_true, nI00, nI10, nI01, nI11, forall_const, implies_true]
  refine ⟨by decide, ?_⟩
  rw [hd12]
  rintro _ rfl _ rfl
  refine c_startAsTold (hBS S0) (by omega) ?_
  rintro _ rfl
  have key : ∀ k d S, d + k = n / 12 → bb X P0 m_X8_madeAlone (h + 4) K (vc X P0 m_X8_madeAlone (h + 4) K k_X8_madeAlone [20,99] 8) s_X8_madeAlone_20 [(6, .inl (nI d)), (5, .inl (nI 0)), (4, .inl (nI (n / 12))), (0, .inr (.inr (7, 0, x))), (1, .inr (.inr (0, 0, b))), (2, .inl set), (3, .inl (nI n))] [] (sb (sb μ (x + 74) 12 S) (x + 62) 12 (runC G W B (fun _ => set) R0 (12 * d))) := by
    intro k
    induction k with
    | zero =>
      intro d S hd
      simp only [↓w_X8_madeAlone_0, ↓w_X8_madeAlone_20, ↓w_X8_madeAlone_93, ↓v_X8_madeAlone_20, ↓v_X8_madeAlone_93, ↓v_X8_madeAlone_99, ↓b_aload_n, ↓b_bipush, ↓b_callV2_0, ↓b_callV2_1, ↓b_callV4_0, ↓b_getA, ↓b_goto, ↓b_iadd, ↓b_ic_ge, ↓b_iconst, ↓b_idiv, ↓b_if_eq, ↓n_iinc, ↓b_iload, ↓b_iload_n, ↓b_imul, ↓b_irem, ↓b_iret, ↓n_istore, ↓b_isub, ↓ldI_hit, ↓ldI_skip, ↓ldL_hit, ↓ldL_skip, ↓ldA_hit, ↓ldA_skip, ↓ldelK_nil, ↓ldelK_hit, ↓ldelK_skipI, ↓ldelK_skipA, ↓ldelK_skipL, lget_hit, lget_skip, ldel_nil, ldel_hit, ldel_skipI, ldel_skipA, ldel_skipL, ldel2_nil, ldel2_hit, ldel2_hit2, ldel2_skipI, ldel2_skipA, ldel2_skipL, vc_0, mCall_P0, mCat_nil, mCat_I, mCat_L, mCat_A, mRcv_A, mArg_nil, mArg_I, mArg_L, mArg_A, tsg, swt_nil, swt_cons, lkw_nil, lkw_cons, ↓reduceIte, Nat.reduceAdd, Nat.reduceEqDiff, Nat.reduceLeDiff, Nat.reduceMul, true_and, and_true, and_self, List.mem_cons, List.not_mem_nil, or_false, or_self, false_or, true_implies, false_implies, not_true_eq_false, not_false_eq_true, nI00, nI10, nI01, nI11, forall_const, implies_true]
      simp (disch := omega) only [ixq, ixz, sb_in, sb_in0, upI_sb, upI_sb0, sb_out, nI_add, nI_mul, nI_subq, Nat.zero_add, forall_eq, u2_at, u2_row, upd_at, upd_ne, nI0b, nI1b, nI00, nI10, nI01, nI11, true_implies, false_implies, not_true_eq_false, not_false_eq_true, and_true, true_and, implies_true, nI_lq]
      refine ⟨fun _ => ?_, fun hc => absurd hc (by omega)⟩
      refine k99 _ (12 * d) (nI 0) S (by omega) ?_
      rw [show 12 * d + n % 12 = n by omega]
      exact Int32.add_zero _
    | succ k ih =>
      intro d S hd
      simp only [↓w_X8_madeAlone_0, ↓w_X8_madeAlone_20, ↓w_X8_madeAlone_93, ↓v_X8_madeAlone_20, ↓v_X8_madeAlone_93, ↓v_X8_madeAlone_99, ↓b_aload_n, ↓b_bipush, ↓b_callV2_0, ↓b_callV2_1, ↓b_callV4_0, ↓b_getA, ↓b_goto, ↓b_iadd, ↓b_ic_ge, ↓b_iconst, ↓b_idiv, ↓b_if_eq, ↓n_iinc, ↓b_iload, ↓b_iload_n, ↓b_imul, ↓b_irem, ↓b_iret, ↓n_istore, ↓b_isub, ↓ldI_hit, ↓ldI_skip, ↓ldL_hit, ↓ldL_skip, ↓ldA_hit, ↓ldA_skip, ↓ldelK_nil, ↓ldelK_hit, ↓ldelK_skipI, ↓ldelK_skipA, ↓ldelK_skipL, lget_hit, lget_skip, ldel_nil, ldel_hit, ldel_skipI, ldel_skipA, ldel_skipL, ldel2_nil, ldel2_hit, ldel2_hit2, ldel2_skipI, ldel2_skipA, ldel2_skipL, vc_0, mCall_P0, mCat_nil, mCat_I, mCat_L, mCat_A, mRcv_A, mArg_nil, mArg_I, mArg_L, mArg_A, tsg, swt_nil, swt_cons, lkw_nil, lkw_cons, ↓reduceIte, Nat.reduceAdd, Nat.reduceEqDiff, Nat.reduceLeDiff, Nat.reduceMul, true_and, and_true, and_self, List.mem_cons, List.not_mem_nil, or_false, or_self, false_or, true_implies, false_implies, not_true_eq_false, not_false_eq_true, nI00, nI10, nI01, nI11, forall_const, implies_true]
      simp (disch := omega) only [ixq, ixz, sb_in, sb_in0, upI_sb, upI_sb0, sb_out, nI_add, nI_mul, nI_subq, Nat.zero_add, forall_eq, u2_at, u2_row, upd_at, upd_ne, nI0b, nI1b, nI00, nI10, nI01, nI11, true_implies, false_implies, not_true_eq_false, not_false_eq_true, and_true, true_and, implies_true, nI_lq]
      refine ⟨fun hc => absurd hc (by omega), fun _ => ?_⟩
      rw [sb_comm (by omega)]
      refine c_copyRun (R2 := runC G W B (fun _ => set) R0 (12 * d)) (by omega) (fun k hk => sb_in hk) ?_
      rw [sb_comm (by omega)]
      have ec := copyRF_at (R := S) (R2 := runC G W B (fun _ => set) R0 (12 * d))
      generalize copyRF S (runC G W B (fun _ => set) R0 (12 * d)) = S' at ec ⊢
      refine c_passMany (n := 12) (by omega) (hBS S') hG hG6 hW hW8 (by omega) ?_
      rw [runC_many, show 12 * d + 12 = 12 * (d + 1) by omega]
      refine c_isLike (R := runC G W B (fun _ => set) R0 (12 * (d + 1))) (R2 := S') (fun k hk => sb_in hk) (fun k hk => by rw [sb_out (by omega), sb_in hk]) (fun hl => ?_) (fun hl => ?_)
      · have hl2 : likeF (runC G W B (fun _ => set) R0 (12 * (d + 1))) (runC G W B (fun _ => set) R0 (12 * d)) := ⟨fun c hc => (hl.1 c hc).trans (ec.1 c hc), fun g hg => (hl.2 g hg).trans (ec.2.1 g hg)⟩
        have hag := day_again (B := B) (r := n % 12) hG6 hW8 hl2 (n / 12 - 1 - d) (by omega)
        rw [show 12 * (d + 1) + 12 * (n / 12 - 1 - d) + n % 12 = n by omega] at hag
        have et : totF W B S' = totF W B (runC G W B (fun _ => set) R0 (12 * d)) := by
          have kk : ∀ i, i ≤ W → fo i (fun w s => s + S' 8 w * B 6 w) (nI 0) = fo i (fun w s => s + runC G W B (fun _ => set) R0 (12 * d) 8 w * B 6 w) (nI 0) := by
            intro i
            induction i with
            | zero => intro _; rfl
            | succ i ih2 => intro hi; rw [fo_s, fo_s, ih2 (by omega), ec.2.2 i (by omega)]
          exact kk W (Nat.le_refl W)
        simp only [↓w_X8_madeAlone_0, ↓w_X8_madeAlone_20, ↓w_X8_madeAlone_93, ↓v_X8_madeAlone_20, ↓v_X8_madeAlone_93, ↓v_X8_madeAlone_99, ↓b_aload_n, ↓b_bipush, ↓b_callV2_0, ↓b_callV2_1, ↓b_callV4_0, ↓b_getA, ↓b_goto, ↓b_iadd, ↓b_ic_ge, ↓b_iconst, ↓b_idiv, ↓b_if_eq, ↓n_iinc, ↓b_iload, ↓b_iload_n, ↓b_imul, ↓b_irem, ↓b_iret, ↓n_istore, ↓b_isub, ↓ldI_hit, ↓ldI_skip, ↓ldL_hit, ↓ldL_skip, ↓ldA_hit, ↓ldA_skip, ↓ldelK_nil, ↓ldelK_hit, ↓ldelK_skipI, ↓ldelK_skipA, ↓ldelK_skipL, lget_hit, lget_skip, ldel_nil, ldel_hit, ldel_skipI, ldel_skipA, ldel_skipL, ldel2_nil, ldel2_hit, ldel2_hit2, ldel2_skipI, ldel2_skipA, ldel2_skipL, vc_0, mCall_P0, mCat_nil, mCat_I, mCat_L, mCat_A, mRcv_A, mArg_nil, mArg_I, mArg_L, mArg_A, tsg, swt_nil, swt_cons, lkw_nil, lkw_cons, ↓reduceIte, Nat.reduceAdd, Nat.reduceEqDiff, Nat.reduceLeDiff, Nat.reduceMul, true_and, and_true, and_self, List.mem_cons, List.not_mem_nil, or_false, or_self, false_or, true_implies, false_implies, not_true_eq_false, not_false_eq_true, nI00, nI10, nI01, nI11, forall_const, implies_true]
        refine c_total (R := runC G W B (fun _ => set) R0 (12 * (d + 1))) (sb_outB hb (hBS S')) (fun k hk => sb_in hk) hW hW8 ?_
        simp only [↓w_X8_madeAlone_0, ↓w_X8_madeAlone_20, ↓w_X8_madeAlone_93, ↓v_X8_madeAlone_20, ↓v_X8_madeAlone_93, ↓v_X8_madeAlone_99, ↓b_aload_n, ↓b_bipush, ↓b_callV2_0, ↓b_callV2_1, ↓b_callV4_0, ↓b_getA, ↓b_goto, ↓b_iadd, ↓b_ic_ge, ↓b_iconst, ↓b_idiv, ↓b_if_eq, ↓n_iinc, ↓b_iload, ↓b_iload_n, ↓b_imul, ↓b_irem, ↓b_iret, ↓n_istore, ↓b_isub, ↓ldI_hit, ↓ldI_skip, ↓ldL_hit, ↓ldL_skip, ↓ldA_hit, ↓ldA_skip, ↓ldelK_nil, ↓ldelK_hit, ↓ldelK_skipI, ↓ldelK_skipA, ↓ldelK_skipL, lget_hit, lget_skip, ldel_nil, ldel_hit, ldel_skipI, ldel_skipA, ldel_skipL, ldel2_nil, ldel2_hit, ldel2_hit2, ldel2_skipI, ldel2_skipA, ldel2_skipL, vc_0, mCall_P0, mCat_nil, mCat_I, mCat_L, mCat_A, mRcv_A, mArg_nil, mArg_I, mArg_L, mArg_A, tsg, swt_nil, swt_cons, lkw_nil, lkw_cons, ↓reduceIte, Nat.reduceAdd, Nat.reduceEqDiff, Nat.reduceLeDiff, Nat.reduceMul, true_and, and_true, and_self, List.mem_cons, List.not_mem_nil, or_false, or_self, false_or, true_implies, false_implies, not_true_eq_false, not_false_eq_true, nI00, nI10, nI01, nI11, forall_const, implies_true]
        refine c_total (R := S') (sb_outB hb (hBS S')) (fun k hk => by rw [sb_out (by omega), sb_in hk]) hW hW8 ?_
        simp only [↓w_X8_madeAlone_0, ↓w_X8_madeAlone_20, ↓w_X8_madeAlone_93, ↓v_X8_madeAlone_20, ↓v_X8_madeAlone_93, ↓v_X8_madeAlone_99, ↓b_aload_n, ↓b_bipush, ↓b_callV2_0, ↓b_callV2_1, ↓b_callV4_0, ↓b_getA, ↓b_goto, ↓b_iadd, ↓b_ic_ge, ↓b_iconst, ↓b_idiv, ↓b_if_eq, ↓n_iinc, ↓b_iload, ↓b_iload_n, ↓b_imul, ↓b_irem, ↓b_iret, ↓n_istore, ↓b_isub, ↓ldI_hit, ↓ldI_skip, ↓ldL_hit, ↓ldL_skip, ↓ldA_hit, ↓ldA_skip, ↓ldelK_nil, ↓ldelK_hit, ↓ldelK_skipI, ↓ldelK_skipA, ↓ldelK_skipL, lget_hit, lget_skip, ldel_nil, ldel_hit, ldel_skipI, ldel_skipA, ldel_skipL, ldel2_nil, ldel2_hit, ldel2_hit2, ldel2_skipI, ldel2_skipA, ldel2_skipL, vc_0, mCall_P0, mCat_nil, mCat_I, mCat_L, mCat_A, mRcv_A, mArg_nil, mArg_I, mArg_L, mArg_A, tsg, swt_nil, swt_cons, lkw_nil, lkw_cons, ↓reduceIte, Nat.reduceAdd, Nat.reduceEqDiff, Nat.reduceLeDiff, Nat.reduceMul, true_and, and_true, and_self, List.mem_cons, List.not_mem_nil, or_false, or_self, false_or, true_implies, false_implies, not_true_eq_false, not_false_eq_true, nI00, nI10, nI01, nI11, forall_const, implies_true]
        rw [et]
        rintro _ rfl
        refine mAt_sub ?_ (k99 (nI d) (12 * (d + 1)) _ S' (by omega) hag.symm)
        have e2 : nI (n / 12) - nI 1 - nI d = nI (n / 12 - 1 - d) := by
          rw [nI_subq (by omega), nI_subq (by omega)]
        rw [e2]
        simp
      · simp only [↓w_X8_madeAlone_0, ↓w_X8_madeAlone_20, ↓w_X8_madeAlone_93, ↓v_X8_madeAlone_20, ↓v_X8_madeAlone_93, ↓v_X8_madeAlone_99, ↓b_aload_n, ↓b_bipush, ↓b_callV2_0, ↓b_callV2_1, ↓b_callV4_0, ↓b_getA, ↓b_goto, ↓b_iadd, ↓b_ic_ge, ↓b_iconst, ↓b_idiv, ↓b_if_eq, ↓n_iinc, ↓b_iload, ↓b_iload_n, ↓b_imul, ↓b_irem, ↓b_iret, ↓n_istore, ↓b_isub, ↓ldI_hit, ↓ldI_skip, ↓ldL_hit, ↓ldL_skip, ↓ldA_hit, ↓ldA_skip, ↓ldelK_nil, ↓ldelK_hit, ↓ldelK_skipI, ↓ldelK_skipA, ↓ldelK_skipL, lget_hit, lget_skip, ldel_nil, ldel_hit, ldel_skipI, ldel_skipA, ldel_skipL, ldel2_nil, ldel2_hit, ldel2_hit2, ldel2_skipI, ldel2_skipA, ldel2_skipL, vc_0, mCall_P0, mCat_nil, mCat_I, mCat_L, mCat_A, mRcv_A, mArg_nil, mArg_I, mArg_L, mArg_A, tsg, swt_nil, swt_cons, lkw_nil, lkw_cons, ↓reduceIte, Nat.reduceAdd, Nat.reduceEqDiff, Nat.reduceLeDiff, Nat.reduceMul, true_and, and_true, and_self, List.mem_cons, List.not_mem_nil, or_false, or_self, false_or, true_implies, false_implies, not_true_eq_false, not_false_eq_true, nI00, nI10, nI01, nI11, forall_const, implies_true]
        simp (disch := omega) only [ixq, ixz, sb_in, sb_in0, upI_sb, upI_sb0, sb_out, nI_add, nI_mul, nI_subq, Nat.zero_add, forall_eq, u2_at, u2_row, upd_at, upd_ne, nI0b, nI1b, nI00, nI10, nI01, nI11, true_implies, false_implies, not_true_eq_false, not_false_eq_true, and_true, true_and, implies_true]
        exact vc_back P0_ok ok_X8_madeAlone [20,99] 8 t_X8_madeAlone_20 (ih (d + 1) S' (by omega)) (by simp) (rfl)
  have k0 := key (n / 12) 0 S0 (by omega)
  rw [Nat.mul_zero, runC_z] at k0
  exact k0
end MAl
