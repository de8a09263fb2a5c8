/-- as a row that is no rfl: the kernel would reckon with -1 -/
theorem n_isub {X : mC} {P : mP} {M h q len a b c : Nat} {K : MV → Mem → Prop} {J : Nat → List (Nat × MV) → List MV → Mem → Prop} {v : MV} {ts : List Nat} {cs : List mE} {ls : List (Nat × MV)} {st : List MV} {μ : Mem} {x y : Int32} : bb X P M h K J ((q, .isub, len, a, b, c, v, ts) :: cs) ls (.inl y :: .inl x :: st) μ = bb X P M h K J cs ls (.inl (x - y) :: st) μ := by
  rw [b_isub]
def frN (Q Q' : Bk) : Prop := (∀ k, k ≠ 0 → k ≠ 3 → Q' k = Q k) ∧ (∀ j, j = 1 ∨ 13 < j → Q' 0 j = Q 0 j) ∧ Q' 0 2 = nI 0
theorem frN_L {Q Q1 Q2 : Bk} (h : frN Q Q1) (h2 : frL Q1 Q2) : frN Q Q2 := ⟨fun k a b => (h2.1 k a b).trans (h.1 k a b), fun j hj => (h2.2 j (by omega)).trans (h.2.1 j hj), (h2.2 2 (by omega)).trans h.2.2⟩
theorem frN_M {Q Q1 Q2 : Bk} (h : frN Q Q1) (h2 : frM Q1 Q2) : frN Q Q2 := ⟨fun k a b => (h2.1 k a b).trans (h.1 k a b), fun j hj => (h2.2 j (by omega)).trans (h.2.1 j hj), (h2.2 2 (by omega)).trans h.2.2⟩
theorem TK_row {Q T : Bk} {w : Int64} {F : Nat → Int32} (h : TK Q w T) : TK (va_up Q 3 F) w T := by
  refine ⟨?_, h.2.1, h.2.2.1, by rw [up_row (by decide)]; exact h.2.2.2⟩
  obtain ⟨L, N, h1, h2, h3, h4, h5, h6, h7, h8⟩ := h.1
  refine ⟨L, N, h1, h2, h3, h4, ?_, ?_, ?_, fun i hi => ?_⟩
  · rw [up_row (by decide)]; exact h5
  · rw [up_row (by decide)]; exact h6
  · rw [up_row (by decide)]; exact h7
  · rw [up_row (by decide)]; exact h8 i hi
section MBu
variable {X : mC} {h m : Nat} {K : MV → Mem → Prop} {μ : Mem} {Q T B : Bk} {w : Int64} {N : Nat → Int64}
theorem c_brookR {L : Nat} (hL : L ≤ 940) (hT : T 0 2 = nI L) (hQ : Q 0 2 = nI L) (hj : ∀ j, j < L → Q 1 j = T 1 j) (hk : kwT T)
    (h1 : (rFromF T B).1 = nI 1 → ∀ G W l Q' w' N', frN Q Q' → Q' 0 10 = nI 0 → RBB G W (Q' 3) N' (rFromF T B).2.2 → (rFromF T B).2.2 0 2 = nI l → K (.inl (nI l)) (sb (upL (rL (rL μ (m + 7) N') (m + 6) (cpL 14 N' (μ.2 (m + 6)))) m 12 w') m 21 (nowB Q')))
    (h0 : (rFromF T B).1 = nI 0 → ∀ Q' w' N', frN Q Q' → Q' 0 10 = (rFromF T B).2.1 0 10 → K (.inl (-1 - (rFromF T B).2.1 0 11)) (sb (upL (rL μ (m + 7) N') m 12 w') m 21 Q')) : mMet X (h + 8) m_X9_brook [.inr (.inr (8, 0, m))] (sb (upL (rL μ (m + 7) N) m 12 w) m 21 Q) K := by
  obtain ⟨F, hF⟩ : ∃ F, F = rFromF T B := ⟨_, rfl⟩
  rw [← hF] at h1 h0
  unfold rFromF at hF
  (refine vc_met2 P0_ok ok_X9_brook cm_X9_brook [9,29,31,58,60,85,89,109,111] 6 t_X9_brook_0 (Nat.le_of_ble_eq_true rfl) ?_; simp only [mArg_nil, mArg_I, mArg_L, mArg_A, Nat.reduceAdd])
  have main : ∀ n l G W T B Q' w' N', RBB G W (Q' 3) N' B → TK Q' w' T → frN Q Q' → Q' 0 10 = nI 0 → B 0 2 = nI l → l + n = 900 → 2 * l ≤ cl (T 0 4) + 2 → (¬ T 0 5 = nI 0 → ¬ T 0 5 = nI 1 → 2 * l ≤ cl (T 0 4)) → rLoopF n T B = F → bb X P0 m_X9_brook (h + 7) K (vc X P0 m_X9_brook (h + 7) K k_X9_brook [9,29,31,58,60,85,89,109,111] 6) s_X9_brook_31 [(1, .inl (nI l)), (0, .inr (.inr (8, 0, m)))] [] (sb (upL (rL μ (m + 7) N') m 12 w') m 21 Q') := by
    intro n
    induction n with
    | zero =>
      intro l G W T B Q' w' N' hR ht hf h10 hl hn hx hy he
      exfalso
      obtain ⟨L, M, a1, a2, a3, a4, _⟩ := ht.1
      rw [a4, cl_nI (by omega)] at hx
      omega
    | succ n ih =>
      intro l G W T B Q' w' N' hR ht hf h10 hl hn hx hy he
      have ek : (Q' 0 7 = 0) = (T 0 5 = 0) := TK_k ht (k := 0) (by decide) (by decide)
      by_cases h5 : T 0 5 = 0
      · have e2 : (nI 1, T, B) = F := by
          rw [← he, rLoopF, if_pos h5]
        subst e2
        dsimp only at h1
        (try simp only [↓w_X9_brook_0, ↓w_X9_brook_9, ↓w_X9_brook_29, ↓w_X9_brook_31, ↓w_X9_brook_52, ↓w_X9_brook_58, ↓w_X9_brook_60, ↓w_X9_brook_85, ↓w_X9_brook_89, ↓w_X9_brook_109, ↓w_X9_brook_111, ↓w_X9_brook_135, ↓v_X9_brook_9, ↓v_X9_brook_29, ↓v_X9_brook_31, ↓v_X9_brook_52, ↓v_X9_brook_58, ↓v_X9_brook_60, ↓v_X9_brook_85, ↓v_X9_brook_89, ↓v_X9_brook_109, ↓v_X9_brook_111, ↓v_X9_brook_135, ↓b_aload_n, ↓b_bipush, ↓b_callV1_1, ↓b_callV2_0, ↓b_getA, ↓b_getI, ↓b_goto, ↓b_iaload, ↓n_iastore, ↓b_ic_ge, ↓b_iconst, ↓b_if_eq, ↓b_if_ne, ↓n_iinc, ↓b_iload_n, ↓b_iret, ↓n_istore_n, ↓n_isub, ↓b_laload, ↓n_lastore, ↓b_sipush, ↓ldI_hit, ↓ldI_skip, ↓ldL_hit, ↓ldL_skip, ↓ldA_hit, ↓ldA_skip, ↓ldelK_nil, ↓ldelK_hit, ↓ldelK_skipI, ↓ldelK_skipA, ↓ldelK_skipL, lget_hit, lget_skip, ldel_nil, ldel_hit, ldel_skipI, ldel_skipA, ldel_skipL, ldel2_nil, ldel2_hit, ldel2_hit2, ldel2_skipI, ldel2_skipA, ldel2_skipL, vc_0, mCall_P0, mCat_nil, mCat_I, mCat_L, mCat_A, mRcv_A, mArg_nil, mArg_I, mArg_L, mArg_A, tsg, swt_nil, swt_cons, lkw_nil, lkw_cons, ↓reduceIte, Nat.reduceAdd, Nat.reduceEqDiff, Nat.reduceLeDiff, Nat.reduceMul, true_and, and_true, and_self, List.mem_cons, List.not_mem_nil, or_false, or_self, false_or, true_implies, false_implies, not_true_eq_false, not_false_eq_true, nI00, nI10, nI01, nI11, forall_const, implies_true]); (try simp (disch := omega) only [ixq, ixz, sb_in, sb_in0, upI_sb, upI_sb0, sb_out, nI_add, nI_mul, nI_subq, Nat.zero_add, forall_eq, u2_at, u2_row, upd_at, upd_ne, nI0b, nI1b, nI00, nI10, nI01, nI11, true_implies, false_implies, not_true_eq_false, not_false_eq_true, and_true, true_and, implies_true, ek, h5])
        exact brook_tail (h1 rfl G W l Q' w' N' hf h10 hR hl)
      · rw [loop_lnE h5, hR.b0, hR.b1, cl_nI (by have := hR.g6; omega), cl_nI (by have := hR.w8; omega)] at he
        (try simp only [↓w_X9_brook_0, ↓w_X9_brook_9, ↓w_X9_brook_29, ↓w_X9_brook_31, ↓w_X9_brook_52, ↓w_X9_brook_58, ↓w_X9_brook_60, ↓w_X9_brook_85, ↓w_X9_brook_89, ↓w_X9_brook_109, ↓w_X9_brook_111, ↓w_X9_brook_135, ↓v_X9_brook_9, ↓v_X9_brook_29, ↓v_X9_brook_31, ↓v_X9_brook_52, ↓v_X9_brook_58, ↓v_X9_brook_60, ↓v_X9_brook_85, ↓v_X9_brook_89, ↓v_X9_brook_109, ↓v_X9_brook_111, ↓v_X9_brook_135, ↓b_aload_n, ↓b_bipush, ↓b_callV1_1, ↓b_callV2_0, ↓b_getA, ↓b_getI, ↓b_goto, ↓b_iaload, ↓n_iastore, ↓b_ic_ge, ↓b_iconst, ↓b_if_eq, ↓b_if_ne, ↓n_iinc, ↓b_iload_n, ↓b_iret, ↓n_istore_n, ↓n_isub, ↓b_laload, ↓n_lastore, ↓b_sipush, ↓ldI_hit, ↓ldI_skip, ↓ldL_hit, ↓ldL_skip, ↓ldA_hit, ↓ldA_skip, ↓ldelK_nil, ↓ldelK_hit, ↓ldelK_skipI, ↓ldelK_skipA, ↓ldelK_skipL, lget_hit, lget_skip, ldel_nil, ldel_hit, ldel_skipI, ldel_skipA, ldel_skipL, ldel2_nil, ldel2_hit, ldel2_hit2, ldel2_skipI, ldel2_skipA, ldel2_skipL, vc_0, mCall_P0, mCat_nil, mCat_I, mCat_L, mCat_A, mRcv_A, mArg_nil, mArg_I, mArg_L, mArg_A, tsg, swt_nil, swt_cons, lkw_nil, lkw_cons, ↓reduceIte, Nat.reduceAdd, Nat.reduceEqDiff, Nat.reduceLeDiff, Nat.reduceMul, true_and, and_true, and_self, List.mem_cons, List.not_mem_nil, or_false, or_self, false_or, true_implies, false_implies, not_true_eq_false, not_false_eq_true, nI00, nI10, nI01, nI11, forall_const, implies_true]); (try simp (disch := omega) only [ixq, ixz, sb_in, sb_in0, upI_sb, upI_sb0, sb_out, nI_add, nI_mul, nI_subq, Nat.zero_add, forall_eq, u2_at, u2_row, upd_at, upd_ne, nI0b, nI1b, nI00, nI10, nI01, nI11, true_implies, false_implies, not_true_eq_false, not_false_eq_true, and_true, true_and, implies_true, ek])
        refine ⟨fun z => absurd z h5, fun _ => ?_⟩
        have tp := TKb_ok ht.1
        have bk : bkOk B := ⟨G, W, hR.g6, hR.w8, hR.b0, hR.b1, hR.bj⟩
        have q0 := rLineF_ok (T := T) hR.b0 hR.g6 hR.w8 tp bk
        have gr := line_nx (B := B) hR.g6 hR.w8 tp
        have hb : T 0 5 = nI 1 → (rLineF G W T B).1 = 0 := by
          intro hh
          have k8 := ht.2.2.1.1 (by rw [hh]; decide)
          unfold rLineF
          rw [k8, if_neg (by decide), if_neg (by decide), if_neg (by decide), if_neg (by decide), if_neg (by decide), if_neg (by decide), if_neg (by decide)]
          rfl
        refine c_readLineR hR ht ?_
        generalize rLineF G W T B = p at he q0 gr hb ⊢
        refine ⟨fun z G' W' Q2 w2 N2 f2 r2 t2 => ?_, fun z Q2 w2 N2 f2 e10 e11 => ?_⟩
        · obtain ⟨z1, z2, z3⟩ := lnE_inv z
          rw [z3] at he r2 t2
          dsimp only at he r2 t2
          rw [if_neg (show ¬ nI 1 = 0 by decide), hl, nI_add] at he
          have p1 : p.1 = nI 1 := q0.2.2.2.elim (fun y => absurd y z1) id
          have g1 := gr p1 z2
          have g2 := adv_nx q0.1
          have hyl := hy h5 (fun hh => absurd (hb hh) z1)
          have x1 : 2 * (l + 1) ≤ cl (advF p.2.1 0 4) + 2 := by omega
          have x2 : ¬ advF p.2.1 0 5 = nI 0 → ¬ advF p.2.1 0 5 = nI 1 → 2 * (l + 1) ≤ cl (advF p.2.1 0 4) := by
            intro y0 y1
            have y2 := g2.2 y0 y1
            omega
          have b2 : (u2 p.2.2 0 2 (nI (l + 1))) 0 2 = nI (l + 1) := by rw [u2_at, upd_at]
          have i2 := ih (l + 1) G' W' (advF p.2.1) (u2 p.2.2 0 2 (nI (l + 1))) Q2 w2 N2 (RBB_line r2) t2 (frN_L hf f2) ((f2.2 10 (by omega)).trans h10) b2 (by omega) x1 x2 he
          clear x1 x2 hx hy hyl gr g1 g2 ih
          (try simp only [↓w_X9_brook_0, ↓w_X9_brook_9, ↓w_X9_brook_29, ↓w_X9_brook_31, ↓w_X9_brook_52, ↓w_X9_brook_58, ↓w_X9_brook_60, ↓w_X9_brook_85, ↓w_X9_brook_89, ↓w_X9_brook_109, ↓w_X9_brook_111, ↓w_X9_brook_135, ↓v_X9_brook_9, ↓v_X9_brook_29, ↓v_X9_brook_31, ↓v_X9_brook_52, ↓v_X9_brook_58, ↓v_X9_brook_60, ↓v_X9_brook_85, ↓v_X9_brook_89, ↓v_X9_brook_109, ↓v_X9_brook_111, ↓v_X9_brook_135, ↓b_aload_n, ↓b_bipush, ↓b_callV1_1, ↓b_callV2_0, ↓b_getA, ↓b_getI, ↓b_goto, ↓b_iaload, ↓n_iastore, ↓b_ic_ge, ↓b_iconst, ↓b_if_eq, ↓b_if_ne, ↓n_iinc, ↓b_iload_n, ↓b_iret, ↓n_istore_n, ↓n_isub, ↓b_laload, ↓n_lastore, ↓b_sipush, ↓ldI_hit, ↓ldI_skip, ↓ldL_hit, ↓ldL_skip, ↓ldA_hit, ↓ldA_skip, ↓ldelK_nil, ↓ldelK_hit, ↓ldelK_skipI, ↓ldelK_skipA, ↓ldelK_skipL, lget_hit, lget_skip, ldel_nil, ldel_hit, ldel_skipI, ldel_skipA, ldel_skipL, ldel2_nil, ldel2_hit, ldel2_hit2, ldel2_skipI, ldel2_skipA, ldel2_skipL, vc_0, mCall_P0, mCat_nil, mCat_I, mCat_L, mCat_A, mRcv_A, mArg_nil, mArg_I, mArg_L, mArg_A, tsg, swt_nil, swt_cons, lkw_nil, lkw_cons, ↓reduceIte, Nat.reduceAdd, Nat.reduceEqDiff, Nat.reduceLeDiff, Nat.reduceMul, true_and, and_true, and_self, List.mem_cons, List.not_mem_nil, or_false, or_self, false_or, true_implies, false_implies, not_true_eq_false, not_false_eq_true, nI00, nI10, nI01, nI11, forall_const, implies_true]); (try simp (disch := omega) only [ixq, ixz, sb_in, sb_in0, upI_sb, upI_sb0, sb_out, nI_add, nI_mul, nI_subq, Nat.zero_add, forall_eq, u2_at, u2_row, upd_at, upd_ne, nI0b, nI1b, nI00, nI10, nI01, nI11, true_implies, false_implies, not_true_eq_false, not_false_eq_true, and_true, true_and, implies_true])
          exact vc_back P0_ok ok_X9_brook [9,29,31,58,60,85,89,109,111] 6 t_X9_brook_31 (i2) (by simp) (rfl)
        · rw [z] at he
          rw [if_pos (show nI 0 = 0 from rfl)] at he
          subst he
          dsimp only at h0
          clear hx hy gr ih
          (try simp only [↓w_X9_brook_0, ↓w_X9_brook_9, ↓w_X9_brook_29, ↓w_X9_brook_31, ↓w_X9_brook_52, ↓w_X9_brook_58, ↓w_X9_brook_60, ↓w_X9_brook_85, ↓w_X9_brook_89, ↓w_X9_brook_109, ↓w_X9_brook_111, ↓w_X9_brook_135, ↓v_X9_brook_9, ↓v_X9_brook_29, ↓v_X9_brook_31, ↓v_X9_brook_52, ↓v_X9_brook_58, ↓v_X9_brook_60, ↓v_X9_brook_85, ↓v_X9_brook_89, ↓v_X9_brook_109, ↓v_X9_brook_111, ↓v_X9_brook_135, ↓b_aload_n, ↓b_bipush, ↓b_callV1_1, ↓b_callV2_0, ↓b_getA, ↓b_getI, ↓b_goto, ↓b_iaload, ↓n_iastore, ↓b_ic_ge, ↓b_iconst, ↓b_if_eq, ↓b_if_ne, ↓n_iinc, ↓b_iload_n, ↓b_iret, ↓n_istore_n, ↓n_isub, ↓b_laload, ↓n_lastore, ↓b_sipush, ↓ldI_hit, ↓ldI_skip, ↓ldL_hit, ↓ldL_skip, ↓ldA_hit, ↓ldA_skip, ↓ldelK_nil, ↓ldelK_hit, ↓ldelK_skipI, ↓ldelK_skipA, ↓ldelK_skipL, lget_hit, lget_skip, ldel_nil, ldel_hit, ldel_skipI, ldel_skipA, ldel_skipL, ldel2_nil, ldel2_hit, ldel2_hit2, ldel2_skipI, ldel2_skipA, ldel2_skipL, vc_0, mCall_P0, mCat_nil, mCat_I, mCat_L, mCat_A, mRcv_A, mArg_nil, mArg_I, mArg_L, mArg_A, tsg, swt_nil, swt_cons, lkw_nil, lkw_cons, ↓reduceIte, Nat.reduceAdd, Nat.reduceEqDiff, Nat.reduceLeDiff, Nat.reduceMul, true_and, and_true, and_self, List.mem_cons, List.not_mem_nil, or_false, or_self, false_or, true_implies, false_implies, not_true_eq_false, not_false_eq_true, nI00, nI10, nI01, nI11, forall_const, implies_true]); (try simp (disch := omega) only [ixq, ixz, sb_in, sb_in0, upI_sb, upI_sb0, sb_out, nI_add, nI_mul, nI_subq, Nat.zero_add, forall_eq, u2_at, u2_row, upd_at, upd_ne, nI0b, nI1b, nI00, nI10, nI01, nI11, true_implies, false_implies, not_true_eq_false, not_false_eq_true, and_true, true_and, implies_true, e11])
          exact h0 rfl Q2 w2 N2 (frN_M hf f2) e10
  simp only [↓w_X9_brook_0, ↓w_X9_brook_29, ↓w_X9_brook_31, ↓w_X9_brook_52, ↓w_X9_brook_58, ↓w_X9_brook_60, ↓w_X9_brook_85, ↓w_X9_brook_89, ↓w_X9_brook_109, ↓w_X9_brook_111, ↓w_X9_brook_135, ↓v_X9_brook_9, ↓v_X9_brook_29, ↓v_X9_brook_31, ↓v_X9_brook_52, ↓v_X9_brook_58, ↓v_X9_brook_60, ↓v_X9_brook_85, ↓v_X9_brook_89, ↓v_X9_brook_109, ↓v_X9_brook_111, ↓v_X9_brook_135, ↓b_aload_n, ↓b_bipush, ↓b_callV1_1, ↓b_callV2_0, ↓b_getA, ↓b_getI, ↓b_goto, ↓b_iaload, ↓n_iastore, ↓b_ic_ge, ↓b_iconst, ↓b_if_eq, ↓b_if_ne, ↓n_iinc, ↓b_iload_n, ↓b_iret, ↓n_istore_n, ↓n_isub, ↓b_laload, ↓n_lastore, ↓b_sipush, ↓ldI_hit, ↓ldI_skip, ↓ldL_hit, ↓ldL_skip, ↓ldA_hit, ↓ldA_skip, ↓ldelK_nil, ↓ldelK_hit, ↓ldelK_skipI, ↓ldelK_skipA, ↓ldelK_skipL, lget_hit, lget_skip, ldel_nil, ldel_hit, ldel_skipI, ldel_skipA, ldel_skipL, ldel2_nil, ldel2_hit, ldel2_hit2, ldel2_skipI, ldel2_skipA, ldel2_skipL, vc_0, mCall_P0, mCat_nil, mCat_I, mCat_L, mCat_A, mRcv_A, mArg_nil, mArg_I, mArg_L, mArg_A, tsg, swt_nil, swt_cons, lkw_nil, lkw_cons, ↓reduceIte, Nat.reduceAdd, Nat.reduceEqDiff, Nat.reduceLeDiff, Nat.reduceMul, true_and, and_true, and_self, List.mem_cons, List.not_mem_nil, or_false, or_self, false_or, true_implies, false_implies, not_true_eq_false, not_false_eq_true, nI00, nI10, nI01, nI11, forall_const, implies_true]
  refine c_beginR hL hT hQ hj hk (fun Q1 w1 t1 f1 => ?_)
  rintro _ rfl
  have key := loop_up (fun k => bb X P0 m_X9_brook (h + 7) K (vc X P0 m_X9_brook (h + 7) K k_X9_brook [9,29,31,58,60,85,89,109,111] 6) s_X9_brook_9 [(1, .inl (nI k)), (0, .inr (.inr (8, 0, m)))] [] (sb (upL (rL μ (m + 7) N) m 12 w1) m 21 (va_up Q1 3 (zR 0 k (Q1 3))))) 278 ?_ ?_
  · rw [zR_0, vup_id] at key
    exact key
  · have fr : frN Q (va_up Q1 3 (zR 0 278 (Q1 3))) := ⟨fun k k0 k3 => by rw [up_row k3]; exact f1.1 k k0, fun j hj => by rw [up_row (by decide)]; exact f1.2.1 j hj, by rw [up_row (by decide)]; exact f1.2.2.1⟩
    have hz : ∀ j, j < 278 → (va_up Q1 3 (zR 0 278 (Q1 3))) 3 j = nI 0 := fun j hj => by rw [up_at]; exact if_pos ⟨Nat.zero_le j, hj⟩
    have h10 : (va_up Q1 3 (zR 0 278 (Q1 3))) 0 10 = nI 0 := by rw [up_row (by decide)]; exact f1.2.2.2
    have b2 : clearBF B 0 2 = nI 0 := by
      unfold clearBF
      simp (disch := omega) only [up_row, u2_at, upd_at, upd_ne]
    have i2 := main 900 0 0 0 (openF (nI 900) T) (clearBF B) _ w1 N (RBB_clear hz) (TK_row t1) fr h10 b2 (by omega) (by omega) (fun _ _ => by omega) hF.symm
    clear main
    simp only [↓w_X9_brook_0, ↓w_X9_brook_9, ↓w_X9_brook_29, ↓w_X9_brook_52, ↓w_X9_brook_58, ↓w_X9_brook_60, ↓w_X9_brook_85, ↓w_X9_brook_89, ↓w_X9_brook_109, ↓w_X9_brook_111, ↓w_X9_brook_135, ↓v_X9_brook_9, ↓v_X9_brook_29, ↓v_X9_brook_31, ↓v_X9_brook_52, ↓v_X9_brook_58, ↓v_X9_brook_60, ↓v_X9_brook_85, ↓v_X9_brook_89, ↓v_X9_brook_109, ↓v_X9_brook_111, ↓v_X9_brook_135, ↓b_aload_n, ↓b_bipush, ↓b_callV1_1, ↓b_callV2_0, ↓b_getA, ↓b_getI, ↓b_goto, ↓b_iaload, ↓n_iastore, ↓b_ic_ge, ↓b_iconst, ↓b_if_eq, ↓b_if_ne, ↓n_iinc, ↓b_iload_n, ↓b_iret, ↓n_istore_n, ↓n_isub, ↓b_laload, ↓n_lastore, ↓b_sipush, ↓ldI_hit, ↓ldI_skip, ↓ldL_hit, ↓ldL_skip, ↓ldA_hit, ↓ldA_skip, ↓ldelK_nil, ↓ldelK_hit, ↓ldelK_skipI, ↓ldelK_skipA, ↓ldelK_skipL, lget_hit, lget_skip, ldel_nil, ldel_hit, ldel_skipI, ldel_skipA, ldel_skipL, ldel2_nil, ldel2_hit, ldel2_hit2, ldel2_skipI, ldel2_skipA, ldel2_skipL, vc_0, mCall_P0, mCat_nil, mCat_I, mCat_L, mCat_A, mRcv_A, mArg_nil, mArg_I, mArg_L, mArg_A, tsg, swt_nil, swt_cons, lkw_nil, lkw_cons, ↓reduceIte, Nat.reduceAdd, Nat.reduceEqDiff, Nat.reduceLeDiff, Nat.reduceMul, true_and, and_true, and_self, List.mem_cons, List.not_mem_nil, or_false, or_self, false_or, true_implies, false_implies, not_true_eq_false, not_false_eq_true, nI00, nI10, nI01, nI11, forall_const, implies_true]
    simp (disch := omega) only [ixq, ixz, sb_in, sb_in0, upI_sb, upI_sb0, sb_out, nI_add, nI_mul, nI_subq, Nat.zero_add, forall_eq, u2_at, u2_row, upd_at, upd_ne, nI0b, nI1b, nI00, nI10, nI01, nI11, true_implies, false_implies, not_true_eq_false, not_false_eq_true, and_true, true_and, implies_true, nI_lq]
    refine ⟨fun _ => ?_, fun hc => absurd (Nat.le_refl 278) hc⟩
    (refine vc_from P0_ok ok_X9_brook [9,29,31,58,60,85,89,109,111] 6 ?_; rw [t_X9_brook_29])
    simp only [↓w_X9_brook_0, ↓w_X9_brook_9, ↓w_X9_brook_29, ↓w_X9_brook_52, ↓w_X9_brook_58, ↓w_X9_brook_60, ↓w_X9_brook_85, ↓w_X9_brook_89, ↓w_X9_brook_109, ↓w_X9_brook_111, ↓w_X9_brook_135, ↓v_X9_brook_9, ↓v_X9_brook_29, ↓v_X9_brook_31, ↓v_X9_brook_52, ↓v_X9_brook_58, ↓v_X9_brook_60, ↓v_X9_brook_85, ↓v_X9_brook_89, ↓v_X9_brook_109, ↓v_X9_brook_111, ↓v_X9_brook_135, ↓b_aload_n, ↓b_bipush, ↓b_callV1_1, ↓b_callV2_0, ↓b_getA, ↓b_getI, ↓b_goto, ↓b_iaload, ↓n_iastore, ↓b_ic_ge, ↓b_iconst, ↓b_if_eq, ↓b_if_ne, ↓n_iinc, ↓b_iload_n, ↓b_iret, ↓n_istore_n, ↓n_isub, ↓b_laload, ↓n_lastore, ↓b_sipush, ↓ldI_hit, ↓ldI_skip, ↓ldL_hit, ↓ldL_skip, ↓ldA_hit, ↓ldA_skip, ↓ldelK_nil, ↓ldelK_hit, ↓ldelK_skipI, ↓ldelK_skipA, ↓ldelK_skipL, lget_hit, lget_skip, ldel_nil, ldel_hit, ldel_skipI, ldel_skipA, ldel_skipL, ldel2_nil, ldel2_hit, ldel2_hit2, ldel2_skipI, ldel2_skipA, ldel2_skipL, vc_0, mCall_P0, mCat_nil, mCat_I, mCat_L, mCat_A, mRcv_A, mArg_nil, mArg_I, mArg_L, mArg_A, tsg, swt_nil, swt_cons, lkw_nil, lkw_cons, ↓reduceIte, Nat.reduceAdd, Nat.reduceEqDiff, Nat.reduceLeDiff, Nat.reduceMul, true_and, and_true, and_self, List.mem_cons, List.not_mem_nil, or_false, or_self, false_or, true_implies, false_implies, not_true_eq_false, not_false_eq_true, nI00, nI10, nI01, nI11, forall_const, implies_true]
    rintro _ rfl
    exact i2
  · intro k hk ih
    rw [← zR_s (Nat.zero_le k)] at ih
    simp only [↓w_X9_brook_0, ↓w_X9_brook_9, ↓w_X9_brook_29, ↓w_X9_brook_31, ↓w_X9_brook_52, ↓w_X9_brook_58, ↓w_X9_brook_60, ↓w_X9_brook_85, ↓w_X9_brook_89, ↓w_X9_brook_109, ↓w_X9_brook_111, ↓w_X9_brook_135, ↓v_X9_brook_9, ↓v_X9_brook_29, ↓v_X9_brook_31, ↓v_X9_brook_52, ↓v_X9_brook_58, ↓v_X9_brook_60, ↓v_X9_brook_85, ↓v_X9_brook_89, ↓v_X9_brook_109, ↓v_X9_brook_111, ↓v_X9_brook_135, ↓b_aload_n, ↓b_bipush, ↓b_callV1_1, ↓b_callV2_0, ↓b_getA, ↓b_getI, ↓b_goto, ↓b_iaload, ↓n_iastore, ↓b_ic_ge, ↓b_iconst, ↓b_if_eq, ↓b_if_ne, ↓n_iinc, ↓b_iload_n, ↓b_iret, ↓n_istore_n, ↓n_isub, ↓b_laload, ↓n_lastore, ↓b_sipush, ↓ldI_hit, ↓ldI_skip, ↓ldL_hit, ↓ldL_skip, ↓ldA_hit, ↓ldA_skip, ↓ldelK_nil, ↓ldelK_hit, ↓ldelK_skipI, ↓ldelK_skipA, ↓ldelK_skipL, lget_hit, lget_skip, ldel_nil, ldel_hit, ldel_skipI, ldel_skipA, ldel_skipL, ldel2_nil, ldel2_hit, ldel2_hit2, ldel2_skipI, ldel2_skipA, ldel2_skipL, vc_0, mCall_P0, mCat_nil, mCat_I, mCat_L, mCat_A, mRcv_A, mArg_nil, mArg_I, mArg_L, mArg_A, tsg, swt_nil, swt_cons, lkw_nil, lkw_cons, ↓reduceIte, Nat.reduceAdd, Nat.reduceEqDiff, Nat.reduceLeDiff, Nat.reduceMul, true_and, and_true, and_self, List.mem_cons, List.not_mem_nil, or_false, or_self, false_or, true_implies, false_implies, not_true_eq_false, not_false_eq_true, nI00, nI10, nI01, nI11, forall_const, implies_true]
    simp (disch := omega) only [ixq, ixz, sb_in, sb_in0, upI_sb, upI_sb0, sb_out, nI_add, nI_mul, nI_subq, Nat.zero_add, forall_eq, u2_at, u2_row, upd_at, upd_ne, nI0b, nI1b, nI00, nI10, nI01, nI11, true_implies, false_implies, not_true_eq_false, not_false_eq_true, and_true, true_and, implies_true, nI_lq, u2_vup, up_at]
    refine ⟨fun hc => absurd hc (by omega), fun _ => ?_⟩
    exact vc_back P0_ok ok_X9_brook [9,29,31,58,60,85,89,109,111] 6 t_X9_brook_9 (ih) (by simp) (rfl)
end MBu
