def frL (Q Q' : Bk) : Prop := (∀ k, k ≠ 0 → k ≠ 3 → Q' k = Q k) ∧ ∀ j, j < 5 ∨ j = 10 ∨ 13 < j → Q' 0 j = Q 0 j
def frM (Q Q' : Bk) : Prop := (∀ k, k ≠ 0 → k ≠ 3 → Q' k = Q k) ∧ ∀ j, j < 5 ∨ 13 < j → Q' 0 j = Q 0 j
theorem frL_S {Q Q' : Bk} {q : Nat → Int32} (h : frS Q Q' q) : frL Q Q' := h.2
theorem frL_G {Q Q' : Bk} (h : frG Q Q') : frL Q Q' := ⟨fun k a _ => h.1 k a, h.2⟩
theorem frM_P {Q Q' : Bk} (h : frP Q Q') : frM Q Q' := ⟨fun k a _ => h.1 k a, h.2⟩
theorem frM_t {Q Q1 Q2 : Bk} (h : frL Q Q1) (h2 : frM Q1 Q2) : frM Q Q2 := ⟨fun k a b => (h2.1 k a b).trans (h.1 k a b), fun j hj => (h2.2 j hj).trans (h.2 j (by omega))⟩
theorem frM_g {Q Q1 Q2 : Bk} (h : frL Q Q1) (h2 : frP Q1 Q2) : frM Q Q2 := frM_t h (frM_P h2)
theorem frL_t {Q Q1 Q2 : Bk} (h : frL Q Q1) (h2 : frL Q1 Q2) : frL Q Q2 := ⟨fun k a b => (h2.1 k a b).trans (h.1 k a b), fun j hj => (h2.2 j hj).trans (h.2 j hj)⟩
theorem frL_u {Q : Bk} {j : Nat} {x : Int32} : frL Q (u2 Q 3 j x) := frL_S frS_u
theorem failF_10 {T : Bk} {e : Int32} : failF e T 0 10 = e := by
  unfold failF
  rw [u2_at, upd_ne (by decide), u2_at, upd_at]
theorem failF_11 {T : Bk} {e : Int32} : failF e T 0 11 = T 0 6 := by
  unfold failF
  rw [u2_at, upd_at]
/-- what a LINE's reading comes to, on both sides -/
def OUTL (K : MV → Mem → Prop) (μ : Mem) (m : Nat) (Q : Bk) (p : PR) : Prop :=
  (p.1 = nI 1 → ∀ G W Q' w' N', frL Q Q' → RBB G W (Q' 3) N' p.2.2 → TK Q' w' p.2.1 → K (.inl (nI 1)) (sb (upL (rL μ (m + 7) N') m 12 w') m 21 Q')) ∧
  (p.1 = nI 0 → ∀ Q' w' N', frM Q Q' → Q' 0 10 = p.2.1 0 10 → Q' 0 11 = p.2.1 0 11 → K (.inl (nI 0)) (sb (upL (rL μ (m + 7) N') m 12 w') m 21 Q'))
section MTr
variable {X : mC} {h m : Nat} {K : MV → Mem → Prop} {μ : Mem} {Q T B : Bk} {w : Int64} {N : Nat → Int64} {G W : Nat}
theorem OUT_0 {p : PR} {e : Int32} {T' B' : Bk} (hO : OUTL K μ m Q p) (hp : p = (nI 0, failF e T', B')) {Q' : Bk} {w' : Int64} {N' : Nat → Int64} (hf : frM Q Q') (h10 : Q' 0 10 = e) (h11 : Q' 0 11 = T' 0 6) : K (.inl (nI 0)) (sb (upL (rL μ (m + 7) N') m 12 w') m 21 Q') := by
  subst hp
  exact hO.2 rfl Q' w' N' hf (h10.trans (failF_10 (T := T')).symm) (h11.trans (failF_11 (e := e)).symm)
theorem OUT_1 {p : PR} {T' B' : Bk} (hO : OUTL K μ m Q p) (hp : p = (nI 1, T', B')) {G' W' : Nat} {Q' : Bk} {w' : Int64} {N' : Nat → Int64} (hf : frL Q Q') (hR : RBB G' W' (Q' 3) N' B') (ht : TK Q' w' T') : K (.inl (nI 1)) (sb (upL (rL μ (m + 7) N') m 12 w') m 21 Q') := by
  subst hp
  exact hO.1 rfl G' W' Q' w' N' hf hR ht
theorem c_readTakesR (hR : RBB G W (Q 3) N B) (ht : TK Q w T) (hO : OUTL K μ m Q (rTakesF G W T B)) : mMet X (h + 6) m_X9_readTakes [.inr (.inr (8, 0, m))] (sb (upL (rL μ (m + 7) N) m 12 w) m 21 Q) K := by
  have g6 := hR.g6
  have w8 := hR.w8
  have ra : ∀ p q, cellF G W B T = p → rNewF 7 (cl p.1) p.2 B = q → rTakesF G W T B = (if p.1 = -1 then (nI 0, p.2, B) else
      if q.1 = 0 then (nI 0, q.2) else
      if numP (q.2.2 7 (cl p.1)) (nI 99) q.2.1 then
        (if numP (nI 0) ((u2 q.2.2 8 (cl p.1) (q.2.1 0 7)) 8 (cl p.1)) (numF q.2.1) then (nI 1, numF (numF q.2.1), u2 (u2 q.2.2 8 (cl p.1) (q.2.1 0 7)) 9 (cl p.1) (numF q.2.1 0 7)) else (nI 0, failF (numE (numF q.2.1)) (numF q.2.1), u2 q.2.2 8 (cl p.1) (q.2.1 0 7)))
      else (nI 0, failF (numE q.2.1) q.2.1, q.2.2)) := fun p q hp hq => by
    subst hq
    subst hp
    rfl
  (refine vc_met2 P0_ok ok_X9_readTakes cm_X9_readTakes [] 6 t_X9_readTakes_0 (Nat.le_of_ble_eq_true rfl) ?_; simp only [mArg_nil, mArg_I, mArg_L, mArg_A, Nat.reduceAdd])
  simp only [↓w_X9_readTakes_0, ↓w_X9_readTakes_22, ↓w_X9_readTakes_24, ↓w_X9_readTakes_52, ↓w_X9_readTakes_79, ↓v_X9_readTakes_22, ↓v_X9_readTakes_24, ↓v_X9_readTakes_52, ↓v_X9_readTakes_79, ↓b_aload_n, ↓b_bipush, ↓b_callV2_1, ↓b_callV3_1, ↓b_dup2, ↓b_getA, ↓b_getI, ↓b_iadd, ↓b_iaload, ↓n_iastore, ↓b_ic_eq, ↓b_iconst, ↓b_if_ne, ↓b_iload_n, ↓n_istore_n, ↓b_sipush, ↓b_zret, ↓ldI_hit, ↓ldI_skip, ↓ldL_hit, ↓ldL_skip, ↓ldA_hit, ↓ldA_skip, ↓ldelK_nil, ↓ldelK_hit, ↓ldelK_skipI, ↓ldelK_skipA, ↓ldelK_skipL, lget_hit, lget_skip, ldel_nil, ldel_hit, ldel_skipI, ldel_skipA, ldel_skipL, ldel2_nil, ldel2_hit, ldel2_hit2, ldel2_skipI, ldel2_skipA, ldel2_skipL, vc_0, mCall_P0, mCat_nil, mCat_I, mCat_L, mCat_A, mRcv_A, mArg_nil, mArg_I, mArg_L, mArg_A, tsg, swt_nil, swt_cons, lkw_nil, lkw_cons, ↓reduceIte, Nat.reduceAdd, Nat.reduceEqDiff, Nat.reduceLeDiff, Nat.reduceMul, true_and, and_true, and_self, List.mem_cons, List.not_mem_nil, or_false, or_self, false_or, true_implies, false_implies, not_true_eq_false, not_false_eq_true, nI00, nI10, nI01, nI11, forall_const, implies_true]
  refine c_readCellR (μ := rL μ (m + 7) N) (B := B) (k := 7) ht hR.q0 g6 hR.q1 w8 (by rw [rL_at]; exact hR.n1) (by rw [rL_at]; exact hR.n2) (by omega) (fun c hc => (hR.ce c hc).1) (fun i g hi hg cf hz Q1 w1 t1 f1 => ?_) (fun i g hi hg cf hz Q1 w1 f1 e10 e11 => ?_) (fun e T' cf Q1 w1 f1 e10 e11 => ?_)
  · obtain ⟨A, hA⟩ : ∃ A, A = advF (advF (advF T)) := ⟨_, rfl⟩
    have rn : rNewF 7 (i * 6 + g) (advF (advF T)) B = if numP (nI 1) (nI 9) A then (nI 1, numF A, u2 B 7 (i * 6 + g) (A 0 7)) else (nI 0, failF (numE A) A, B) := by
      rw [hA]
      exact if_neg hz
    rw [← hA] at t1
    have rf := fun q hq => ra _ q cf hq
    dsimp only at rf
    rw [cl_nI (by omega)] at rf
    simp only [if_neg (show ¬ nI (i * 6 + g) = -1 by rw [nI_m1 (by omega)]; exact id)] at rf
    simp only [↓w_X9_readTakes_0, ↓w_X9_readTakes_22, ↓w_X9_readTakes_24, ↓w_X9_readTakes_52, ↓w_X9_readTakes_79, ↓v_X9_readTakes_22, ↓v_X9_readTakes_24, ↓v_X9_readTakes_52, ↓v_X9_readTakes_79, ↓b_aload_n, ↓b_bipush, ↓b_callV2_1, ↓b_callV3_1, ↓b_dup2, ↓b_getA, ↓b_getI, ↓b_iadd, ↓b_iaload, ↓n_iastore, ↓b_ic_eq, ↓b_iconst, ↓b_if_ne, ↓b_iload_n, ↓n_istore_n, ↓b_sipush, ↓b_zret, ↓ldI_hit, ↓ldI_skip, ↓ldL_hit, ↓ldL_skip, ↓ldA_hit, ↓ldA_skip, ↓ldelK_nil, ↓ldelK_hit, ↓ldelK_skipI, ↓ldelK_skipA, ↓ldelK_skipL, lget_hit, lget_skip, ldel_nil, ldel_hit, ldel_skipI, ldel_skipA, ldel_skipL, ldel2_nil, ldel2_hit, ldel2_hit2, ldel2_skipI, ldel2_skipA, ldel2_skipL, vc_0, mCall_P0, mCat_nil, mCat_I, mCat_L, mCat_A, mRcv_A, mArg_nil, mArg_I, mArg_L, mArg_A, tsg, swt_nil, swt_cons, lkw_nil, lkw_cons, ↓reduceIte, Nat.reduceAdd, Nat.reduceEqDiff, Nat.reduceLeDiff, Nat.reduceMul, true_and, and_true, and_self, List.mem_cons, List.not_mem_nil, or_false, or_self, false_or, true_implies, false_implies, not_true_eq_false, not_false_eq_true, nI00, nI10, nI01, nI11, forall_const, implies_true]
    simp (disch := omega) only [ixq, ixz, sb_in, sb_in0, upI_sb, upI_sb0, sb_out, nI_add, nI_mul, nI_subq, Nat.zero_add, forall_eq, u2_at, u2_row, upd_at, upd_ne, nI0b, nI1b, nI00, nI10, nI01, nI11, true_implies, false_implies, not_true_eq_false, not_false_eq_true, and_true, true_and, implies_true, nI_m1]
    refine c_readNumR t1 (fun hnum Q2 w2 t2 f2 e13 => ?_) (fun hnum Q2 f2 e10 e11 => ?_)
    · rw [if_pos hnum] at rn
      have rf := rf _ rn
      dsimp only at rf
      rw [if_neg (by decide)] at rf
      simp only [u2_at, upd_at] at rf
      have q2 := frG_t f1 f2
      have hq : Q2 3 = Q 3 := q2.1 3 (by decide)
      (try simp only [↓w_X9_readTakes_0, ↓w_X9_readTakes_22, ↓w_X9_readTakes_24, ↓w_X9_readTakes_52, ↓w_X9_readTakes_79, ↓v_X9_readTakes_22, ↓v_X9_readTakes_24, ↓v_X9_readTakes_52, ↓v_X9_readTakes_79, ↓b_aload_n, ↓b_bipush, ↓b_callV2_1, ↓b_callV3_1, ↓b_dup2, ↓b_getA, ↓b_getI, ↓b_iadd, ↓b_iaload, ↓n_iastore, ↓b_ic_eq, ↓b_iconst, ↓b_if_ne, ↓b_iload_n, ↓n_istore_n, ↓b_sipush, ↓b_zret, ↓ldI_hit, ↓ldI_skip, ↓ldL_hit, ↓ldL_skip, ↓ldA_hit, ↓ldA_skip, ↓ldelK_nil, ↓ldelK_hit, ↓ldelK_skipI, ↓ldelK_skipA, ↓ldelK_skipL, lget_hit, lget_skip, ldel_nil, ldel_hit, ldel_skipI, ldel_skipA, ldel_skipL, ldel2_nil, ldel2_hit, ldel2_hit2, ldel2_skipI, ldel2_skipA, ldel2_skipL, vc_0, mCall_P0, mCat_nil, mCat_I, mCat_L, mCat_A, mRcv_A, mArg_nil, mArg_I, mArg_L, mArg_A, tsg, swt_nil, swt_cons, lkw_nil, lkw_cons, ↓reduceIte, Nat.reduceAdd, Nat.reduceEqDiff, Nat.reduceLeDiff, Nat.reduceMul, true_and, and_true, and_self, List.mem_cons, List.not_mem_nil, or_false, or_self, false_or, true_implies, false_implies, not_true_eq_false, not_false_eq_true, nI00, nI10, nI01, nI11, forall_const, implies_true]); (try simp (disch := omega) only [ixq, ixz, sb_in, sb_in0, upI_sb, upI_sb0, sb_out, nI_add, nI_mul, nI_subq, Nat.zero_add, forall_eq, u2_at, u2_row, upd_at, upd_ne, nI0b, nI1b, nI00, nI10, nI01, nI11, true_implies, false_implies, not_true_eq_false, not_false_eq_true, and_true, true_and, implies_true, e13, hq])
      refine c_readNumR (TK_3 t2) (fun hn2 Q3 w3 t3 f3 e3 => ?_) (fun hn2 Q3 f3 e10 e11 => ?_)
      · rw [if_pos hn2] at rf
        have hq3 : Q3 3 = upd (Q 3) (38 + (i * 6 + g)) (A 0 7) := by rw [f3.1 3 (by decide), u2_at, hq]
        (try simp only [↓w_X9_readTakes_0, ↓w_X9_readTakes_22, ↓w_X9_readTakes_24, ↓w_X9_readTakes_52, ↓w_X9_readTakes_79, ↓v_X9_readTakes_22, ↓v_X9_readTakes_24, ↓v_X9_readTakes_52, ↓v_X9_readTakes_79, ↓b_aload_n, ↓b_bipush, ↓b_callV2_1, ↓b_callV3_1, ↓b_dup2, ↓b_getA, ↓b_getI, ↓b_iadd, ↓b_iaload, ↓n_iastore, ↓b_ic_eq, ↓b_iconst, ↓b_if_ne, ↓b_iload_n, ↓n_istore_n, ↓b_sipush, ↓b_zret, ↓ldI_hit, ↓ldI_skip, ↓ldL_hit, ↓ldL_skip, ↓ldA_hit, ↓ldA_skip, ↓ldelK_nil, ↓ldelK_hit, ↓ldelK_skipI, ↓ldelK_skipA, ↓ldelK_skipL, lget_hit, lget_skip, ldel_nil, ldel_hit, ldel_skipI, ldel_skipA, ldel_skipL, ldel2_nil, ldel2_hit, ldel2_hit2, ldel2_skipI, ldel2_skipA, ldel2_skipL, vc_0, mCall_P0, mCat_nil, mCat_I, mCat_L, mCat_A, mRcv_A, mArg_nil, mArg_I, mArg_L, mArg_A, tsg, swt_nil, swt_cons, lkw_nil, lkw_cons, ↓reduceIte, Nat.reduceAdd, Nat.reduceEqDiff, Nat.reduceLeDiff, Nat.reduceMul, true_and, and_true, and_self, List.mem_cons, List.not_mem_nil, or_false, or_self, false_or, true_implies, false_implies, not_true_eq_false, not_false_eq_true, nI00, nI10, nI01, nI11, forall_const, implies_true]); (try simp (disch := omega) only [ixq, ixz, sb_in, sb_in0, upI_sb, upI_sb0, sb_out, nI_add, nI_mul, nI_subq, Nat.zero_add, forall_eq, u2_at, u2_row, upd_at, upd_ne, nI0b, nI1b, nI00, nI10, nI01, nI11, true_implies, false_implies, not_true_eq_false, not_false_eq_true, and_true, true_and, implies_true, e3, hq3])
        refine c_readNumR (TK_3 t3) (fun hn3 Q4 w4 t4 f4 e4 => ?_) (fun hn3 Q4 f4 e10 e11 => ?_)
        · rw [if_pos hn3] at rf
          have hq4 : Q4 3 = upd (upd (Q 3) (38 + (i * 6 + g)) (A 0 7)) (86 + (i * 6 + g)) (numF A 0 7) := by rw [f4.1 3 (by decide), u2_at, hq3]
          (try simp only [↓w_X9_readTakes_0, ↓w_X9_readTakes_22, ↓w_X9_readTakes_24, ↓w_X9_readTakes_52, ↓w_X9_readTakes_79, ↓v_X9_readTakes_22, ↓v_X9_readTakes_24, ↓v_X9_readTakes_52, ↓v_X9_readTakes_79, ↓b_aload_n, ↓b_bipush, ↓b_callV2_1, ↓b_callV3_1, ↓b_dup2, ↓b_getA, ↓b_getI, ↓b_iadd, ↓b_iaload, ↓n_iastore, ↓b_ic_eq, ↓b_iconst, ↓b_if_ne, ↓b_iload_n, ↓n_istore_n, ↓b_sipush, ↓b_zret, ↓ldI_hit, ↓ldI_skip, ↓ldL_hit, ↓ldL_skip, ↓ldA_hit, ↓ldA_skip, ↓ldelK_nil, ↓ldelK_hit, ↓ldelK_skipI, ↓ldelK_skipA, ↓ldelK_skipL, lget_hit, lget_skip, ldel_nil, ldel_hit, ldel_skipI, ldel_skipA, ldel_skipL, ldel2_nil, ldel2_hit, ldel2_hit2, ldel2_skipI, ldel2_skipA, ldel2_skipL, vc_0, mCall_P0, mCat_nil, mCat_I, mCat_L, mCat_A, mRcv_A, mArg_nil, mArg_I, mArg_L, mArg_A, tsg, swt_nil, swt_cons, lkw_nil, lkw_cons, ↓reduceIte, Nat.reduceAdd, Nat.reduceEqDiff, Nat.reduceLeDiff, Nat.reduceMul, true_and, and_true, and_self, List.mem_cons, List.not_mem_nil, or_false, or_self, false_or, true_implies, false_implies, not_true_eq_false, not_false_eq_true, nI00, nI10, nI01, nI11, forall_const, implies_true]); (try simp (disch := omega) only [ixq, ixz, sb_in, sb_in0, upI_sb, upI_sb0, sb_out, nI_add, nI_mul, nI_subq, Nat.zero_add, forall_eq, u2_at, u2_row, upd_at, upd_ne, nI0b, nI1b, nI00, nI10, nI01, nI11, true_implies, false_implies, not_true_eq_false, not_false_eq_true, and_true, true_and, implies_true, e4, hq4])
          obtain ⟨t, b1, b2, b3⟩ := numN (by decide) (by decide) hnum.2.1 hnum.2.2
          rw [b3] at hn2 hq4 rf
          obtain ⟨s, d1, d2, d3⟩ := numN (by omega) (by decide) hn2.2.1 hn2.2.2
          rw [d3] at hn3 hq4 rf
          obtain ⟨a, a1, a2, a3⟩ := numN (by omega) (by omega) hn3.2.1 hn3.2.2
          rw [a3] at rf ⊢
          refine OUT_1 (G' := G) (W' := W) hO rf ?_ ?_ (TK_3 (TK_3 t4))
          · exact frL_t (frL_t (frL_G q2) (frL_t frL_u (frL_G f3))) (frL_t (frL_t frL_u (frL_G f4)) (frL_t frL_u frL_u))
          · rw [u2_at, u2_at, hq4]
            exact RBB_takes hR hi hg hz b1 b2 d1 d2 a2
        · rw [if_neg hn3] at rf
          (try simp only [↓w_X9_readTakes_0, ↓w_X9_readTakes_22, ↓w_X9_readTakes_24, ↓w_X9_readTakes_52, ↓w_X9_readTakes_79, ↓v_X9_readTakes_22, ↓v_X9_readTakes_24, ↓v_X9_readTakes_52, ↓v_X9_readTakes_79, ↓b_aload_n, ↓b_bipush, ↓b_callV2_1, ↓b_callV3_1, ↓b_dup2, ↓b_getA, ↓b_getI, ↓b_iadd, ↓b_iaload, ↓n_iastore, ↓b_ic_eq, ↓b_iconst, ↓b_if_ne, ↓b_iload_n, ↓n_istore_n, ↓b_sipush, ↓b_zret, ↓ldI_hit, ↓ldI_skip, ↓ldL_hit, ↓ldL_skip, ↓ldA_hit, ↓ldA_skip, ↓ldelK_nil, ↓ldelK_hit, ↓ldelK_skipI, ↓ldelK_skipA, ↓ldelK_skipL, lget_hit, lget_skip, ldel_nil, ldel_hit, ldel_skipI, ldel_skipA, ldel_skipL, ldel2_nil, ldel2_hit, ldel2_hit2, ldel2_skipI, ldel2_skipA, ldel2_skipL, vc_0, mCall_P0, mCat_nil, mCat_I, mCat_L, mCat_A, mRcv_A, mArg_nil, mArg_I, mArg_L, mArg_A, tsg, swt_nil, swt_cons, lkw_nil, lkw_cons, ↓reduceIte, Nat.reduceAdd, Nat.reduceEqDiff, Nat.reduceLeDiff, Nat.reduceMul, true_and, and_true, and_self, List.mem_cons, List.not_mem_nil, or_false, or_self, false_or, true_implies, false_implies, not_true_eq_false, not_false_eq_true, nI00, nI10, nI01, nI11, forall_const, implies_true]); (try simp (disch := omega) only [ixq, ixz, sb_in, sb_in0, upI_sb, upI_sb0, sb_out, nI_add, nI_mul, nI_subq, Nat.zero_add, forall_eq, u2_at, u2_row, upd_at, upd_ne, nI0b, nI1b, nI00, nI10, nI01, nI11, true_implies, false_implies, not_true_eq_false, not_false_eq_true, and_true, true_and, implies_true])
          exact OUT_0 hO rf (frM_g (frL_t (frL_t (frL_G q2) (frL_t frL_u (frL_G f3))) frL_u) f4) e10 e11
      · rw [if_neg hn2] at rf
        (try simp only [↓w_X9_readTakes_0, ↓w_X9_readTakes_22, ↓w_X9_readTakes_24, ↓w_X9_readTakes_52, ↓w_X9_readTakes_79, ↓v_X9_readTakes_22, ↓v_X9_readTakes_24, ↓v_X9_readTakes_52, ↓v_X9_readTakes_79, ↓b_aload_n, ↓b_bipush, ↓b_callV2_1, ↓b_callV3_1, ↓b_dup2, ↓b_getA, ↓b_getI, ↓b_iadd, ↓b_iaload, ↓n_iastore, ↓b_ic_eq, ↓b_iconst, ↓b_if_ne, ↓b_iload_n, ↓n_istore_n, ↓b_sipush, ↓b_zret, ↓ldI_hit, ↓ldI_skip, ↓ldL_hit, ↓ldL_skip, ↓ldA_hit, ↓ldA_skip, ↓ldelK_nil, ↓ldelK_hit, ↓ldelK_skipI, ↓ldelK_skipA, ↓ldelK_skipL, lget_hit, lget_skip, ldel_nil, ldel_hit, ldel_skipI, ldel_skipA, ldel_skipL, ldel2_nil, ldel2_hit, ldel2_hit2, ldel2_skipI, ldel2_skipA, ldel2_skipL, vc_0, mCall_P0, mCat_nil, mCat_I, mCat_L, mCat_A, mRcv_A, mArg_nil, mArg_I, mArg_L, mArg_A, tsg, swt_nil, swt_cons, lkw_nil, lkw_cons, ↓reduceIte, Nat.reduceAdd, Nat.reduceEqDiff, Nat.reduceLeDiff, Nat.reduceMul, true_and, and_true, and_self, List.mem_cons, List.not_mem_nil, or_false, or_self, false_or, true_implies, false_implies, not_true_eq_false, not_false_eq_true, nI00, nI10, nI01, nI11, forall_const, implies_true]); (try simp (disch := omega) only [ixq, ixz, sb_in, sb_in0, upI_sb, upI_sb0, sb_out, nI_add, nI_mul, nI_subq, Nat.zero_add, forall_eq, u2_at, u2_row, upd_at, upd_ne, nI0b, nI1b, nI00, nI10, nI01, nI11, true_implies, false_implies, not_true_eq_false, not_false_eq_true, and_true, true_and, implies_true])
        exact OUT_0 hO rf (frM_g (frL_t (frL_G q2) frL_u) f3) e10 e11
    · rw [if_neg hnum] at rn
      have rf := rf _ rn
      dsimp only at rf
      rw [if_pos (show nI 0 = 0 from rfl)] at rf
      (try simp only [↓w_X9_readTakes_0, ↓w_X9_readTakes_22, ↓w_X9_readTakes_24, ↓w_X9_readTakes_52, ↓w_X9_readTakes_79, ↓v_X9_readTakes_22, ↓v_X9_readTakes_24, ↓v_X9_readTakes_52, ↓v_X9_readTakes_79, ↓b_aload_n, ↓b_bipush, ↓b_callV2_1, ↓b_callV3_1, ↓b_dup2, ↓b_getA, ↓b_getI, ↓b_iadd, ↓b_iaload, ↓n_iastore, ↓b_ic_eq, ↓b_iconst, ↓b_if_ne, ↓b_iload_n, ↓n_istore_n, ↓b_sipush, ↓b_zret, ↓ldI_hit, ↓ldI_skip, ↓ldL_hit, ↓ldL_skip, ↓ldA_hit, ↓ldA_skip, ↓ldelK_nil, ↓ldelK_hit, ↓ldelK_skipI, ↓ldelK_skipA, ↓ldelK_skipL, lget_hit, lget_skip, ldel_nil, ldel_hit, ldel_skipI, ldel_skipA, ldel_skipL, ldel2_nil, ldel2_hit, ldel2_hit2, ldel2_skipI, ldel2_skipA, ldel2_skipL, vc_0, mCall_P0, mCat_nil, mCat_I, mCat_L, mCat_A, mRcv_A, mArg_nil, mArg_I, mArg_L, mArg_A, tsg, swt_nil, swt_cons, lkw_nil, lkw_cons, ↓reduceIte, Nat.reduceAdd, Nat.reduceEqDiff, Nat.reduceLeDiff, Nat.reduceMul, true_and, and_true, and_self, List.mem_cons, List.not_mem_nil, or_false, or_self, false_or, true_implies, false_implies, not_true_eq_false, not_false_eq_true, nI00, nI10, nI01, nI11, forall_const, implies_true]); (try simp (disch := omega) only [ixq, ixz, sb_in, sb_in0, upI_sb, upI_sb0, sb_out, nI_add, nI_mul, nI_subq, Nat.zero_add, forall_eq, u2_at, u2_row, upd_at, upd_ne, nI0b, nI1b, nI00, nI10, nI01, nI11, true_implies, false_implies, not_true_eq_false, not_false_eq_true, and_true, true_and, implies_true])
      exact OUT_0 hO rf (frM_P (frP_g f1 f2)) e10 e11
  · have rn : rNewF 7 (i * 6 + g) (advF (advF T)) B = (nI 0, failF (nI 3) (advF (advF T)), B) := if_pos hz
    have rf := ra _ _ cf rfl
    dsimp only at rf
    rw [cl_nI (by omega), rn] at rf
    dsimp only at rf
    rw [if_neg (by rw [nI_m1 (by omega)]; exact id), if_pos (show nI 0 = 0 from rfl)] at rf
    (try simp only [↓w_X9_readTakes_0, ↓w_X9_readTakes_22, ↓w_X9_readTakes_24, ↓w_X9_readTakes_52, ↓w_X9_readTakes_79, ↓v_X9_readTakes_22, ↓v_X9_readTakes_24, ↓v_X9_readTakes_52, ↓v_X9_readTakes_79, ↓b_aload_n, ↓b_bipush, ↓b_callV2_1, ↓b_callV3_1, ↓b_dup2, ↓b_getA, ↓b_getI, ↓b_iadd, ↓b_iaload, ↓n_iastore, ↓b_ic_eq, ↓b_iconst, ↓b_if_ne, ↓b_iload_n, ↓n_istore_n, ↓b_sipush, ↓b_zret, ↓ldI_hit, ↓ldI_skip, ↓ldL_hit, ↓ldL_skip, ↓ldA_hit, ↓ldA_skip, ↓ldelK_nil, ↓ldelK_hit, ↓ldelK_skipI, ↓ldelK_skipA, ↓ldelK_skipL, lget_hit, lget_skip, ldel_nil, ldel_hit, ldel_skipI, ldel_skipA, ldel_skipL, ldel2_nil, ldel2_hit, ldel2_hit2, ldel2_skipI, ldel2_skipA, ldel2_skipL, vc_0, mCall_P0, mCat_nil, mCat_I, mCat_L, mCat_A, mRcv_A, mArg_nil, mArg_I, mArg_L, mArg_A, tsg, swt_nil, swt_cons, lkw_nil, lkw_cons, ↓reduceIte, Nat.reduceAdd, Nat.reduceEqDiff, Nat.reduceLeDiff, Nat.reduceMul, true_and, and_true, and_self, List.mem_cons, List.not_mem_nil, or_false, or_self, false_or, true_implies, false_implies, not_true_eq_false, not_false_eq_true, nI00, nI10, nI01, nI11, forall_const, implies_true]); (try simp (disch := omega) only [ixq, ixz, sb_in, sb_in0, upI_sb, upI_sb0, sb_out, nI_add, nI_mul, nI_subq, Nat.zero_add, forall_eq, u2_at, u2_row, upd_at, upd_ne, nI0b, nI1b, nI00, nI10, nI01, nI11, true_implies, false_implies, not_true_eq_false, not_false_eq_true, and_true, true_and, implies_true])
    exact OUT_0 hO rf (frM_P f1) e10 e11
  · have rf := ra _ _ cf rfl
    dsimp only at rf
    rw [if_pos rfl] at rf
    (try simp only [↓w_X9_readTakes_0, ↓w_X9_readTakes_22, ↓w_X9_readTakes_24, ↓w_X9_readTakes_52, ↓w_X9_readTakes_79, ↓v_X9_readTakes_22, ↓v_X9_readTakes_24, ↓v_X9_readTakes_52, ↓v_X9_readTakes_79, ↓b_aload_n, ↓b_bipush, ↓b_callV2_1, ↓b_callV3_1, ↓b_dup2, ↓b_getA, ↓b_getI, ↓b_iadd, ↓b_iaload, ↓n_iastore, ↓b_ic_eq, ↓b_iconst, ↓b_if_ne, ↓b_iload_n, ↓n_istore_n, ↓b_sipush, ↓b_zret, ↓ldI_hit, ↓ldI_skip, ↓ldL_hit, ↓ldL_skip, ↓ldA_hit, ↓ldA_skip, ↓ldelK_nil, ↓ldelK_hit, ↓ldelK_skipI, ↓ldelK_skipA, ↓ldelK_skipL, lget_hit, lget_skip, ldel_nil, ldel_hit, ldel_skipI, ldel_skipA, ldel_skipL, ldel2_nil, ldel2_hit, ldel2_hit2, ldel2_skipI, ldel2_skipA, ldel2_skipL, vc_0, mCall_P0, mCat_nil, mCat_I, mCat_L, mCat_A, mRcv_A, mArg_nil, mArg_I, mArg_L, mArg_A, tsg, swt_nil, swt_cons, lkw_nil, lkw_cons, ↓reduceIte, Nat.reduceAdd, Nat.reduceEqDiff, Nat.reduceLeDiff, Nat.reduceMul, true_and, and_true, and_self, List.mem_cons, List.not_mem_nil, or_false, or_self, false_or, true_implies, false_implies, not_true_eq_false, not_false_eq_true, nI00, nI10, nI01, nI11, forall_const, implies_true]); (try simp (disch := omega) only [ixq, ixz, sb_in, sb_in0, upI_sb, upI_sb0, sb_out, nI_add, nI_mul, nI_subq, Nat.zero_add, forall_eq, u2_at, u2_row, upd_at, upd_ne, nI0b, nI1b, nI00, nI10, nI01, nI11, true_implies, false_implies, not_true_eq_false, not_false_eq_true, and_true, true_and, implies_true])
    exact OUT_0 hO rf (frM_P f1) e10 e11
end MTr
