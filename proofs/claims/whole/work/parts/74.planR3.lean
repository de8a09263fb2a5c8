def cpS (a n : Nat) (f g : Nat → Int32) : Nat → Int32 := fun j => if a ≤ j ∧ j < a + n then f (j - a) else g j
theorem cpS_0 {a : Nat} {f g : Nat → Int32} : cpS a 0 f g = g := funext fun j => if_neg (by omega)
theorem cpS_s {a n : Nat} {f g : Nat → Int32} : upd (cpS a n f g) (a + n) (f n) = cpS a (n + 1) f g := by
  funext j
  unfold upd cpS
  by_cases h1 : j = a + n
  · subst h1
    rw [if_pos rfl, if_pos (by omega)]
    congr 1
    omega
  · rw [if_neg h1]
    by_cases h2 : a ≤ j ∧ j < a + n
    · rw [if_pos h2, if_pos (by omega)]
    · rw [if_neg h2, if_neg (by omega)]
theorem cpS_in {a n j : Nat} {f g : Nat → Int32} (h : j < n) : cpS a n f g (a + j) = f j := by
  unfold cpS
  rw [if_pos (by omega)]
  congr 1
  omega
theorem cpS_out {a n j : Nat} {f g : Nat → Int32} (h : j < a ∨ a + n ≤ j) : cpS a n f g j = g j := if_neg (by omega)
theorem PLN_0 {G W a l : Nat} {P : Bk} {f : Nat → Int32} {x : Int32} (h : PLN G W P f a l) : PLN G W (u2 P 0 0 x) f a l := fun i hi => ACT_ext (h i hi) (fun r h1 _ => by rw [u2_row (by omega)]) (fun j _ => rfl)
theorem ploop_lnE {G W n : Nat} {B T P : Bk} (h : ¬ T 0 5 = 0) : pLoopF G W B (n + 1) T P = if (lnE (pLineF G W (cl (P 0 0)) B T P)).1 = 0 then (nI 0, (lnE (pLineF G W (cl (P 0 0)) B T P)).2) else pLoopF G W B n (lnE (pLineF G W (cl (P 0 0)) B T P)).2.1 (u2 (lnE (pLineF G W (cl (P 0 0)) B T P)).2.2 0 0 (P 0 0 + nI 1)) := by
  rw [pLoopF]
  rw [if_neg h]
  generalize pLineF G W (cl (P 0 0)) B T P = p
  by_cases h1 : p.1 = 0
  · have e : lnE p = (nI 0, p.2) := if_pos h1
    rw [e, if_pos h1]
    dsimp only
    rw [if_pos (show nI 0 = 0 from rfl)]
  · by_cases h2 : sgP (nI 59) p.2.1
    · have e : lnE p = (nI 1, advF p.2.1, p.2.2) := (if_neg h1).trans (if_pos h2)
      rw [e, if_neg h1, if_pos h2]
      dsimp only
      rw [if_neg (show ¬ nI 1 = 0 by decide)]
    · have e : lnE p = (nI 0, failF (nI 1) p.2.1, p.2.2) := (if_neg h1).trans (if_neg h2)
      rw [e, if_neg h1, if_neg h2]
      dsimp only
      rw [if_pos (show nI 0 = 0 from rfl)]
theorem pLine_20 {G W l : Nat} {B T P : Bk} (h : 20 ≤ l) : (pLineF G W l B T P).1 = 0 := by
  unfold pLineF
  by_cases h1 : T 0 8 = nI 7 ∨ T 0 8 = nI 8
  · rw [if_pos h1, if_pos h]; rfl
  · rw [if_neg h1]; rfl
def frE (Q Q' : Bk) : Prop := (∀ k, k ≠ 0 → k ≠ 4 → Q' k = Q k) ∧ (∀ j, j = 1 ∨ (13 < j ∧ j ≠ 39) → Q' 0 j = Q 0 j) ∧ Q' 0 2 = nI 0
theorem frE_A {Q Q1 Q2 : Bk} (h : frE Q Q1) (h2 : frA Q1 Q2) : frE Q Q2 := ⟨fun k a b => (h2.1 k a b).trans (h.1 k a b), fun j hj => (h2.2 j (by omega)).trans (h.2.1 j hj), (h2.2 2 (by omega)).trans h.2.2⟩
theorem frE_C {Q Q1 Q2 : Bk} (h : frE Q Q1) (h2 : frC Q1 Q2) : frE Q Q2 := ⟨fun k a b => (h2.1 k a b).trans (h.1 k a b), fun j hj => (h2.2 j (by omega)).trans (h.2.1 j hj), (h2.2 2 (by omega)).trans h.2.2⟩
def nowP (l : Nat) (Q : Bk) : Bk := u2 (va_up Q 2 (cpS 279 (5 * l) (Q 4) (Q 2))) 2 278 (nI l)
section MPc
variable {X : mC} {h m : Nat} {K : MV → Mem → Prop} {μ : Mem} {Q T B P : Bk} {w : Int64} {G W : Nat}
theorem plan_tail {l : Nat} (hl : l ≤ 20) (h39 : Q 0 39 = nI l) (hK : K (.inl (nI l)) (sb (upL μ m 12 w) m 21 (nowP l Q))) : mAt X m_X9_plan (h + 5) K 33 [(0, .inr (.inr (8, 0, m)))] [] (sb (upL μ m 12 w) m 21 Q) := by
  (skip)
  (refine vc_from P0_ok ok_X9_plan [12,33,35] 6 ?_; rw [t_X9_plan_33])
  simp only [↓w_X9_plan_0, ↓w_X9_plan_12, ↓w_X9_plan_33, ↓w_X9_plan_67, ↓v_X9_plan_12, ↓v_X9_plan_33, ↓v_X9_plan_35, ↓v_X9_plan_67, ↓b_aload_n, ↓b_callV1_1, ↓b_callV2_0, ↓b_getA, ↓b_getI, ↓b_goto, ↓b_iadd, ↓b_iaload, ↓n_iastore, ↓b_ic_ge, ↓b_iconst, ↓b_if_eq, ↓b_if_ne, ↓n_iinc, ↓b_iload_n, ↓b_imul, ↓b_iret, ↓n_istore_n, ↓n_isub, ↓n_putI, ↓b_sipush, ↓ldI_hit, ↓ldI_skip, ↓ldL_hit, ↓ldL_skip, ↓ldA_hit, ↓ldA_skip, ↓ldelK_nil, ↓ldelK_hit, ↓ldelK_skipI, ↓ldelK_skipA, ↓ldelK_skipL, lget_hit, lget_skip, ldel_nil, ldel_hit, ldel_skipI, ldel_skipA, ldel_skipL, ldel2_nil, ldel2_hit, ldel2_hit2, ldel2_skipI, ldel2_skipA, ldel2_skipL, vc_0, mCall_P0, mCat_nil, mCat_I, mCat_L, mCat_A, mRcv_A, mArg_nil, mArg_I, mArg_L, mArg_A, tsg, swt_nil, swt_cons, lkw_nil, lkw_cons, ↓reduceIte, Nat.reduceAdd, Nat.reduceEqDiff, Nat.reduceLeDiff, Nat.reduceMul, true_and, and_true, and_self, List.mem_cons, List.not_mem_nil, or_false, or_self, false_or, true_implies, false_implies, not_true_eq_false, not_false_eq_true, nI00, nI10, nI01, nI11, forall_const, implies_true]
  rintro _ rfl
  have key := loop_up (fun k => bb X P0 m_X9_plan (h + 5) K (vc X P0 m_X9_plan (h + 5) K k_X9_plan [12,33,35] 6) s_X9_plan_35 [(1, .inl (nI k)), (0, .inr (.inr (8, 0, m)))] [] (sb (upL μ m 12 w) m 21 (va_up Q 2 (cpS 279 k (Q 4) (Q 2))))) (5 * l) ?_ ?_
  · rw [cpS_0, vup_id] at key
    exact key
  · simp only [↓w_X9_plan_0, ↓w_X9_plan_12, ↓w_X9_plan_33, ↓w_X9_plan_35, ↓w_X9_plan_67, ↓v_X9_plan_12, ↓v_X9_plan_33, ↓v_X9_plan_35, ↓v_X9_plan_67, ↓b_aload_n, ↓b_callV1_1, ↓b_callV2_0, ↓b_getA, ↓b_getI, ↓b_goto, ↓b_iadd, ↓b_iaload, ↓n_iastore, ↓b_ic_ge, ↓b_iconst, ↓b_if_eq, ↓b_if_ne, ↓n_iinc, ↓b_iload_n, ↓b_imul, ↓b_iret, ↓n_istore_n, ↓n_isub, ↓n_putI, ↓b_sipush, ↓ldI_hit, ↓ldI_skip, ↓ldL_hit, ↓ldL_skip, ↓ldA_hit, ↓ldA_skip, ↓ldelK_nil, ↓ldelK_hit, ↓ldelK_skipI, ↓ldelK_skipA, ↓ldelK_skipL, lget_hit, lget_skip, ldel_nil, ldel_hit, ldel_skipI, ldel_skipA, ldel_skipL, ldel2_nil, ldel2_hit, ldel2_hit2, ldel2_skipI, ldel2_skipA, ldel2_skipL, vc_0, mCall_P0, mCat_nil, mCat_I, mCat_L, mCat_A, mRcv_A, mArg_nil, mArg_I, mArg_L, mArg_A, tsg, swt_nil, swt_cons, lkw_nil, lkw_cons, ↓reduceIte, Nat.reduceAdd, Nat.reduceEqDiff, Nat.reduceLeDiff, Nat.reduceMul, true_and, and_true, and_self, List.mem_cons, List.not_mem_nil, or_false, or_self, false_or, true_implies, false_implies, not_true_eq_false, not_false_eq_true, nI00, nI10, nI01, nI11, forall_const, implies_true]
    simp (disch := omega) only [ixq, ixz, sb_in, sb_in0, upI_sb, upI_sb0, sb_out, nI_add, nI_mul, nI_subq, Nat.zero_add, forall_eq, u2_at, u2_row, upd_at, upd_ne, nI0b, nI1b, nI00, nI10, nI01, nI11, true_implies, false_implies, not_true_eq_false, not_false_eq_true, and_true, true_and, implies_true, nI_lq, up_row, h39]
    exact ⟨fun _ => hK, fun hc => absurd (Nat.le_refl _) hc⟩
  · intro k hk ih
    rw [← cpS_s] at ih
    simp only [↓w_X9_plan_0, ↓w_X9_plan_12, ↓w_X9_plan_33, ↓w_X9_plan_35, ↓w_X9_plan_67, ↓v_X9_plan_12, ↓v_X9_plan_33, ↓v_X9_plan_35, ↓v_X9_plan_67, ↓b_aload_n, ↓b_callV1_1, ↓b_callV2_0, ↓b_getA, ↓b_getI, ↓b_goto, ↓b_iadd, ↓b_iaload, ↓n_iastore, ↓b_ic_ge, ↓b_iconst, ↓b_if_eq, ↓b_if_ne, ↓n_iinc, ↓b_iload_n, ↓b_imul, ↓b_iret, ↓n_istore_n, ↓n_isub, ↓n_putI, ↓b_sipush, ↓ldI_hit, ↓ldI_skip, ↓ldL_hit, ↓ldL_skip, ↓ldA_hit, ↓ldA_skip, ↓ldelK_nil, ↓ldelK_hit, ↓ldelK_skipI, ↓ldelK_skipA, ↓ldelK_skipL, lget_hit, lget_skip, ldel_nil, ldel_hit, ldel_skipI, ldel_skipA, ldel_skipL, ldel2_nil, ldel2_hit, ldel2_hit2, ldel2_skipI, ldel2_skipA, ldel2_skipL, vc_0, mCall_P0, mCat_nil, mCat_I, mCat_L, mCat_A, mRcv_A, mArg_nil, mArg_I, mArg_L, mArg_A, tsg, swt_nil, swt_cons, lkw_nil, lkw_cons, ↓reduceIte, Nat.reduceAdd, Nat.reduceEqDiff, Nat.reduceLeDiff, Nat.reduceMul, true_and, and_true, and_self, List.mem_cons, List.not_mem_nil, or_false, or_self, false_or, true_implies, false_implies, not_true_eq_false, not_false_eq_true, nI00, nI10, nI01, nI11, forall_const, implies_true]
    simp (disch := omega) only [ixq, ixz, sb_in, sb_in0, upI_sb, upI_sb0, sb_out, nI_add, nI_mul, nI_subq, Nat.zero_add, forall_eq, u2_at, u2_row, upd_at, upd_ne, nI0b, nI1b, nI00, nI10, nI01, nI11, true_implies, false_implies, not_true_eq_false, not_false_eq_true, and_true, true_and, implies_true, nI_lq, u2_vup, up_row, up_at, h39]
    refine ⟨fun hc => absurd hc (by omega), fun _ => ?_⟩
    exact vc_back P0_ok ok_X9_plan [12,33,35] 6 t_X9_plan_35 (ih) (by simp) (rfl)
theorem c_planR {L : Nat} (hL : L ≤ 940) (hT : T 0 2 = nI L) (hQ : Q 0 2 = nI L) (hj : ∀ j, j < L → Q 1 j = T 1 j) (hk : kwT T) (hR : RBB G W (Q 2) (μ.2 (m + 6)) B)
    (h1 : (pFromF G W B T P).1 = nI 1 → ∀ l Q' w', l ≤ 20 → frE Q Q' → Q' 0 10 = nI 0 → (pFromF G W B T P).2.2 0 0 = nI l → PLN G W (pFromF G W B T P).2.2 (Q' 4) 0 l → K (.inl (nI l)) (sb (upL μ m 12 w') m 21 (nowP l Q')))
    (h0 : (pFromF G W B T P).1 = nI 0 → ∀ Q' w', frE Q Q' → Q' 0 10 = (pFromF G W B T P).2.1 0 10 → K (.inl (-1 - (pFromF G W B T P).2.1 0 11)) (sb (upL μ m 12 w') m 21 Q')) : mMet X (h + 6) m_X9_plan [.inr (.inr (8, 0, m))] (sb (upL μ m 12 w) m 21 Q) K := by
  obtain ⟨F, hF⟩ : ∃ F, F = pFromF G W B T P := ⟨_, rfl⟩
  rw [← hF] at h1 h0
  unfold pFromF at hF
  (refine vc_met2 P0_ok ok_X9_plan cm_X9_plan [12,33,35] 6 t_X9_plan_0 (Nat.le_of_ble_eq_true rfl) ?_; simp only [mArg_nil, mArg_I, mArg_L, mArg_A, Nat.reduceAdd])
  have main : ∀ n l T P Q' w', TK Q' w' T → frE Q Q' → Q' 0 10 = nI 0 → Q' 0 39 = nI l → P 0 0 = nI l → PLN G W P (Q' 4) 0 l → l + n = 21 → l ≤ 20 → pLoopF G W B n T P = F → bb X P0 m_X9_plan (h + 5) K (vc X P0 m_X9_plan (h + 5) K k_X9_plan [12,33,35] 6) s_X9_plan_12 [(0, .inr (.inr (8, 0, m)))] [] (sb (upL μ m 12 w') m 21 Q') := by
    intro n
    induction n with
    | zero =>
      intro l T P Q' w' ht hf h10 h39 hl hP hn hl2 he
      omega
    | succ n ih =>
      intro l T P Q' w' ht hf h10 h39 hl hP hn hl2 he
      have ek : (Q' 0 7 = 0) = (T 0 5 = 0) := TK_k ht (k := 0) (by decide) (by decide)
      by_cases h5 : T 0 5 = 0
      · have e2 : (nI 1, T, P) = F := by
          rw [← he, pLoopF, if_pos h5]
        subst e2
        dsimp only at h1
        (try simp only [↓w_X9_plan_0, ↓w_X9_plan_12, ↓w_X9_plan_33, ↓w_X9_plan_35, ↓w_X9_plan_67, ↓v_X9_plan_12, ↓v_X9_plan_33, ↓v_X9_plan_35, ↓v_X9_plan_67, ↓b_aload_n, ↓b_callV1_1, ↓b_callV2_0, ↓b_getA, ↓b_getI, ↓b_goto, ↓b_iadd, ↓b_iaload, ↓n_iastore, ↓b_ic_ge, ↓b_iconst, ↓b_if_eq, ↓b_if_ne, ↓n_iinc, ↓b_iload_n, ↓b_imul, ↓b_iret, ↓n_istore_n, ↓n_isub, ↓n_putI, ↓b_sipush, ↓ldI_hit, ↓ldI_skip, ↓ldL_hit, ↓ldL_skip, ↓ldA_hit, ↓ldA_skip, ↓ldelK_nil, ↓ldelK_hit, ↓ldelK_skipI, ↓ldelK_skipA, ↓ldelK_skipL, lget_hit, lget_skip, ldel_nil, ldel_hit, ldel_skipI, ldel_skipA, ldel_skipL, ldel2_nil, ldel2_hit, ldel2_hit2, ldel2_skipI, ldel2_skipA, ldel2_skipL, vc_0, mCall_P0, mCat_nil, mCat_I, mCat_L, mCat_A, mRcv_A, mArg_nil, mArg_I, mArg_L, mArg_A, tsg, swt_nil, swt_cons, lkw_nil, lkw_cons, ↓reduceIte, Nat.reduceAdd, Nat.reduceEqDiff, Nat.reduceLeDiff, Nat.reduceMul, true_and, and_true, and_self, List.mem_cons, List.not_mem_nil, or_false, or_self, false_or, true_implies, false_implies, not_true_eq_false, not_false_eq_true, nI00, nI10, nI01, nI11, forall_const, implies_true]); (try simp (disch := omega) only [ixq, ixz, sb_in, sb_in0, upI_sb, upI_sb0, sb_out, nI_add, nI_mul, nI_subq, Nat.zero_add, forall_eq, u2_at, u2_row, upd_at, upd_ne, nI0b, nI1b, nI00, nI10, nI01, nI11, true_implies, false_implies, not_true_eq_false, not_false_eq_true, and_true, true_and, implies_true, ek, h5])
        exact plan_tail hl2 h39 (h1 rfl l Q' w' hl2 hf h10 hl hP)
      · rw [ploop_lnE h5, hl, cl_nI (by omega)] at he
        (try simp only [↓w_X9_plan_0, ↓w_X9_plan_12, ↓w_X9_plan_33, ↓w_X9_plan_35, ↓w_X9_plan_67, ↓v_X9_plan_12, ↓v_X9_plan_33, ↓v_X9_plan_35, ↓v_X9_plan_67, ↓b_aload_n, ↓b_callV1_1, ↓b_callV2_0, ↓b_getA, ↓b_getI, ↓b_goto, ↓b_iadd, ↓b_iaload, ↓n_iastore, ↓b_ic_ge, ↓b_iconst, ↓b_if_eq, ↓b_if_ne, ↓n_iinc, ↓b_iload_n, ↓b_imul, ↓b_iret, ↓n_istore_n, ↓n_isub, ↓n_putI, ↓b_sipush, ↓ldI_hit, ↓ldI_skip, ↓ldL_hit, ↓ldL_skip, ↓ldA_hit, ↓ldA_skip, ↓ldelK_nil, ↓ldelK_hit, ↓ldelK_skipI, ↓ldelK_skipA, ↓ldelK_skipL, lget_hit, lget_skip, ldel_nil, ldel_hit, ldel_skipI, ldel_skipA, ldel_skipL, ldel2_nil, ldel2_hit, ldel2_hit2, ldel2_skipI, ldel2_skipA, ldel2_skipL, vc_0, mCall_P0, mCat_nil, mCat_I, mCat_L, mCat_A, mRcv_A, mArg_nil, mArg_I, mArg_L, mArg_A, tsg, swt_nil, swt_cons, lkw_nil, lkw_cons, ↓reduceIte, Nat.reduceAdd, Nat.reduceEqDiff, Nat.reduceLeDiff, Nat.reduceMul, true_and, and_true, and_self, List.mem_cons, List.not_mem_nil, or_false, or_self, false_or, true_implies, false_implies, not_true_eq_false, not_false_eq_true, nI00, nI10, nI01, nI11, forall_const, implies_true]); (try simp (disch := omega) only [ixq, ixz, sb_in, sb_in0, upI_sb, upI_sb0, sb_out, nI_add, nI_mul, nI_subq, Nat.zero_add, forall_eq, u2_at, u2_row, upd_at, upd_ne, nI0b, nI1b, nI00, nI10, nI01, nI11, true_implies, false_implies, not_true_eq_false, not_false_eq_true, and_true, true_and, implies_true, ek])
        refine ⟨fun z => absurd z h5, fun _ => ?_⟩
        have tw := pLine_20 (G := G) (W := W) (l := l) (B := B) (T := T) (P := P)
        refine c_readActR hl2 h39 (by rw [hf.1 2 (by decide) (by decide)]; exact hR) hP ht ?_
        generalize pLineF G W l B T P = p at he tw ⊢
        refine ⟨fun z Q2 w2 f2 h2 p2 t2 => ?_, fun z Q2 w2 f2 e10 e11 => ?_⟩
        · obtain ⟨z1, z2, z3⟩ := lnE_inv z
          rw [z3] at he p2 t2
          dsimp only at he p2 t2
          rw [if_neg (show ¬ nI 1 = 0 by decide), nI_add] at he
          have l20 : l < 20 := by
            by_cases hh : 20 ≤ l
            · exact absurd (tw hh) z1
            · omega
          have i2 := ih (l + 1) (advF p.2.1) (u2 p.2.2 0 0 (nI (l + 1))) Q2 w2 t2 (frE_A hf f2) ((f2.2 10 (by omega)).trans h10) h2 (by rw [u2_at, upd_at]) (PLN_0 p2) (by omega) (by omega) he
          (try simp only [↓w_X9_plan_0, ↓w_X9_plan_12, ↓w_X9_plan_33, ↓w_X9_plan_35, ↓w_X9_plan_67, ↓v_X9_plan_12, ↓v_X9_plan_33, ↓v_X9_plan_35, ↓v_X9_plan_67, ↓b_aload_n, ↓b_callV1_1, ↓b_callV2_0, ↓b_getA, ↓b_getI, ↓b_goto, ↓b_iadd, ↓b_iaload, ↓n_iastore, ↓b_ic_ge, ↓b_iconst, ↓b_if_eq, ↓b_if_ne, ↓n_iinc, ↓b_iload_n, ↓b_imul, ↓b_iret, ↓n_istore_n, ↓n_isub, ↓n_putI, ↓b_sipush, ↓ldI_hit, ↓ldI_skip, ↓ldL_hit, ↓ldL_skip, ↓ldA_hit, ↓ldA_skip, ↓ldelK_nil, ↓ldelK_hit, ↓ldelK_skipI, ↓ldelK_skipA, ↓ldelK_skipL, lget_hit, lget_skip, ldel_nil, ldel_hit, ldel_skipI, ldel_skipA, ldel_skipL, ldel2_nil, ldel2_hit, ldel2_hit2, ldel2_skipI, ldel2_skipA, ldel2_skipL, vc_0, mCall_P0, mCat_nil, mCat_I, mCat_L, mCat_A, mRcv_A, mArg_nil, mArg_I, mArg_L, mArg_A, tsg, swt_nil, swt_cons, lkw_nil, lkw_cons, ↓reduceIte, Nat.reduceAdd, Nat.reduceEqDiff, Nat.reduceLeDiff, Nat.reduceMul, true_and, and_true, and_self, List.mem_cons, List.not_mem_nil, or_false, or_self, false_or, true_implies, false_implies, not_true_eq_false, not_false_eq_true, nI00, nI10, nI01, nI11, forall_const, implies_true]); (try simp (disch := omega) only [ixq, ixz, sb_in, sb_in0, upI_sb, upI_sb0, sb_out, nI_add, nI_mul, nI_subq, Nat.zero_add, forall_eq, u2_at, u2_row, upd_at, upd_ne, nI0b, nI1b, nI00, nI10, nI01, nI11, true_implies, false_implies, not_true_eq_false, not_false_eq_true, and_true, true_and, implies_true])
          exact vc_back P0_ok ok_X9_plan [12,33,35] 6 t_X9_plan_12 (i2) (by simp) (rfl)
        · rw [z] at he
          rw [if_pos (show nI 0 = 0 from rfl)] at he
          subst he
          dsimp only at h0
          (try simp only [↓w_X9_plan_0, ↓w_X9_plan_12, ↓w_X9_plan_33, ↓w_X9_plan_35, ↓w_X9_plan_67, ↓v_X9_plan_12, ↓v_X9_plan_33, ↓v_X9_plan_35, ↓v_X9_plan_67, ↓b_aload_n, ↓b_callV1_1, ↓b_callV2_0, ↓b_getA, ↓b_getI, ↓b_goto, ↓b_iadd, ↓b_iaload, ↓n_iastore, ↓b_ic_ge, ↓b_iconst, ↓b_if_eq, ↓b_if_ne, ↓n_iinc, ↓b_iload_n, ↓b_imul, ↓b_iret, ↓n_istore_n, ↓n_isub, ↓n_putI, ↓b_sipush, ↓ldI_hit, ↓ldI_skip, ↓ldL_hit, ↓ldL_skip, ↓ldA_hit, ↓ldA_skip, ↓ldelK_nil, ↓ldelK_hit, ↓ldelK_skipI, ↓ldelK_skipA, ↓ldelK_skipL, lget_hit, lget_skip, ldel_nil, ldel_hit, ldel_skipI, ldel_skipA, ldel_skipL, ldel2_nil, ldel2_hit, ldel2_hit2, ldel2_skipI, ldel2_skipA, ldel2_skipL, vc_0, mCall_P0, mCat_nil, mCat_I, mCat_L, mCat_A, mRcv_A, mArg_nil, mArg_I, mArg_L, mArg_A, tsg, swt_nil, swt_cons, lkw_nil, lkw_cons, ↓reduceIte, Nat.reduceAdd, Nat.reduceEqDiff, Nat.reduceLeDiff, Nat.reduceMul, true_and, and_true, and_self, List.mem_cons, List.not_mem_nil, or_false, or_self, false_or, true_implies, false_implies, not_true_eq_false, not_false_eq_true, nI00, nI10, nI01, nI11, forall_const, implies_true]); (try simp (disch := omega) only [ixq, ixz, sb_in, sb_in0, upI_sb, upI_sb0, sb_out, nI_add, nI_mul, nI_subq, Nat.zero_add, forall_eq, u2_at, u2_row, upd_at, upd_ne, nI0b, nI1b, nI00, nI10, nI01, nI11, true_implies, false_implies, not_true_eq_false, not_false_eq_true, and_true, true_and, implies_true, e11])
          exact h0 rfl Q2 w2 (frE_C hf f2) e10
  simp only [↓w_X9_plan_0, ↓w_X9_plan_33, ↓w_X9_plan_35, ↓w_X9_plan_67, ↓v_X9_plan_12, ↓v_X9_plan_33, ↓v_X9_plan_35, ↓v_X9_plan_67, ↓b_aload_n, ↓b_callV1_1, ↓b_callV2_0, ↓b_getA, ↓b_getI, ↓b_goto, ↓b_iadd, ↓b_iaload, ↓n_iastore, ↓b_ic_ge, ↓b_iconst, ↓b_if_eq, ↓b_if_ne, ↓n_iinc, ↓b_iload_n, ↓b_imul, ↓b_iret, ↓n_istore_n, ↓n_isub, ↓n_putI, ↓b_sipush, ↓ldI_hit, ↓ldI_skip, ↓ldL_hit, ↓ldL_skip, ↓ldA_hit, ↓ldA_skip, ↓ldelK_nil, ↓ldelK_hit, ↓ldelK_skipI, ↓ldelK_skipA, ↓ldelK_skipL, lget_hit, lget_skip, ldel_nil, ldel_hit, ldel_skipI, ldel_skipA, ldel_skipL, ldel2_nil, ldel2_hit, ldel2_hit2, ldel2_skipI, ldel2_skipA, ldel2_skipL, vc_0, mCall_P0, mCat_nil, mCat_I, mCat_L, mCat_A, mRcv_A, mArg_nil, mArg_I, mArg_L, mArg_A, tsg, swt_nil, swt_cons, lkw_nil, lkw_cons, ↓reduceIte, Nat.reduceAdd, Nat.reduceEqDiff, Nat.reduceLeDiff, Nat.reduceMul, true_and, and_true, and_self, List.mem_cons, List.not_mem_nil, or_false, or_self, false_or, true_implies, false_implies, not_true_eq_false, not_false_eq_true, nI00, nI10, nI01, nI11, forall_const, implies_true]
  refine c_beginR hL hT hQ hj hk (fun Q1 w1 t1 f1 => ?_)
  have fr : frE Q (u2 Q1 0 39 (nI 0)) := ⟨fun k k0 k4 => by rw [u2_row k0]; exact f1.1 k k0, fun j hj => by rw [u2_at, upd_ne (by omega)]; exact f1.2.1 j (by omega), by rw [u2_at, upd_ne (by decide)]; exact f1.2.2.1⟩
  have i2 := main 21 0 (openF (nI 300) T) (u2 P 0 0 (nI 0)) (u2 Q1 0 39 (nI 0)) w1 (TK_13 t1 (by decide)) fr (by rw [u2_at, upd_ne (by decide)]; exact f1.2.2.2) (by rw [u2_at, upd_at]) (by rw [u2_at, upd_at]) (fun i hi => absurd hi (Nat.not_lt_zero i)) (by omega) (by omega) hF.symm
  clear main
  simp (disch := omega) only [ixq, ixz, sb_in, sb_in0, upI_sb, upI_sb0, sb_out, nI_add, nI_mul, nI_subq, Nat.zero_add, forall_eq, u2_at, u2_row, upd_at, upd_ne, nI0b, nI1b, nI00, nI10, nI01, nI11, true_implies, false_implies, not_true_eq_false, not_false_eq_true, and_true, true_and, implies_true]
  exact i2
end MPc
