/-! a PLAN on both sides: the class's LINES (P) and the reference's acts (from place a on) -/
def ACT (G W : Nat) (P : Bk) (i : Nat) (f : Nat → Int32) : Prop :=
  (P 1 i = nI 7 ∧ f 0 = nI 0 ∧ ∃ w, w < W ∧ f 1 = nI w ∧ P 2 i = nI w ∧ f 2 = P 5 i ∧ f 3 = P 6 i)
  ∨ (P 1 i = nI 8 ∧ f 0 = nI 1 ∧ ∃ w g a, w < W ∧ g < G ∧ a ≤ 99 ∧ f 1 = nI w ∧ f 2 = nI g ∧ P 3 i = nI (w * 6 + g) ∧ P 4 i = nI a ∧ f 3 = nI a ∧ f 4 = P 5 i)
def PLN (G W : Nat) (P : Bk) (f : Nat → Int32) (a l : Nat) : Prop := ∀ i, i < l → ACT G W P i (fun j => f (a + 5 * i + j))
def frA (Q Q' : Bk) : Prop := (∀ k, k ≠ 0 → k ≠ 4 → Q' k = Q k) ∧ ∀ j, j < 5 ∨ j = 10 ∨ (13 < j ∧ j ≠ 39) → Q' 0 j = Q 0 j
def frC (Q Q' : Bk) : Prop := (∀ k, k ≠ 0 → k ≠ 4 → Q' k = Q k) ∧ ∀ j, j < 5 ∨ (13 < j ∧ j ≠ 39) → Q' 0 j = Q 0 j
theorem frA_G {Q Q' : Bk} (h : frG Q Q') : frA Q Q' := ⟨fun k a _ => h.1 k a, fun j hj => h.2 j (by omega)⟩
theorem frA_t {Q Q1 Q2 : Bk} (h : frA Q Q1) (h2 : frA Q1 Q2) : frA Q Q2 := ⟨fun k a b => (h2.1 k a b).trans (h.1 k a b), fun j hj => (h2.2 j hj).trans (h.2 j hj)⟩
theorem frA_u {Q : Bk} {j : Nat} {x : Int32} : frA Q (u2 Q 4 j x) := ⟨fun k _ h4 => u2_row h4, fun i _ => by rw [u2_row (by decide)]⟩
theorem frA_9 {Q : Bk} {x : Int32} : frA Q (u2 Q 0 39 x) := ⟨fun k h0 _ => u2_row h0, fun i hi => by rw [u2_at, upd_ne (by omega)]⟩
theorem frC_g {Q Q1 Q2 : Bk} (h : frA Q Q1) (h2 : frP Q1 Q2) : frC Q Q2 := ⟨fun k a b => (h2.1 k a).trans (h.1 k a b), fun j hj => (h2.2 j (by omega)).trans (h.2 j (by omega))⟩
theorem TKb_k {Q T : Bk} {k j : Nat} {x : Int32} (hk : 2 ≤ k) (h : TKb Q T) : TKb (u2 Q k j x) T := by
  obtain ⟨L, N, h1, h2, h3, h4, h5, h6, h7, h8⟩ := h
  refine ⟨L, N, h1, h2, h3, h4, ?_, ?_, ?_, fun i hi => ?_⟩
  · rw [u2_row (by omega)]; exact h5
  · rw [u2_row (by omega)]; exact h6
  · rw [u2_row (by omega)]; exact h7
  · rw [u2_row (by omega)]; exact h8 i hi
theorem TK_r {Q T : Bk} {w : Int64} {k j : Nat} {x : Int32} (hk : 2 ≤ k) (h : TK Q w T) : TK (u2 Q k j x) w T := ⟨TKb_k hk h.1, h.2.1, h.2.2.1, by rw [u2_row (by omega)]; exact h.2.2.2⟩
def OUTP (K : MV → Mem → Prop) (μ : Mem) (m G W l : Nat) (Q : Bk) (p : PR) : Prop :=
  (p.1 = nI 1 → ∀ Q' w', frA Q Q' → Q' 0 39 = nI (l + 1) → PLN G W p.2.2 (Q' 4) 0 (l + 1) → TK Q' w' p.2.1 → K (.inl (nI 1)) (sb (upL μ m 12 w') m 21 Q')) ∧
  (p.1 = nI 0 → ∀ Q' w', frC Q Q' → Q' 0 10 = p.2.1 0 10 → Q' 0 11 = p.2.1 0 11 → K (.inl (nI 0)) (sb (upL μ m 12 w') m 21 Q'))
section MPa
variable {X : mC} {h m : Nat} {K : MV → Mem → Prop} {μ : Mem} {Q T B P : Bk} {w : Int64} {G W l : Nat}
theorem OUTP_0 {p : PR} {e : Int32} {T' B' : Bk} (hO : OUTP K μ m G W l Q p) (hp : p = (nI 0, failF e T', B')) {Q' : Bk} {w' : Int64} (hf : frC Q Q') (h10 : Q' 0 10 = e) (h11 : Q' 0 11 = T' 0 6) : K (.inl (nI 0)) (sb (upL μ m 12 w') m 21 Q') := by
  subst hp
  exact hO.2 rfl Q' w' hf (h10.trans (failF_10 (T := T')).symm) (h11.trans (failF_11 (e := e)).symm)
theorem OUTP_1 {p : PR} {T' B' : Bk} (hO : OUTP K μ m G W l Q p) (hp : p = (nI 1, T', B')) {Q' : Bk} {w' : Int64} (hf : frA Q Q') (h39 : Q' 0 39 = nI (l + 1)) (hR : PLN G W B' (Q' 4) 0 (l + 1)) (ht : TK Q' w' T') : K (.inl (nI 1)) (sb (upL μ m 12 w') m 21 Q') := by
  subst hp
  exact hO.1 rfl Q' w' hf h39 hR ht
theorem c_readActR (hl : l ≤ 20) (h39 : Q 0 39 = nI l) (hR : RBB G W (Q 2) (μ.2 (m + 6)) B) (hP : PLN G W P (Q 4) 0 l) (ht : TK Q w T) (hO : OUTP K μ m G W l Q (lnE (pLineF G W l B T P))) : mMet X (h + 5) m_X9_readAct [.inr (.inr (8, 0, m))] (sb (upL μ m 12 w) m 21 Q) K := by
  have g6 := hR.g6
  have w8 := hR.w8
  have e7 := TK_word ht (k := 7) (by decide)
  have e8 := TK_word ht (k := 8) (by decide)
  (refine vc_met2 P3_ok ok_X9_readAct cm_X9_readAct [24,41] 10 t_X9_readAct_0 (Nat.le_of_ble_eq_true rfl) ?_; simp only [mArg_nil, mArg_I, mArg_L, mArg_A, Nat.reduceAdd])
  have k41 : T 0 8 = nI 7 ∨ T 0 8 = nI 8 → mAt X m_X9_readAct (h + 4) K 41 [(1, .inl (bI (T 0 8 = nI 7))), (0, .inr (.inr (8, 0, m)))] [] (sb (upL μ m 12 w) m 21 Q) := by
    sorry
  have k24 : T 0 8 = nI 7 ∨ T 0 8 = nI 8 → mAt X m_X9_readAct (h + 4) K 24 [(1, .inl (bI (T 0 8 = nI 7))), (0, .inr (.inr (8, 0, m)))] [] (sb (upL μ m 12 w) m 21 Q) := by
    sorry
  simp only [↓w_X9_readAct_0, ↓w_X9_readAct_26, ↓w_X9_readAct_41, ↓w_X9_readAct_69, ↓w_X9_readAct_82, ↓w_X9_readAct_83, ↓w_X9_readAct_121, ↓w_X9_readAct_153, ↓w_X9_readAct_169, ↓w_X9_readAct_187, ↓w_X9_readAct_197, ↓w_X9_readAct_199, ↓w_X9_readAct_213, ↓w_X9_readAct_216, ↓w_X9_readAct_233, ↓w_X9_readAct_234, ↓w_X9_readAct_245, ↓w_X9_readAct_259, ↓w_X9_readAct_262, ↓v_X9_readAct_26, ↓v_X9_readAct_41, ↓v_X9_readAct_69, ↓v_X9_readAct_82, ↓v_X9_readAct_83, ↓v_X9_readAct_121, ↓v_X9_readAct_153, ↓v_X9_readAct_169, ↓v_X9_readAct_187, ↓v_X9_readAct_197, ↓v_X9_readAct_199, ↓v_X9_readAct_213, ↓v_X9_readAct_216, ↓v_X9_readAct_233, ↓v_X9_readAct_234, ↓v_X9_readAct_245, ↓v_X9_readAct_259, ↓v_X9_readAct_262, ↓b_aload_n, ↓b_bipush, ↓b_callS2_1, ↓b_callV1_0, ↓b_callV1_1, ↓b_callV2_1, ↓b_callV3_1, ↓b_dupA, ↓b_dupI, ↓b_getA, ↓b_getI, ↓b_goto, ↓b_iadd, ↓b_iaload, ↓n_iastore, ↓b_ic_ne, ↓b_iconst, ↓b_if_eq, ↓b_if_ne, ↓b_iload_n, ↓b_imul, ↓n_istore_n, ↓n_putI, ↓b_sipush, ↓b_zret, ↓ldI_hit, ↓ldI_skip, ↓ldL_hit, ↓ldL_skip, ↓ldA_hit, ↓ldA_skip, ↓ldelK_nil, ↓ldelK_hit, ↓ldelK_skipI, ↓ldelK_skipA, ↓ldelK_skipL, qP3_X9_bad, qP3_X9_cell, qP3_X9_go, qP3_X9_isToldGood, qP3_X9_isToldWork, qP3_X9_isWord, qP3_X9_readEnd, qP3_X9_readNumber, ↓bI_b, bI_0, nnot, lget_hit, lget_skip, ldel_nil, ldel_hit, ldel_skipI, ldel_skipA, ldel_skipL, ldel2_nil, ldel2_hit, ldel2_hit2, ldel2_skipI, ldel2_skipA, ldel2_skipL, vc_0, mCat_nil, mCat_I, mCat_L, mCat_A, mRcv_A, mArg_nil, mArg_I, mArg_L, mArg_A, tsg, swt_nil, swt_cons, lkw_nil, lkw_cons, ↓reduceIte, Nat.reduceAdd, Nat.reduceEqDiff, Nat.reduceLeDiff, Nat.reduceMul, true_and, and_true, and_self, List.mem_cons, List.not_mem_nil, or_false, or_self, false_or, true_implies, false_implies, not_true_eq_false, not_false_eq_true, nI00, nI10, nI01, nI11, forall_const, implies_true]
  simp (disch := omega) only [ixq, ixz, sb_in, sb_in0, upI_sb, upI_sb0, sb_out, nI_add, nI_mul, nI_subq, Nat.zero_add, forall_eq, u2_at, u2_row, upd_at, upd_ne, nI0b, nI1b, nI00, nI10, nI01, nI11, true_implies, false_implies, not_true_eq_false, not_false_eq_true, and_true, true_and, implies_true, sb_2, upL_at, e7, e8]
  trace_state
  sorry
end MPa
