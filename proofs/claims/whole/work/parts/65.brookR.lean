/-! the reference opens the tape, and reads a BROOK -/
def frB (Q Q' : Bk) : Prop := (∀ k, k ≠ 0 → Q' k = Q k) ∧ (∀ j, j = 1 ∨ 13 < j → Q' 0 j = Q 0 j) ∧ Q' 0 2 = nI 0 ∧ Q' 0 10 = nI 0
def zR (a k : Nat) (f : Nat → Int32) : Nat → Int32 := fun j => if a ≤ j ∧ j < k then nI 0 else f j
theorem zR_0 {a : Nat} {f : Nat → Int32} : zR a a f = f := funext fun j => if_neg (by omega)
theorem zR_s {a k : Nat} {f : Nat → Int32} (h : a ≤ k) : upd (zR a k f) k (nI 0) = zR a (k + 1) f := by
  funext j
  unfold upd zR
  by_cases h1 : j = k
  · subst h1; rw [if_pos rfl, if_pos (by omega)]
  · rw [if_neg h1]
    by_cases h2 : a ≤ j ∧ j < k
    · rw [if_pos h2, if_pos (by omega)]
    · rw [if_neg h2, if_neg (by omega)]
def cpL (n : Nat) (f g : Nat → Int64) : Nat → Int64 := fun j => if j < n then f j else g j
theorem cpL_0 {f g : Nat → Int64} : cpL 0 f g = g := funext fun j => if_neg (Nat.not_lt_zero j)
theorem cpL_s {n : Nat} {f g : Nat → Int64} : vp_updL (cpL n f g) n (f n) = cpL (n + 1) f g := by
  funext j
  unfold cpL
  by_cases h1 : j = n
  · subst h1; rw [vpL_at, if_pos (by omega)]
  · rw [vpL_ne h1]
    by_cases h2 : j < n
    · rw [if_pos h2, if_pos (by omega)]
    · rw [if_neg h2, if_neg (by omega)]
theorem cpL_in {n j : Nat} {f g : Nat → Int64} (h : j < n) : cpL n f g j = f j := if_pos h
section MBr
variable {X : mC} {h m : Nat} {K : MV → Mem → Prop} {μ : Mem} {Q T B : Bk} {w : Int64} {N : Nat → Int64} {G W : Nat}
theorem c_takeR (hK : K (.inl (Q 0 2)) (sb μ m 21 (u2 Q 0 2 (nI 0)))) : mMet X (h + 1) m_X9_take [.inr (.inr (8, 0, m))] (sb μ m 21 Q) K := by
  (refine vc_met2 P0_ok ok_X9_take cm_X9_take [] 4 t_X9_take_0 (Nat.le_of_ble_eq_true rfl) ?_; simp only [mArg_nil, mArg_I, mArg_L, mArg_A, Nat.reduceAdd])
  simp only [↓w_X9_take_0, ↓b_aload_n, ↓b_getI, ↓b_iconst, ↓b_iload_n, ↓b_iret, ↓n_istore_n, ↓n_putI, ↓ldI_hit, ↓ldI_skip, ↓ldL_hit, ↓ldL_skip, ↓ldA_hit, ↓ldA_skip, ↓ldelK_nil, ↓ldelK_hit, ↓ldelK_skipI, ↓ldelK_skipA, ↓ldelK_skipL, lget_hit, lget_skip, ldel_nil, ldel_hit, ldel_skipI, ldel_skipA, ldel_skipL, ldel2_nil, ldel2_hit, ldel2_hit2, ldel2_skipI, ldel2_skipA, ldel2_skipL, vc_0, mCall_P0, mCat_nil, mCat_I, mCat_L, mCat_A, mRcv_A, mArg_nil, mArg_I, mArg_L, mArg_A, tsg, swt_nil, swt_cons, lkw_nil, lkw_cons, ↓reduceIte, Nat.reduceAdd, Nat.reduceEqDiff, Nat.reduceLeDiff, Nat.reduceMul, true_and, and_true, and_self, List.mem_cons, List.not_mem_nil, or_false, or_self, false_or, true_implies, false_implies, not_true_eq_false, not_false_eq_true, nI00, nI10, nI01, nI11, forall_const, implies_true]
  simp (disch := omega) only [ixq, ixz, sb_in, sb_in0, upI_sb, upI_sb0, sb_out, nI_add, nI_mul, nI_subq, Nat.zero_add, forall_eq, u2_at, u2_row, upd_at, upd_ne, nI0b, nI1b, nI00, nI10, nI01, nI11, true_implies, false_implies, not_true_eq_false, not_false_eq_true, and_true, true_and, implies_true]
  exact hK
theorem c_beginR {L : Nat} {mo : Int32} (hL : L ≤ 940) (hT : T 0 2 = nI L) (hQ : Q 0 2 = nI L) (hj : ∀ j, j < L → Q 1 j = T 1 j) (hk : kwT T) (hK : ∀ Q' w', TK Q' w' (openF mo T) → frB Q Q' → K (.inl 0) (sb (upL μ m 12 w') m 21 Q')) : mMet X (h + 3) m_X9_begin [.inr (.inr (8, 0, m)), .inl mo] (sb (upL μ m 12 w) m 21 Q) K := by
  (refine vc_met2 P0_ok ok_X9_begin cm_X9_begin [] 4 t_X9_begin_0 (Nat.le_of_ble_eq_true rfl) ?_; simp only [mArg_nil, mArg_I, mArg_L, mArg_A, Nat.reduceAdd])
  simp only [↓w_X9_begin_0, ↓b_aload_n, ↓b_callV1_0, ↓b_callV1_1, ↓b_iconst, ↓b_iload_n, ↓n_putI, ↓b_vret, ↓ldI_hit, ↓ldI_skip, ↓ldL_hit, ↓ldL_skip, ↓ldA_hit, ↓ldA_skip, ↓ldelK_nil, ↓ldelK_hit, ↓ldelK_skipI, ↓ldelK_skipA, ↓ldelK_skipL, lget_hit, lget_skip, ldel_nil, ldel_hit, ldel_skipI, ldel_skipA, ldel_skipL, ldel2_nil, ldel2_hit, ldel2_hit2, ldel2_skipI, ldel2_skipA, ldel2_skipL, vc_0, mCall_P0, mCat_nil, mCat_I, mCat_L, mCat_A, mRcv_A, mArg_nil, mArg_I, mArg_L, mArg_A, tsg, swt_nil, swt_cons, lkw_nil, lkw_cons, ↓reduceIte, Nat.reduceAdd, Nat.reduceEqDiff, Nat.reduceLeDiff, Nat.reduceMul, true_and, and_true, and_self, List.mem_cons, List.not_mem_nil, or_false, or_self, false_or, true_implies, false_implies, not_true_eq_false, not_false_eq_true, nI00, nI10, nI01, nI11, forall_const, implies_true]
  simp (disch := omega) only [ixq, ixz, sb_in, sb_in0, upI_sb, upI_sb0, sb_out, nI_add, nI_mul, nI_subq, Nat.zero_add, forall_eq, u2_at, u2_row, upd_at, upd_ne, nI0b, nI1b, nI00, nI10, nI01, nI11, true_implies, false_implies, not_true_eq_false, not_false_eq_true, and_true, true_and, implies_true]
  refine c_takeR ?_
  simp only [↓w_X9_begin_0, ↓b_aload_n, ↓b_callV1_0, ↓b_callV1_1, ↓b_iconst, ↓b_iload_n, ↓n_putI, ↓b_vret, ↓ldI_hit, ↓ldI_skip, ↓ldL_hit, ↓ldL_skip, ↓ldA_hit, ↓ldA_skip, ↓ldelK_nil, ↓ldelK_hit, ↓ldelK_skipI, ↓ldelK_skipA, ↓ldelK_skipL, lget_hit, lget_skip, ldel_nil, ldel_hit, ldel_skipI, ldel_skipA, ldel_skipL, ldel2_nil, ldel2_hit, ldel2_hit2, ldel2_skipI, ldel2_skipA, ldel2_skipL, vc_0, mCall_P0, mCat_nil, mCat_I, mCat_L, mCat_A, mRcv_A, mArg_nil, mArg_I, mArg_L, mArg_A, tsg, swt_nil, swt_cons, lkw_nil, lkw_cons, ↓reduceIte, Nat.reduceAdd, Nat.reduceEqDiff, Nat.reduceLeDiff, Nat.reduceMul, true_and, and_true, and_self, List.mem_cons, List.not_mem_nil, or_false, or_self, false_or, true_implies, false_implies, not_true_eq_false, not_false_eq_true, nI00, nI10, nI01, nI11, forall_const, implies_true]
  simp (disch := omega) only [ixq, ixz, sb_in, sb_in0, upI_sb, upI_sb0, sb_out, nI_add, nI_mul, nI_subq, Nat.zero_add, forall_eq, u2_at, u2_row, upd_at, upd_ne, nI0b, nI1b, nI00, nI10, nI01, nI11, true_implies, false_implies, not_true_eq_false, not_false_eq_true, and_true, true_and, implies_true, hQ]
  refine c_goT (T := u2 (u2 (u2 (u2 (u2 T 0 3 mo) 0 4 (nI 0)) 0 9 (nI 0)) 0 10 (nI 0)) 0 11 (nI 0)) ?_ ?_ (fun Q' w' t' f' => ?_)
  · refine ⟨L, 0, hL, Nat.zero_le L, ?_, ?_, ?_, ?_, ?_, fun j hj2 => ?_⟩ <;> simp (disch := omega) only [u2_at, u2_row, upd_at, upd_ne]
    · exact hT
    · exact hj j hj2
  · intro k hk2
    simp (disch := omega) only [u2_row]
    exact hk k hk2
  · (try simp only [↓w_X9_begin_0, ↓b_aload_n, ↓b_callV1_0, ↓b_callV1_1, ↓b_iconst, ↓b_iload_n, ↓n_putI, ↓b_vret, ↓ldI_hit, ↓ldI_skip, ↓ldL_hit, ↓ldL_skip, ↓ldA_hit, ↓ldA_skip, ↓ldelK_nil, ↓ldelK_hit, ↓ldelK_skipI, ↓ldelK_skipA, ↓ldelK_skipL, lget_hit, lget_skip, ldel_nil, ldel_hit, ldel_skipI, ldel_skipA, ldel_skipL, ldel2_nil, ldel2_hit, ldel2_hit2, ldel2_skipI, ldel2_skipA, ldel2_skipL, vc_0, mCall_P0, mCat_nil, mCat_I, mCat_L, mCat_A, mRcv_A, mArg_nil, mArg_I, mArg_L, mArg_A, tsg, swt_nil, swt_cons, lkw_nil, lkw_cons, ↓reduceIte, Nat.reduceAdd, Nat.reduceEqDiff, Nat.reduceLeDiff, Nat.reduceMul, true_and, and_true, and_self, List.mem_cons, List.not_mem_nil, or_false, or_self, false_or, true_implies, false_implies, not_true_eq_false, not_false_eq_true, nI00, nI10, nI01, nI11, forall_const, implies_true]); (try simp (disch := omega) only [ixq, ixz, sb_in, sb_in0, upI_sb, upI_sb0, sb_out, nI_add, nI_mul, nI_subq, Nat.zero_add, forall_eq, u2_at, u2_row, upd_at, upd_ne, nI0b, nI1b, nI00, nI10, nI01, nI11, true_implies, false_implies, not_true_eq_false, not_false_eq_true, and_true, true_and, implies_true])
    refine hK Q' w' t' ⟨fun k hk => ?_, fun j hj => ?_, ?_, ?_⟩
    · rw [f'.1 k hk]
      simp (disch := omega) only [u2_row]
    · rw [f'.2 j (by omega)]
      simp (disch := omega) only [u2_at, upd_ne]
    · rw [f'.2 2 (by omega)]
      simp (disch := omega) only [u2_at, upd_at, upd_ne]
    · rw [f'.2 10 (by omega)]
      simp (disch := omega) only [u2_at, upd_at, upd_ne]
end MBr
