/-! a TOKEN: letters and digits as far as they go -/
abbrev alnum (x : Int32) : Prop := nI 97 ≤ x ∧ x ≤ nI 122 ∨ nI 48 ≤ x ∧ x ≤ nI 57
abbrev Tk : Type := Nat × Nat × Nat × Int32 × Int32
def rtS (f : Nat → Int32) (s : Tk) : Tk := if nI 97 ≤ f s.1 then (s.1 + 1, s.2.1 + 1, s.2.2.1, s.2.2.2.1 <<< (nI 5 &&& 31) ||| (f s.1 - nI 96), s.2.2.2.2) else (s.1 + 1, s.2.1, s.2.2.1 + 1, s.2.2.2.1, s.2.2.2.2 * nI 10 + f s.1 - nI 48)
def rtF (f : Nat → Int32) : Nat → Tk → Tk
  | 0, s => s
  | n + 1, s => if alnum (f s.1) then rtF f n (rtS f s) else s
theorem rtS_t {f : Nat → Int32} {s : Tk} (h : nI 97 ≤ f s.1) : rtS f s = (s.1 + 1, s.2.1 + 1, s.2.2.1, s.2.2.2.1 <<< (nI 5 &&& 31) ||| (f s.1 - nI 96), s.2.2.2.2) := if_pos h
theorem rtS_f {f : Nat → Int32} {s : Tk} (h : ¬ nI 97 ≤ f s.1) : rtS f s = (s.1 + 1, s.2.1, s.2.2.1 + 1, s.2.2.2.1, s.2.2.2.2 * nI 10 + f s.1 - nI 48) := if_neg h
theorem rtS_b (f : Nat → Int32) (s : Tk) : (rtS f s).1 = s.1 + 1 ∧ (rtS f s).2.1 + (rtS f s).2.2.1 = s.2.1 + s.2.2.1 + 1 := by
  unfold rtS
  split
  · exact ⟨rfl, by show s.2.1 + 1 + s.2.2.1 = _; omega⟩
  · exact ⟨rfl, by show s.2.1 + (s.2.2.1 + 1) = _; omega⟩
theorem rtF_b (f : Nat → Int32) : ∀ n s, s.1 ≤ (rtF f n s).1 ∧ (rtF f n s).1 ≤ s.1 + n ∧ (rtF f n s).2.1 + (rtF f n s).2.2.1 + s.1 = s.2.1 + s.2.2.1 + (rtF f n s).1 := by
  intro n
  induction n with
  | zero => intro s; exact ⟨Nat.le_refl _, Nat.le_refl _, rfl⟩
  | succ n ih =>
    intro s
    unfold rtF
    split
    · have h1 := ih (rtS f s)
      have h2 := rtS_b f s
      omega
    · omega
def tok1 (T : Bk) (j : Nat) (s : Tk) : Bk :=
  if s.2.1 + s.2.2.1 = 0 then u2 (u2 (u2 (u2 (u2 T 0 5 (nI 1)) 0 4 (nI s.1)) 0 5 (nI 4)) 0 7 (T 1 j)) 0 4 (nI (j + 1))
  else if s.2.2.1 = 0 ∧ s.2.1 ≤ 6 then u2 (u2 (u2 (u2 T 0 5 (nI 1)) 0 4 (nI s.1)) 0 5 (nI 2)) 0 7 s.2.2.2.1
  else if s.2.1 = 0 ∧ s.2.2.1 ≤ 3 then u2 (u2 (u2 (u2 T 0 5 (nI 1)) 0 4 (nI s.1)) 0 5 (nI 3)) 0 7 s.2.2.2.2
  else u2 (u2 T 0 5 (nI 1)) 0 4 (nI s.1)
def kwF (w : Int32) (k : Nat) (T : Bk) : Bk := if T 2 k = w then u2 T 0 8 (nI k) else T
def kwsF (w : Int32) (T : Bk) : Bk := if T 0 5 = nI 2 then fo 19 (kwF w) T else T
def tokF (L j : Nat) (T : Bk) : Bk := kwsF (rtF (T 1) (L - j) (j, 0, 0, nI 0, nI 0)).2.2.2.1 (tok1 T j (rtF (T 1) (L - j) (j, 0, 0, nI 0, nI 0)))
theorem kwF_row {w : Int32} {T : Bk} {k : Nat} (hk : k ≠ 0) : ∀ n, fo n (kwF w) T k = T k := by
  intro n
  induction n with
  | zero => rfl
  | succ n ih =>
    rw [fo_s]
    unfold kwF
    split
    · rw [u2_row hk]; exact ih
    · exact ih
theorem kwF_at {w : Int32} {T : Bk} {j : Nat} (hj : j ≠ 8) : ∀ n, fo n (kwF w) T 0 j = T 0 j := by
  intro n
  induction n with
  | zero => rfl
  | succ n ih =>
    rw [fo_s]
    unfold kwF
    split
    · rw [u2_at, upd_ne hj]; exact ih
    · exact ih
section MTk
variable {X : mC} {h t : Nat} {K : MV → Mem → Prop} {μ : Mem} {T : Bk} {L : Nat}
theorem c_readToken {j : Nat} (hL : T 0 2 = nI L) (hL9 : L ≤ 940) (hj : T 0 6 = nI j) (hjL : j < L) (hK : K (.inl 0) (sb μ t 3 (tokF L j T))) : mMet X (h + 1) m_X6_readToken [.inr (.inr (5, 0, t))] (sb μ t 3 T) K := by
  (refine vc_met2 P0_ok ok_X6_readToken cm_X6_readToken [15,132,223,226] 12 t_X6_readToken_0 (Nat.le_of_ble_eq_true rfl) ?_; simp only [mArg_nil, mArg_I, mArg_L, mArg_A, Nat.reduceAdd])
  simp only [↓w_X6_readToken_0, ↓w_X6_readToken_48, ↓w_X6_readToken_72, ↓w_X6_readToken_105, ↓w_X6_readToken_126, ↓w_X6_readToken_132, ↓w_X6_readToken_180, ↓w_X6_readToken_203, ↓w_X6_readToken_223, ↓w_X6_readToken_226, ↓w_X6_readToken_258, ↓w_X6_readToken_264, ↓v_X6_readToken_15, ↓v_X6_readToken_48, ↓v_X6_readToken_72, ↓v_X6_readToken_105, ↓v_X6_readToken_126, ↓v_X6_readToken_132, ↓v_X6_readToken_180, ↓v_X6_readToken_203, ↓v_X6_readToken_223, ↓v_X6_readToken_226, ↓v_X6_readToken_258, ↓v_X6_readToken_264, ↓b_aload_n, ↓b_bipush, ↓b_getA, ↓b_getI, ↓b_goto, ↓b_iadd, ↓b_iaload, ↓b_ic_ge, ↓b_ic_gt, ↓b_ic_le, ↓b_ic_lt, ↓b_ic_ne, ↓b_iconst, ↓b_if_ne, ↓n_iinc, ↓b_iload, ↓b_iload_n, ↓b_imul, ↓b_ior, ↓b_ishl, ↓n_istore, ↓n_istore_n, ↓b_isub, ↓n_putI, ↓b_vret, ↓ldI_hit, ↓ldI_skip, ↓ldL_hit, ↓ldL_skip, ↓ldA_hit, ↓ldA_skip, ↓ldelK_nil, ↓ldelK_hit, ↓ldelK_skipI, ↓ldelK_skipA, ↓ldelK_skipL, lget_hit, lget_skip, ldel_nil, ldel_hit, ldel_skipI, ldel_skipA, ldel_skipL, ldel2_nil, ldel2_hit, ldel2_hit2, ldel2_skipI, ldel2_skipA, ldel2_skipL, vc_0, mCall_P0, mCat_nil, mCat_I, mCat_L, mCat_A, mRcv_A, mArg_nil, mArg_I, mArg_L, mArg_A, tsg, swt_nil, swt_cons, lkw_nil, lkw_cons, ↓reduceIte, Nat.reduceAdd, Nat.reduceEqDiff, Nat.reduceLeDiff, Nat.reduceMul, true_and, and_true, and_self, List.mem_cons, List.not_mem_nil, or_false, or_self, false_or, true_implies, false_implies, not_true_eq_false, not_false_eq_true, nI00, nI10, nI01, nI11, forall_const, implies_true]
  simp (disch := omega) only [ixq, ixz, sb_in, sb_in0, upI_sb, upI_sb0, sb_out, nI_add, nI_mul, nI_subq, Nat.zero_add, forall_eq, u2_at, u2_row, upd_at, upd_ne, nI0b, nI1b, nI00, nI10, nI01, nI11, true_implies, false_implies, not_true_eq_false, not_false_eq_true, and_true, true_and, implies_true, hj]
  unfold tokF at hK
  have hb := rtF_b (T 1) (L - j) (j, 0, 0, nI 0, nI 0)
  generalize hS : rtF (T 1) (L - j) (j, 0, 0, nI 0, nI 0) = S at hK hb
  simp only [Nat.add_zero, Nat.zero_add] at hb
  have kwb : ∀ (n : Nat) (T1 : Bk), K (.inl 0) (sb μ t 3 (kwsF S.2.2.2.1 T1)) → bb X P0 m_X6_readToken (h) K (vc X P0 m_X6_readToken (h) K k_X6_readToken [15,132,223,226] (n + 4)) s_X6_readToken_223 [(5, .inl (nI S.1)), (4, .inl S.2.2.2.2), (3, .inl S.2.2.2.1), (2, .inl (nI S.2.2.1)), (1, .inl (nI S.2.1)), (0, .inr (.inr (5, 0, t)))] [] (sb μ t 3 T1) := by
    intro n T1 hK1
    simp only [↓w_X6_readToken_0, ↓w_X6_readToken_15, ↓w_X6_readToken_48, ↓w_X6_readToken_72, ↓w_X6_readToken_105, ↓w_X6_readToken_126, ↓w_X6_readToken_132, ↓w_X6_readToken_180, ↓w_X6_readToken_203, ↓w_X6_readToken_223, ↓w_X6_readToken_258, ↓w_X6_readToken_264, ↓v_X6_readToken_15, ↓v_X6_readToken_48, ↓v_X6_readToken_72, ↓v_X6_readToken_105, ↓v_X6_readToken_126, ↓v_X6_readToken_132, ↓v_X6_readToken_180, ↓v_X6_readToken_203, ↓v_X6_readToken_223, ↓v_X6_readToken_226, ↓v_X6_readToken_258, ↓v_X6_readToken_264, ↓b_aload_n, ↓b_bipush, ↓b_getA, ↓b_getI, ↓b_goto, ↓b_iadd, ↓b_iaload, ↓b_ic_ge, ↓b_ic_gt, ↓b_ic_le, ↓b_ic_lt, ↓b_ic_ne, ↓b_iconst, ↓b_if_ne, ↓n_iinc, ↓b_iload, ↓b_iload_n, ↓b_imul, ↓b_ior, ↓b_ishl, ↓n_istore, ↓n_istore_n, ↓b_isub, ↓n_putI, ↓b_vret, ↓ldI_hit, ↓ldI_skip, ↓ldL_hit, ↓ldL_skip, ↓ldA_hit, ↓ldA_skip, ↓ldelK_nil, ↓ldelK_hit, ↓ldelK_skipI, ↓ldelK_skipA, ↓ldelK_skipL, lget_hit, lget_skip, ldel_nil, ldel_hit, ldel_skipI, ldel_skipA, ldel_skipL, ldel2_nil, ldel2_hit, ldel2_hit2, ldel2_skipI, ldel2_skipA, ldel2_skipL, vc_0, mCall_P0, mCat_nil, mCat_I, mCat_L, mCat_A, mRcv_A, mArg_nil, mArg_I, mArg_L, mArg_A, tsg, swt_nil, swt_cons, lkw_nil, lkw_cons, ↓reduceIte, Nat.reduceAdd, Nat.reduceEqDiff, Nat.reduceLeDiff, Nat.reduceMul, true_and, and_true, and_self, List.mem_cons, List.not_mem_nil, or_false, or_self, false_or, true_implies, false_implies, not_true_eq_false, not_false_eq_true, nI00, nI10, nI01, nI11, forall_const, implies_true]
    rintro _ rfl
    by_cases h2 : T1 0 5 = nI 2
    · unfold kwsF at hK1
      rw [if_pos h2] at hK1
      refine loop_up (fun k => bb X P0 m_X6_readToken (h) K (vc X P0 m_X6_readToken (h) K k_X6_readToken [15,132,223,226] (n + 4)) s_X6_readToken_226 [(6, .inl (nI k)), (5, .inl (nI S.1)), (4, .inl S.2.2.2.2), (3, .inl S.2.2.2.1), (2, .inl (nI S.2.2.1)), (1, .inl (nI S.2.1)), (0, .inr (.inr (5, 0, t)))] [] (sb μ t 3 (fo k (kwF S.2.2.2.1) T1))) 19 ?_ ?_
      · simp only [↓w_X6_readToken_0, ↓w_X6_readToken_15, ↓w_X6_readToken_48, ↓w_X6_readToken_72, ↓w_X6_readToken_105, ↓w_X6_readToken_126, ↓w_X6_readToken_132, ↓w_X6_readToken_180, ↓w_X6_readToken_203, ↓w_X6_readToken_223, ↓w_X6_readToken_226, ↓w_X6_readToken_258, ↓w_X6_readToken_264, ↓v_X6_readToken_15, ↓v_X6_readToken_48, ↓v_X6_readToken_72, ↓v_X6_readToken_105, ↓v_X6_readToken_126, ↓v_X6_readToken_132, ↓v_X6_readToken_180, ↓v_X6_readToken_203, ↓v_X6_readToken_223, ↓v_X6_readToken_226, ↓v_X6_readToken_258, ↓v_X6_readToken_264, ↓b_aload_n, ↓b_bipush, ↓b_getA, ↓b_getI, ↓b_goto, ↓b_iadd, ↓b_iaload, ↓b_ic_ge, ↓b_ic_gt, ↓b_ic_le, ↓b_ic_lt, ↓b_ic_ne, ↓b_iconst, ↓b_if_ne, ↓n_iinc, ↓b_iload, ↓b_iload_n, ↓b_imul, ↓b_ior, ↓b_ishl, ↓n_istore, ↓n_istore_n, ↓b_isub, ↓n_putI, ↓b_vret, ↓ldI_hit, ↓ldI_skip, ↓ldL_hit, ↓ldL_skip, ↓ldA_hit, ↓ldA_skip, ↓ldelK_nil, ↓ldelK_hit, ↓ldelK_skipI, ↓ldelK_skipA, ↓ldelK_skipL, lget_hit, lget_skip, ldel_nil, ldel_hit, ldel_skipI, ldel_skipA, ldel_skipL, ldel2_nil, ldel2_hit, ldel2_hit2, ldel2_skipI, ldel2_skipA, ldel2_skipL, vc_0, mCall_P0, mCat_nil, mCat_I, mCat_L, mCat_A, mRcv_A, mArg_nil, mArg_I, mArg_L, mArg_A, tsg, swt_nil, swt_cons, lkw_nil, lkw_cons, ↓reduceIte, Nat.reduceAdd, Nat.reduceEqDiff, Nat.reduceLeDiff, Nat.reduceMul, true_and, and_true, and_self, List.mem_cons, List.not_mem_nil, or_false, or_self, false_or, true_implies, false_implies, not_true_eq_false, not_false_eq_true, nI00, nI10, nI01, nI11, forall_const, implies_true]
        simp (disch := omega) only [ixq, ixz, sb_in, sb_in0, upI_sb, upI_sb0, sb_out, nI_add, nI_mul, nI_subq, Nat.zero_add, forall_eq, u2_at, u2_row, upd_at, upd_ne, nI0b, nI1b, nI00, nI10, nI01, nI11, true_implies, false_implies, not_true_eq_false, not_false_eq_true, and_true, true_and, implies_true, nI_lq]
        exact ⟨fun _ => hK1, fun hc => absurd (Nat.le_refl 19) hc⟩
      · intro k hk ih
        rw [fo_s] at ih
        have e5 : fo k (kwF S.2.2.2.1) T1 0 5 = nI 2 := (kwF_at (by decide) k).trans h2
        generalize fo k (kwF S.2.2.2.1) T1 = T2 at ih e5 ⊢
        simp only [↓w_X6_readToken_0, ↓w_X6_readToken_15, ↓w_X6_readToken_48, ↓w_X6_readToken_72, ↓w_X6_readToken_105, ↓w_X6_readToken_126, ↓w_X6_readToken_132, ↓w_X6_readToken_180, ↓w_X6_readToken_203, ↓w_X6_readToken_223, ↓w_X6_readToken_226, ↓w_X6_readToken_258, ↓w_X6_readToken_264, ↓v_X6_readToken_15, ↓v_X6_readToken_48, ↓v_X6_readToken_72, ↓v_X6_readToken_105, ↓v_X6_readToken_126, ↓v_X6_readToken_132, ↓v_X6_readToken_180, ↓v_X6_readToken_203, ↓v_X6_readToken_223, ↓v_X6_readToken_226, ↓v_X6_readToken_258, ↓v_X6_readToken_264, ↓b_aload_n, ↓b_bipush, ↓b_getA, ↓b_getI, ↓b_goto, ↓b_iadd, ↓b_iaload, ↓b_ic_ge, ↓b_ic_gt, ↓b_ic_le, ↓b_ic_lt, ↓b_ic_ne, ↓b_iconst, ↓b_if_ne, ↓n_iinc, ↓b_iload, ↓b_iload_n, ↓b_imul, ↓b_ior, ↓b_ishl, ↓n_istore, ↓n_istore_n, ↓b_isub, ↓n_putI, ↓b_vret, ↓ldI_hit, ↓ldI_skip, ↓ldL_hit, ↓ldL_skip, ↓ldA_hit, ↓ldA_skip, ↓ldelK_nil, ↓ldelK_hit, ↓ldelK_skipI, ↓ldelK_skipA, ↓ldelK_skipL, lget_hit, lget_skip, ldel_nil, ldel_hit, ldel_skipI, ldel_skipA, ldel_skipL, ldel2_nil, ldel2_hit, ldel2_hit2, ldel2_skipI, ldel2_skipA, ldel2_skipL, vc_0, mCall_P0, mCat_nil, mCat_I, mCat_L, mCat_A, mRcv_A, mArg_nil, mArg_I, mArg_L, mArg_A, tsg, swt_nil, swt_cons, lkw_nil, lkw_cons, ↓reduceIte, Nat.reduceAdd, Nat.reduceEqDiff, Nat.reduceLeDiff, Nat.reduceMul, true_and, and_true, and_self, List.mem_cons, List.not_mem_nil, or_false, or_self, false_or, true_implies, false_implies, not_true_eq_false, not_false_eq_true, nI00, nI10, nI01, nI11, forall_const, implies_true]
        simp (disch := omega) only [ixq, ixz, sb_in, sb_in0, upI_sb, upI_sb0, sb_out, nI_add, nI_mul, nI_subq, Nat.zero_add, forall_eq, u2_at, u2_row, upd_at, upd_ne, nI0b, nI1b, nI00, nI10, nI01, nI11, true_implies, false_implies, not_true_eq_false, not_false_eq_true, and_true, true_and, implies_true, nI_lq, e5]
        refine ⟨fun hc => absurd hc (by omega), fun _ => ⟨fun hc => ?_, fun hc => ?_⟩⟩
        · have e : kwF S.2.2.2.1 k T2 = T2 := if_neg hc
          rw [e] at ih
          exact vc_back P0_ok ok_X6_readToken [15,132,223,226] (n + 4) t_X6_readToken_226 (ih) (by simp) (rfl)
        · have e : kwF S.2.2.2.1 k T2 = u2 T2 0 8 (nI k) := if_pos hc
          rw [e] at ih
          exact vc_back P0_ok ok_X6_readToken [15,132,223,226] (n + 4) t_X6_readToken_226 (ih) (by simp) (rfl)
    · unfold kwsF at hK1
      rw [if_neg h2] at hK1
      simp only [↓w_X6_readToken_0, ↓w_X6_readToken_15, ↓w_X6_readToken_48, ↓w_X6_readToken_72, ↓w_X6_readToken_105, ↓w_X6_readToken_126, ↓w_X6_readToken_132, ↓w_X6_readToken_180, ↓w_X6_readToken_203, ↓w_X6_readToken_223, ↓w_X6_readToken_226, ↓w_X6_readToken_258, ↓w_X6_readToken_264, ↓v_X6_readToken_15, ↓v_X6_readToken_48, ↓v_X6_readToken_72, ↓v_X6_readToken_105, ↓v_X6_readToken_126, ↓v_X6_readToken_132, ↓v_X6_readToken_180, ↓v_X6_readToken_203, ↓v_X6_readToken_223, ↓v_X6_readToken_226, ↓v_X6_readToken_258, ↓v_X6_readToken_264, ↓b_aload_n, ↓b_bipush, ↓b_getA, ↓b_getI, ↓b_goto, ↓b_iadd, ↓b_iaload, ↓b_ic_ge, ↓b_ic_gt, ↓b_ic_le, ↓b_ic_lt, ↓b_ic_ne, ↓b_iconst, ↓b_if_ne, ↓n_iinc, ↓b_iload, ↓b_iload_n, ↓b_imul, ↓b_ior, ↓b_ishl, ↓n_istore, ↓n_istore_n, ↓b_isub, ↓n_putI, ↓b_vret, ↓ldI_hit, ↓ldI_skip, ↓ldL_hit, ↓ldL_skip, ↓ldA_hit, ↓ldA_skip, ↓ldelK_nil, ↓ldelK_hit, ↓ldelK_skipI, ↓ldelK_skipA, ↓ldelK_skipL, lget_hit, lget_skip, ldel_nil, ldel_hit, ldel_skipI, ldel_skipA, ldel_skipL, ldel2_nil, ldel2_hit, ldel2_hit2, ldel2_skipI, ldel2_skipA, ldel2_skipL, vc_0, mCall_P0, mCat_nil, mCat_I, mCat_L, mCat_A, mRcv_A, mArg_nil, mArg_I, mArg_L, mArg_A, tsg, swt_nil, swt_cons, lkw_nil, lkw_cons, ↓reduceIte, Nat.reduceAdd, Nat.reduceEqDiff, Nat.reduceLeDiff, Nat.reduceMul, true_and, and_true, and_self, List.mem_cons, List.not_mem_nil, or_false, or_self, false_or, true_implies, false_implies, not_true_eq_false, not_false_eq_true, nI00, nI10, nI01, nI11, forall_const, implies_true]
      simp (disch := omega) only [ixq, ixz, sb_in, sb_in0, upI_sb, upI_sb0, sb_out, nI_add, nI_mul, nI_subq, Nat.zero_add, forall_eq, u2_at, u2_row, upd_at, upd_ne, nI0b, nI1b, nI00, nI10, nI01, nI11, true_implies, false_implies, not_true_eq_false, not_false_eq_true, and_true, true_and, implies_true, nI_lq]
      exact ⟨fun _ => hK1, fun _ => ⟨fun _ => hK1, fun hc => absurd hc h2⟩⟩
  have kw : ∀ T1 : Bk, K (.inl 0) (sb μ t 3 (kwsF S.2.2.2.1 T1)) → mAt X m_X6_readToken (h) K 223 [(5, .inl (nI S.1)), (4, .inl S.2.2.2.2), (3, .inl S.2.2.2.1), (2, .inl (nI S.2.2.1)), (1, .inl (nI S.2.1)), (0, .inr (.inr (5, 0, t)))] [] (sb μ t 3 T1) := by
    intro T1 hK1
    (refine vc_from P0_ok ok_X6_readToken [15,132,223,226] 12 ?_; rw [t_X6_readToken_223])
    exact kwb 8 T1 hK1
  have fin : mAt X m_X6_readToken (h) K 132 [(5, .inl (nI S.1)), (4, .inl S.2.2.2.2), (3, .inl S.2.2.2.1), (2, .inl (nI S.2.2.1)), (1, .inl (nI S.2.1)), (0, .inr (.inr (5, 0, t)))] [] (sb μ t 3 T) := by
    have kq := kw (tok1 T j S) hK
    have kb := fun n => kwb n (tok1 T j S) hK
    (refine vc_from P0_ok ok_X6_readToken [15,132,223,226] 12 ?_; rw [t_X6_readToken_132])
    simp only [↓w_X6_readToken_0, ↓w_X6_readToken_15, ↓w_X6_readToken_48, ↓w_X6_readToken_72, ↓w_X6_readToken_105, ↓w_X6_readToken_126, ↓w_X6_readToken_132, ↓w_X6_readToken_180, ↓w_X6_readToken_203, ↓w_X6_readToken_226, ↓w_X6_readToken_258, ↓w_X6_readToken_264, ↓v_X6_readToken_15, ↓v_X6_readToken_48, ↓v_X6_readToken_72, ↓v_X6_readToken_105, ↓v_X6_readToken_126, ↓v_X6_readToken_132, ↓v_X6_readToken_180, ↓v_X6_readToken_203, ↓v_X6_readToken_223, ↓v_X6_readToken_226, ↓v_X6_readToken_258, ↓v_X6_readToken_264, ↓b_aload_n, ↓b_bipush, ↓b_getA, ↓b_getI, ↓b_goto, ↓b_iadd, ↓b_iaload, ↓b_ic_ge, ↓b_ic_gt, ↓b_ic_le, ↓b_ic_lt, ↓b_ic_ne, ↓b_iconst, ↓b_if_ne, ↓n_iinc, ↓b_iload, ↓b_iload_n, ↓b_imul, ↓b_ior, ↓b_ishl, ↓n_istore, ↓n_istore_n, ↓b_isub, ↓n_putI, ↓b_vret, ↓ldI_hit, ↓ldI_skip, ↓ldL_hit, ↓ldL_skip, ↓ldA_hit, ↓ldA_skip, ↓ldelK_nil, ↓ldelK_hit, ↓ldelK_skipI, ↓ldelK_skipA, ↓ldelK_skipL, lget_hit, lget_skip, ldel_nil, ldel_hit, ldel_skipI, ldel_skipA, ldel_skipL, ldel2_nil, ldel2_hit, ldel2_hit2, ldel2_skipI, ldel2_skipA, ldel2_skipL, vc_0, mCall_P0, mCat_nil, mCat_I, mCat_L, mCat_A, mRcv_A, mArg_nil, mArg_I, mArg_L, mArg_A, tsg, swt_nil, swt_cons, lkw_nil, lkw_cons, ↓reduceIte, Nat.reduceAdd, Nat.reduceEqDiff, Nat.reduceLeDiff, Nat.reduceMul, true_and, and_true, and_self, List.mem_cons, List.not_mem_nil, or_false, or_self, false_or, true_implies, false_implies, not_true_eq_false, not_false_eq_true, nI00, nI10, nI01, nI11, forall_const, implies_true]
    simp (disch := omega) only [ixq, ixz, sb_in, sb_in0, upI_sb, upI_sb0, sb_out, nI_add, nI_mul, nI_subq, Nat.zero_add, forall_eq, u2_at, u2_row, upd_at, upd_ne, nI0b, nI1b, nI00, nI10, nI01, nI11, true_implies, false_implies, not_true_eq_false, not_false_eq_true, and_true, true_and, implies_true, nI_lq, nI_ltq, nI_ez, hj]
    unfold tok1 at kq kb
    refine ⟨fun hc => ?_, fun hc => ?_⟩
    · rw [if_neg hc] at kq
      simp only [if_neg hc] at kb
      refine ⟨fun h2 => ?_, fun h2 => ⟨fun h3 => ?_, fun h3 => ?_⟩⟩
      · rw [if_neg (fun z => h2 z.1)] at kq
        simp only [if_neg (fun z : S.2.2.1 = 0 ∧ S.2.1 ≤ 6 => h2 z.1)] at kb
        refine ⟨fun h4 => ?_, fun h4 => ⟨fun h5 => ?_, fun h5 => ?_⟩⟩
        · rw [if_neg (fun z => h4 z.1)] at kq
          exact kq
        · rw [if_neg (fun z => absurd z.2 (by omega))] at kq
          exact kq
        · simp only [if_pos (show S.2.1 = 0 ∧ S.2.2.1 ≤ 3 from ⟨h4, by omega⟩)] at kb
          exact kb _
      · rw [if_neg (fun z => absurd z.2 (by omega))] at kq
        simp only [if_neg (fun z : S.2.2.1 = 0 ∧ S.2.1 ≤ 6 => absurd z.2 (by omega))] at kb
        refine ⟨fun h4 => ?_, fun h4 => ⟨fun h5 => ?_, fun h5 => ?_⟩⟩
        · rw [if_neg (fun z => h4 z.1)] at kq
          exact kq
        · rw [if_neg (fun z => absurd z.2 (by omega))] at kq
          exact kq
        · simp only [if_pos (show S.2.1 = 0 ∧ S.2.2.1 ≤ 3 from ⟨h4, by omega⟩)] at kb
          exact kb _
      · rw [if_pos ⟨h2, by omega⟩] at kq
        exact kq
    · rw [if_pos hc] at kq
      exact kq
  have main : ∀ n (s : Tk), s.1 + n = L → s.2.1 + s.2.2.1 ≤ s.1 → rtF (T 1) n s = S → bb X P0 m_X6_readToken (h) K (vc X P0 m_X6_readToken (h) K k_X6_readToken [15,132,223,226] 12) s_X6_readToken_15 [(5, .inl (nI s.1)), (4, .inl s.2.2.2.2), (3, .inl s.2.2.2.1), (2, .inl (nI s.2.2.1)), (1, .inl (nI s.2.1)), (0, .inr (.inr (5, 0, t)))] [] (sb μ t 3 T) := by
    intro n
    induction n with
    | zero =>
      intro s hs hs2 he
      have he2 : s = S := he
      subst he2
      simp only [↓w_X6_readToken_0, ↓w_X6_readToken_15, ↓w_X6_readToken_48, ↓w_X6_readToken_72, ↓w_X6_readToken_105, ↓w_X6_readToken_126, ↓w_X6_readToken_132, ↓w_X6_readToken_180, ↓w_X6_readToken_203, ↓w_X6_readToken_223, ↓w_X6_readToken_226, ↓w_X6_readToken_258, ↓w_X6_readToken_264, ↓v_X6_readToken_15, ↓v_X6_readToken_48, ↓v_X6_readToken_72, ↓v_X6_readToken_105, ↓v_X6_readToken_126, ↓v_X6_readToken_132, ↓v_X6_readToken_180, ↓v_X6_readToken_203, ↓v_X6_readToken_223, ↓v_X6_readToken_226, ↓v_X6_readToken_258, ↓v_X6_readToken_264, ↓b_aload_n, ↓b_bipush, ↓b_getA, ↓b_getI, ↓b_goto, ↓b_iadd, ↓b_iaload, ↓b_ic_ge, ↓b_ic_gt, ↓b_ic_le, ↓b_ic_lt, ↓b_ic_ne, ↓b_iconst, ↓b_if_ne, ↓n_iinc, ↓b_iload, ↓b_iload_n, ↓b_imul, ↓b_ior, ↓b_ishl, ↓n_istore, ↓n_istore_n, ↓b_isub, ↓n_putI, ↓b_vret, ↓ldI_hit, ↓ldI_skip, ↓ldL_hit, ↓ldL_skip, ↓ldA_hit, ↓ldA_skip, ↓ldelK_nil, ↓ldelK_hit, ↓ldelK_skipI, ↓ldelK_skipA, ↓ldelK_skipL, lget_hit, lget_skip, ldel_nil, ldel_hit, ldel_skipI, ldel_skipA, ldel_skipL, ldel2_nil, ldel2_hit, ldel2_hit2, ldel2_skipI, ldel2_skipA, ldel2_skipL, vc_0, mCall_P0, mCat_nil, mCat_I, mCat_L, mCat_A, mRcv_A, mArg_nil, mArg_I, mArg_L, mArg_A, tsg, swt_nil, swt_cons, lkw_nil, lkw_cons, ↓reduceIte, Nat.reduceAdd, Nat.reduceEqDiff, Nat.reduceLeDiff, Nat.reduceMul, true_and, and_true, and_self, List.mem_cons, List.not_mem_nil, or_false, or_self, false_or, true_implies, false_implies, not_true_eq_false, not_false_eq_true, nI00, nI10, nI01, nI11, forall_const, implies_true]
      simp (disch := omega) only [ixq, ixz, sb_in, sb_in0, upI_sb, upI_sb0, sb_out, nI_add, nI_mul, nI_subq, Nat.zero_add, forall_eq, u2_at, u2_row, upd_at, upd_ne, nI0b, nI1b, nI00, nI10, nI01, nI11, true_implies, false_implies, not_true_eq_false, not_false_eq_true, and_true, true_and, implies_true, hL, nI_lq]
      exact ⟨fun _ => fin, fun hc => absurd hc (by omega)⟩
    | succ n ih =>
      intro s hs hs2 he
      have stop : ¬ alnum (T 1 s.1) → mAt X m_X6_readToken (h) K 132 [(5, .inl (nI s.1)), (4, .inl s.2.2.2.2), (3, .inl s.2.2.2.1), (2, .inl (nI s.2.2.1)), (1, .inl (nI s.2.1)), (0, .inr (.inr (5, 0, t)))] [] (sb μ t 3 T) := by
        intro hn
        have he2 : s = S := by
          rw [← he]
          exact (if_neg hn).symm
        rw [he2]
        exact fin
      have go : alnum (T 1 s.1) → rtF (T 1) n (rtS (T 1) s) = S := fun hy => by
        rw [← he]
        exact (if_pos hy).symm
      have b := rtS_b (T 1) s
      have ih2 := fun hy => ih (rtS (T 1) s) (by omega) (by omega) (go hy)
      have bt : nI 97 ≤ T 1 s.1 → alnum (T 1 s.1) → mAt X m_X6_readToken (h) K 15 [(5, .inl (nI s.1 + nI 1)), (1, .inl (nI s.2.1 + nI 1)), (3, .inl (s.2.2.2.1 <<< (nI 5 &&& 31) ||| (T 1 s.1 - nI 96))), (4, .inl s.2.2.2.2), (2, .inl (nI s.2.2.1)), (0, .inr (.inr (5, 0, t)))] [] (sb μ t 3 T) := by
        intro h1 h2
        have i3 := ih2 h2
        rw [rtS_t h1] at i3
        exact vc_back P0_ok ok_X6_readToken [15,132,223,226] 12 t_X6_readToken_15 (i3) (by simp [nI_add]) (rfl)
      have bf : ¬ nI 97 ≤ T 1 s.1 → alnum (T 1 s.1) → mAt X m_X6_readToken (h) K 15 [(5, .inl (nI s.1 + nI 1)), (2, .inl (nI s.2.2.1 + nI 1)), (4, .inl (s.2.2.2.2 * nI 10 + T 1 s.1 - nI 48)), (3, .inl s.2.2.2.1), (1, .inl (nI s.2.1)), (0, .inr (.inr (5, 0, t)))] [] (sb μ t 3 T) := by
        intro h1 h2
        have i3 := ih2 h2
        rw [rtS_f h1] at i3
        exact vc_back P0_ok ok_X6_readToken [15,132,223,226] 12 t_X6_readToken_15 (i3) (by simp [nI_add]) (rfl)
      simp only [↓w_X6_readToken_0, ↓w_X6_readToken_15, ↓w_X6_readToken_48, ↓w_X6_readToken_72, ↓w_X6_readToken_105, ↓w_X6_readToken_126, ↓w_X6_readToken_132, ↓w_X6_readToken_180, ↓w_X6_readToken_203, ↓w_X6_readToken_223, ↓w_X6_readToken_226, ↓w_X6_readToken_258, ↓w_X6_readToken_264, ↓v_X6_readToken_15, ↓v_X6_readToken_48, ↓v_X6_readToken_72, ↓v_X6_readToken_105, ↓v_X6_readToken_126, ↓v_X6_readToken_132, ↓v_X6_readToken_180, ↓v_X6_readToken_203, ↓v_X6_readToken_223, ↓v_X6_readToken_226, ↓v_X6_readToken_258, ↓v_X6_readToken_264, ↓b_aload_n, ↓b_bipush, ↓b_getA, ↓b_getI, ↓b_goto, ↓b_iadd, ↓b_iaload, ↓b_ic_ge, ↓b_ic_gt, ↓b_ic_le, ↓b_ic_lt, ↓b_ic_ne, ↓b_iconst, ↓b_if_ne, ↓n_iinc, ↓b_iload, ↓b_iload_n, ↓b_imul, ↓b_ior, ↓b_ishl, ↓n_istore, ↓n_istore_n, ↓b_isub, ↓n_putI, ↓b_vret, ↓ldI_hit, ↓ldI_skip, ↓ldL_hit, ↓ldL_skip, ↓ldA_hit, ↓ldA_skip, ↓ldelK_nil, ↓ldelK_hit, ↓ldelK_skipI, ↓ldelK_skipA, ↓ldelK_skipL, lget_hit, lget_skip, ldel_nil, ldel_hit, ldel_skipI, ldel_skipA, ldel_skipL, ldel2_nil, ldel2_hit, ldel2_hit2, ldel2_skipI, ldel2_skipA, ldel2_skipL, vc_0, mCall_P0, mCat_nil, mCat_I, mCat_L, mCat_A, mRcv_A, mArg_nil, mArg_I, mArg_L, mArg_A, tsg, swt_nil, swt_cons, lkw_nil, lkw_cons, ↓reduceIte, Nat.reduceAdd, Nat.reduceEqDiff, Nat.reduceLeDiff, Nat.reduceMul, true_and, and_true, and_self, List.mem_cons, List.not_mem_nil, or_false, or_self, false_or, true_implies, false_implies, not_true_eq_false, not_false_eq_true, nI00, nI10, nI01, nI11, forall_const, implies_true]
      simp (disch := omega) only [ixq, ixz, sb_in, sb_in0, upI_sb, upI_sb0, sb_out, nI_mul, nI_subq, Nat.zero_add, forall_eq, u2_at, u2_row, upd_at, upd_ne, nI0b, nI1b, nI00, nI10, nI01, nI11, true_implies, false_implies, not_true_eq_false, not_false_eq_true, and_true, true_and, implies_true, hL, nI_lq]
      have both := fun (ha : alnum (T 1 s.1)) => And.intro (fun (h1 : T 1 s.1 < nI 97) => bf (Int32.not_le.mpr h1) ha) (fun (h1 : ¬ T 1 s.1 < nI 97) => bt (Int32.not_lt.mp h1) ha)
      have low := fun (hn : ¬ (nI 97 ≤ T 1 s.1 ∧ T 1 s.1 ≤ nI 122)) => And.intro (fun (h1 : T 1 s.1 < nI 48) => stop (fun z => z.elim hn (fun q => absurd q.1 (Int32.not_le.mpr h1)))) (fun (h1 : ¬ T 1 s.1 < nI 48) => And.intro (fun (h2 : nI 57 < T 1 s.1) => stop (fun z => z.elim hn (fun q => absurd q.2 (Int32.not_le.mpr h2)))) (fun (h2 : ¬ nI 57 < T 1 s.1) => both (Or.inr ⟨Int32.not_lt.mp h1, Int32.not_lt.mp h2⟩)))
      exact ⟨fun hc => absurd hc (by omega), fun _ => ⟨fun h1 => low (fun z => absurd z.1 (Int32.not_le.mpr h1)), fun h1 => ⟨fun h2 => both (Or.inl ⟨Int32.not_lt.mp h1, h2⟩), fun h2 => low (fun z => h2 z.2)⟩⟩⟩
  exact main (L - j) (j, 0, 0, nI 0, nI 0) (by show j + (L - j) = L; omega) (by show 0 + 0 ≤ j; omega) hS
end MTk
