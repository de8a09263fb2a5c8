/-- STEADY: what comes of good g to work w, if just the works of the set go -/
def stepS (B : Bk) (set : Int32) (w g : Nat) (v : Int32) : Int32 :=
  if set >>> (nI w &&& 31) &&& nI 1 = nI 1 then (if v + B 11 (w * 6 + g) + (B 10 (w * 6 + g) - B 7 (w * 6 + g)) - B 3 g < nI 0 then nI 0 else v + B 11 (w * 6 + g) + (B 10 (w * 6 + g) - B 7 (w * 6 + g)) - B 3 g)
  else (if v + B 11 (w * 6 + g) - B 3 g < nI 0 then nI 0 else v + B 11 (w * 6 + g) - B 3 g)
def vS (B : Bk) (set : Int32) (g : Nat) : Nat → Int32
  | 0 => nI 0
  | w + 1 => stepS B set w g (vS B set g w)
def okS (B : Bk) (set : Int32) (w g : Nat) : Prop := set >>> (nI w &&& 31) &&& nI 1 = nI 1 → B 7 (w * 6 + g) ≤ vS B set g w + B 11 (w * 6 + g)
def steadyP (G W : Nat) (B : Bk) (set : Int32) : Prop := ∀ w, w < W → ∀ g, g < G → okS B set w g
def rowS (G : Nat) (B : Bk) (set : Int32) (w g0 : Nat) (f0 : Nat → Int32) : Nat → Int32 := fun j => if j < G then (if j < g0 then vS B set j (w + 1) else vS B set j w) else f0 j
theorem rowS_at {G : Nat} {B : Bk} {set : Int32} {w g : Nat} {f0 : Nat → Int32} (hg : g < G) : rowS G B set w g f0 g = vS B set g w := by
  unfold rowS
  rw [if_pos hg, if_neg (Nat.lt_irrefl g)]
theorem rowS_s {G : Nat} {B : Bk} {set : Int32} {w g : Nat} {f0 : Nat → Int32} (hg : g < G) : upd (rowS G B set w g f0) g (stepS B set w g (vS B set g w)) = rowS G B set w (g + 1) f0 := by
  funext j
  unfold upd rowS
  by_cases h1 : j = g
  · rw [if_pos h1, h1, if_pos hg, if_pos (by omega)]
    rfl
  · rw [if_neg h1]
    by_cases h2 : j < g
    · rw [if_pos h2, if_pos (show j < g + 1 by omega)]
    · rw [if_neg h2, if_neg (show ¬ j < g + 1 by omega)]
theorem rowS_w {G : Nat} {B : Bk} {set : Int32} {w : Nat} {f0 : Nat → Int32} : rowS G B set w G f0 = rowS G B set (w + 1) 0 f0 := by
  funext j
  unfold rowS
  by_cases h : j < G
  · rw [if_pos h, if_pos h, if_pos h, if_neg (Nat.not_lt_zero j)]
  · rw [if_neg h, if_neg h]
theorem u2_up {R : Bk} {k g : Nat} {f : Nat → Int32} {x : Int32} : u2 (va_up R k f) k g x = va_up R k (upd f g x) := by
  unfold u2
  rw [up_at]
  funext j
  by_cases hj : j = k
  · rw [hj, up_at, up_at]
  · rw [up_off j hj, up_off j hj, up_off j hj]
theorem upd_upd {f : Nat → Int32} {g : Nat} {x y : Int32} : upd (upd f g x) g y = upd f g y := by
  funext j
  unfold upd
  by_cases h : j = g
  · rw [if_pos h, if_pos h]
  · rw [if_neg h, if_neg h, if_neg h]
section MS1
variable {X : mC} {h r b : Nat} {K : MV → Mem → Prop} {μ : Mem} {R : Bk} {G W : Nat}
theorem c_isSteady {B : Bk} {set : Int32} (hB : ∀ k, k < 12 → μ.1 (b + k) = B k) (hG : B 0 0 = nI G) (hG6 : G ≤ 6) (hW : B 0 1 = nI W) (hW8 : W ≤ 8) (hd : b + 12 ≤ r ∨ r + 12 ≤ b) (hT : steadyP G W B set → ∀ f, K (.inl (nI 1)) (sb μ r 12 (va_up R 5 f))) (hF : ¬ steadyP G W B set → ∀ f, K (.inl (nI 0)) (sb μ r 12 (va_up R 5 f))) : mMet X (h + 2) m_X4_isSteady [.inr (.inr (3, 0, r)), .inr (.inr (0, 0, b)), .inl set] (sb μ r 12 R) K := by
  have hB0 : μ.1 b = B 0 := hB 0 (by omega)
  refine vc_met2 P0_ok ok_X4_isSteady cm_X4_isSteady [10,37,153] 8 t_X4_isSteady_0 (Nat.le_of_ble_eq_true rfl) ?_
  simp only [mArg_nil, mArg_I, mArg_L, mArg_A, Nat.reduceAdd]
  simp only [↓w_X4_isSteady_0, ↓w_X4_isSteady_31, ↓w_X4_isSteady_32, ↓w_X4_isSteady_37, ↓w_X4_isSteady_96, ↓w_X4_isSteady_121, ↓w_X4_isSteady_153, ↓w_X4_isSteady_159, ↓v_X4_isSteady_10, ↓v_X4_isSteady_31, ↓v_X4_isSteady_32, ↓v_X4_isSteady_37, ↓v_X4_isSteady_96, ↓v_X4_isSteady_121, ↓v_X4_isSteady_153, ↓v_X4_isSteady_159, ↓b_aload_n, ↓b_bipush, ↓b_callS2_0, ↓b_dup2, ↓b_getA, ↓b_getI, ↓b_goto, ↓b_iadd, ↓b_iaload, ↓b_iand, ↓n_iastore, ↓b_ic_ge, ↓b_ic_ne, ↓b_iconst, ↓b_if_eq, ↓n_iinc, ↓b_iload, ↓b_iload_n, ↓b_imul, ↓b_ishr, ↓n_istore, ↓n_istore_n, ↓b_isub, ↓b_max, ↓b_zret, ↓ldI_hit, ↓ldI_skip, ↓ldL_hit, ↓ldL_skip, ↓ldA_hit, ↓ldA_skip, ↓ldelK_nil, ↓ldelK_hit, ↓ldelK_skipI, ↓ldelK_skipA, ↓ldelK_skipL, lget_hit, lget_skip, ldel_nil, ldel_hit, ldel_skipI, ldel_skipA, ldel_skipL, ldel2_nil, ldel2_hit, ldel2_hit2, ldel2_skipI, ldel2_skipA, ldel2_skipL, vc_0, mCall_P0, mCat_nil, mCat_I, mCat_L, mCat_A, mRcv_A, mArg_nil, mArg_I, mArg_L, mArg_A, tsg, swt_nil, swt_cons, lkw_nil, lkw_cons, ↓reduceIte, Nat.reduceAdd, Nat.reduceEqDiff, Nat.reduceLeDiff, Nat.reduceMul, true_and, and_true, and_self, List.mem_cons, List.not_mem_nil, or_false, or_self, false_or, true_implies, false_implies, not_true_eq_false, not_false_eq_true, nI00, nI10, nI01, nI11, forall_const, implies_true]
  refine c_fill (by omega) ?_
  simp (disch := omega) only [ixq, ixz, sb_in, sb_in0, upI_sb, upI_sb0, sb_out, nI_add, nI_mul, nI_subq, Nat.zero_add, forall_eq, u2_at, u2_row, upd_at, upd_ne, nI0b, nI1b, nI00, nI10, nI01, nI11, true_implies, false_implies, not_true_eq_false, not_false_eq_true, and_true, true_and, implies_true, cp_sb]
  have e0 : fillR 6 (nI 0) (R 5) = rowS G B set 0 0 (fillR 6 (nI 0) (R 5)) := by
    funext j
    unfold rowS
    by_cases hj : j < G
    · rw [if_pos hj, if_neg (Nat.not_lt_zero j)]
      exact if_pos (by omega)
    · rw [if_neg hj]
  rw [e0]
  generalize fillR 6 (nI 0) (R 5) = f0
  refine loop_up (fun w => (∀ w', w' < w → ∀ g, g < G → okS B set w' g) → bb X P0 m_X4_isSteady (h + 1) K (vc X P0 m_X4_isSteady (h + 1) K k_X4_isSteady [10,37,153] 8) s_X4_isSteady_10 [(3, .inl (nI w)), (0, .inr (.inr (3, 0, r))), (1, .inr (.inr (0, 0, b))), (2, .inl set)] [] (sb μ r 12 (va_up R 5 (rowS G B set w 0 f0)))) W ?_ ?_ (fun w' hw' => absurd hw' (Nat.not_lt_zero w'))
  · intro hok
    simp only [↓w_X4_isSteady_0, ↓w_X4_isSteady_10, ↓w_X4_isSteady_31, ↓w_X4_isSteady_32, ↓w_X4_isSteady_37, ↓w_X4_isSteady_96, ↓w_X4_isSteady_121, ↓w_X4_isSteady_153, ↓w_X4_isSteady_159, ↓v_X4_isSteady_10, ↓v_X4_isSteady_31, ↓v_X4_isSteady_32, ↓v_X4_isSteady_37, ↓v_X4_isSteady_96, ↓v_X4_isSteady_121, ↓v_X4_isSteady_153, ↓v_X4_isSteady_159, ↓b_aload_n, ↓b_bipush, ↓b_callS2_0, ↓b_dup2, ↓b_getA, ↓b_getI, ↓b_goto, ↓b_iadd, ↓b_iaload, ↓b_iand, ↓n_iastore, ↓b_ic_ge, ↓b_ic_ne, ↓b_iconst, ↓b_if_eq, ↓n_iinc, ↓b_iload, ↓b_iload_n, ↓b_imul, ↓b_ishr, ↓n_istore, ↓n_istore_n, ↓b_isub, ↓b_max, ↓b_zret, ↓ldI_hit, ↓ldI_skip, ↓ldL_hit, ↓ldL_skip, ↓ldA_hit, ↓ldA_skip, ↓ldelK_nil, ↓ldelK_hit, ↓ldelK_skipI, ↓ldelK_skipA, ↓ldelK_skipL, lget_hit, lget_skip, ldel_nil, ldel_hit, ldel_skipI, ldel_skipA, ldel_skipL, ldel2_nil, ldel2_hit, ldel2_hit2, ldel2_skipI, ldel2_skipA, ldel2_skipL, vc_0, mCall_P0, mCat_nil, mCat_I, mCat_L, mCat_A, mRcv_A, mArg_nil, mArg_I, mArg_L, mArg_A, tsg, swt_nil, swt_cons, lkw_nil, lkw_cons, ↓reduceIte, Nat.reduceAdd, Nat.reduceEqDiff, Nat.reduceLeDiff, Nat.reduceMul, true_and, and_true, and_self, List.mem_cons, List.not_mem_nil, or_false, or_self, false_or, true_implies, false_implies, not_true_eq_false, not_false_eq_true, nI00, nI10, nI01, nI11, forall_const, implies_true]
    simp (disch := omega) only [ixq, ixz, sb_in, sb_in0, upI_sb, upI_sb0, sb_out, nI_add, nI_mul, nI_subq, Nat.zero_add, forall_eq, u2_at, u2_row, upd_at, upd_ne, nI0b, nI1b, nI00, nI10, nI01, nI11, true_implies, false_implies, not_true_eq_false, not_false_eq_true, and_true, true_and, implies_true, hB, hB0, hW, nI_lq]
    exact ⟨fun _ => hT hok _, fun hc => absurd (Nat.le_refl W) hc⟩
  · intro w hw ih hok
    have inner : ∀ n y, (y = nI 1 ∧ set >>> (nI w &&& 31) &&& nI 1 = nI 1 ∨ y = nI 0 ∧ ¬ set >>> (nI w &&& 31) &&& nI 1 = nI 1) → bb X P0 m_X4_isSteady (h + 1) K (vc X P0 m_X4_isSteady (h + 1) K k_X4_isSteady [10, 37, 153] (n + 4)) s_X4_isSteady_37 [(5, .inl (nI 0)), (4, .inl y), (3, .inl (nI w)), (0, .inr (.inr (3, 0, r))), (1, .inr (.inr (0, 0, b))), (2, .inl set)] [] (sb μ r 12 (va_up R 5 (rowS G B set w 0 f0))) := by
      intro n y hy
      refine loop_up (fun g => (∀ g', g' < g → okS B set w g') → bb X P0 m_X4_isSteady (h + 1) K (vc X P0 m_X4_isSteady (h + 1) K k_X4_isSteady [10, 37, 153] (n + 4)) s_X4_isSteady_37 [(5, .inl (nI g)), (4, .inl y), (3, .inl (nI w)), (0, .inr (.inr (3, 0, r))), (1, .inr (.inr (0, 0, b))), (2, .inl set)] [] (sb μ r 12 (va_up R 5 (rowS G B set w g f0)))) G ?_ ?_ (fun g' hg' => absurd hg' (Nat.not_lt_zero g'))
      · intro hokg
        have ih2 := ih (fun w' hw' => by
          by_cases hz : w' = w
          · rw [hz]; exact fun g hg => hokg g hg
          · exact hok w' (by omega))
        rw [← rowS_w] at ih2
        have fin : mAt X m_X4_isSteady (h + 1) K 153 [(5, .inl (nI G)), (4, .inl y), (3, .inl (nI w)), (0, .inr (.inr (3, 0, r))), (1, .inr (.inr (0, 0, b))), (2, .inl set)] [] (sb μ r 12 (va_up R 5 (rowS G B set w G f0))) := by
          refine vc_from P0_ok ok_X4_isSteady [10, 37, 153] 8 ?_
          rw [t_X4_isSteady_153]
          simp only [↓w_X4_isSteady_0, ↓w_X4_isSteady_10, ↓w_X4_isSteady_31, ↓w_X4_isSteady_32, ↓w_X4_isSteady_37, ↓w_X4_isSteady_96, ↓w_X4_isSteady_121, ↓w_X4_isSteady_153, ↓w_X4_isSteady_159, ↓v_X4_isSteady_10, ↓v_X4_isSteady_31, ↓v_X4_isSteady_32, ↓v_X4_isSteady_37, ↓v_X4_isSteady_96, ↓v_X4_isSteady_121, ↓v_X4_isSteady_153, ↓v_X4_isSteady_159, ↓b_aload_n, ↓b_bipush, ↓b_callS2_0, ↓b_dup2, ↓b_getA, ↓b_getI, ↓b_goto, ↓b_iadd, ↓b_iaload, ↓b_iand, ↓n_iastore, ↓b_ic_ge, ↓b_ic_ne, ↓b_iconst, ↓b_if_eq, ↓n_iinc, ↓b_iload, ↓b_iload_n, ↓b_imul, ↓b_ishr, ↓n_istore, ↓n_istore_n, ↓b_isub, ↓b_max, ↓b_zret, ↓ldI_hit, ↓ldI_skip, ↓ldL_hit, ↓ldL_skip, ↓ldA_hit, ↓ldA_skip, ↓ldelK_nil, ↓ldelK_hit, ↓ldelK_skipI, ↓ldelK_skipA, ↓ldelK_skipL, lget_hit, lget_skip, ldel_nil, ldel_hit, ldel_skipI, ldel_skipA, ldel_skipL, ldel2_nil, ldel2_hit, ldel2_hit2, ldel2_skipI, ldel2_skipA, ldel2_skipL, vc_0, mCall_P0, mCat_nil, mCat_I, mCat_L, mCat_A, mRcv_A, mArg_nil, mArg_I, mArg_L, mArg_A, tsg, swt_nil, swt_cons, lkw_nil, lkw_cons, ↓reduceIte, Nat.reduceAdd, Nat.reduceEqDiff, Nat.reduceLeDiff, Nat.reduceMul, true_and, and_true, and_self, List.mem_cons, List.not_mem_nil, or_false, or_self, false_or, true_implies, false_implies, not_true_eq_false, not_false_eq_true, nI00, nI10, nI01, nI11, forall_const, implies_true]
          simp (disch := omega) only [ixq, ixz, sb_in, sb_in0, upI_sb, upI_sb0, sb_out, nI_add, nI_mul, nI_subq, Nat.zero_add, forall_eq, u2_at, u2_row, upd_at, upd_ne, nI0b, nI1b, nI00, nI10, nI01, nI11, true_implies, false_implies, not_true_eq_false, not_false_eq_true, and_true, true_and, implies_true]
          exact vc_back P0_ok ok_X4_isSteady [10, 37, 153] 8 t_X4_isSteady_10 ih2 (by simp) rfl
        simp only [↓w_X4_isSteady_0, ↓w_X4_isSteady_10, ↓w_X4_isSteady_31, ↓w_X4_isSteady_32, ↓w_X4_isSteady_37, ↓w_X4_isSteady_96, ↓w_X4_isSteady_121, ↓w_X4_isSteady_153, ↓w_X4_isSteady_159, ↓v_X4_isSteady_10, ↓v_X4_isSteady_31, ↓v_X4_isSteady_32, ↓v_X4_isSteady_37, ↓v_X4_isSteady_96, ↓v_X4_isSteady_121, ↓v_X4_isSteady_153, ↓v_X4_isSteady_159, ↓b_aload_n, ↓b_bipush, ↓b_callS2_0, ↓b_dup2, ↓b_getA, ↓b_getI, ↓b_goto, ↓b_iadd, ↓b_iaload, ↓b_iand, ↓n_iastore, ↓b_ic_ge, ↓b_ic_ne, ↓b_iconst, ↓b_if_eq, ↓n_iinc, ↓b_iload, ↓b_iload_n, ↓b_imul, ↓b_ishr, ↓n_istore, ↓n_istore_n, ↓b_isub, ↓b_max, ↓b_zret, ↓ldI_hit, ↓ldI_skip, ↓ldL_hit, ↓ldL_skip, ↓ldA_hit, ↓ldA_skip, ↓ldelK_nil, ↓ldelK_hit, ↓ldelK_skipI, ↓ldelK_skipA, ↓ldelK_skipL, lget_hit, lget_skip, ldel_nil, ldel_hit, ldel_skipI, ldel_skipA, ldel_skipL, ldel2_nil, ldel2_hit, ldel2_hit2, ldel2_skipI, ldel2_skipA, ldel2_skipL, vc_0, mCall_P0, mCat_nil, mCat_I, mCat_L, mCat_A, mRcv_A, mArg_nil, mArg_I, mArg_L, mArg_A, tsg, swt_nil, swt_cons, lkw_nil, lkw_cons, ↓reduceIte, Nat.reduceAdd, Nat.reduceEqDiff, Nat.reduceLeDiff, Nat.reduceMul, true_and, and_true, and_self, List.mem_cons, List.not_mem_nil, or_false, or_self, false_or, true_implies, false_implies, not_true_eq_false, not_false_eq_true, nI00, nI10, nI01, nI11, forall_const, implies_true]
        simp (disch := omega) only [ixq, ixz, sb_in, sb_in0, upI_sb, upI_sb0, sb_out, nI_add, nI_mul, nI_subq, Nat.zero_add, forall_eq, u2_at, u2_row, upd_at, upd_ne, nI0b, nI1b, nI00, nI10, nI01, nI11, true_implies, false_implies, not_true_eq_false, not_false_eq_true, and_true, true_and, implies_true, hB, hB0, hG, nI_lq]
        exact ⟨fun _ => fin, fun hc => absurd (Nat.le_refl G) hc⟩
      · intro g hg ih2 hokg
        have hrow := rowS_s (B := B) (set := set) (w := w) (f0 := f0) hg
        have hat := rowS_at (B := B) (set := set) (w := w) (f0 := f0) hg
        simp only [↓w_X4_isSteady_0, ↓w_X4_isSteady_10, ↓w_X4_isSteady_31, ↓w_X4_isSteady_32, ↓w_X4_isSteady_37, ↓w_X4_isSteady_96, ↓w_X4_isSteady_121, ↓w_X4_isSteady_153, ↓w_X4_isSteady_159, ↓v_X4_isSteady_10, ↓v_X4_isSteady_31, ↓v_X4_isSteady_32, ↓v_X4_isSteady_37, ↓v_X4_isSteady_96, ↓v_X4_isSteady_121, ↓v_X4_isSteady_153, ↓v_X4_isSteady_159, ↓b_aload_n, ↓b_bipush, ↓b_callS2_0, ↓b_dup2, ↓b_getA, ↓b_getI, ↓b_goto, ↓b_iadd, ↓b_iaload, ↓b_iand, ↓n_iastore, ↓b_ic_ge, ↓b_ic_ne, ↓b_iconst, ↓b_if_eq, ↓n_iinc, ↓b_iload, ↓b_iload_n, ↓b_imul, ↓b_ishr, ↓n_istore, ↓n_istore_n, ↓b_isub, ↓b_max, ↓b_zret, ↓ldI_hit, ↓ldI_skip, ↓ldL_hit, ↓ldL_skip, ↓ldA_hit, ↓ldA_skip, ↓ldelK_nil, ↓ldelK_hit, ↓ldelK_skipI, ↓ldelK_skipA, ↓ldelK_skipL, lget_hit, lget_skip, ldel_nil, ldel_hit, ldel_skipI, ldel_skipA, ldel_skipL, ldel2_nil, ldel2_hit, ldel2_hit2, ldel2_skipI, ldel2_skipA, ldel2_skipL, vc_0, mCall_P0, mCat_nil, mCat_I, mCat_L, mCat_A, mRcv_A, mArg_nil, mArg_I, mArg_L, mArg_A, tsg, swt_nil, swt_cons, lkw_nil, lkw_cons, ↓reduceIte, Nat.reduceAdd, Nat.reduceEqDiff, Nat.reduceLeDiff, Nat.reduceMul, true_and, and_true, and_self, List.mem_cons, List.not_mem_nil, or_false, or_self, false_or, true_implies, false_implies, not_true_eq_false, not_false_eq_true, nI00, nI10, nI01, nI11, forall_const, implies_true]
        simp (disch := omega) only [ixq, ixz, sb_in, sb_in0, upI_sb, upI_sb0, sb_out, nI_add, nI_mul, nI_subq, Nat.zero_add, forall_eq, u2_at, u2_row, upd_at, upd_ne, nI0b, nI1b, nI00, nI10, nI01, nI11, true_implies, false_implies, not_true_eq_false, not_false_eq_true, and_true, true_and, implies_true, hB, hB0, hG, nI_lq, u2_up, up_at, upd_upd, hat]
        refine ⟨fun hc => absurd hc (by omega), fun _ => ?_⟩
        rcases hy with ⟨rfl, hbit⟩ | ⟨rfl, hbit⟩
        · simp (disch := omega) only [ixq, ixz, sb_in, sb_in0, upI_sb, upI_sb0, sb_out, nI_add, nI_mul, nI_subq, Nat.zero_add, forall_eq, u2_at, u2_row, upd_at, upd_ne, nI0b, nI1b, nI00, nI10, nI01, nI11, true_implies, false_implies, not_true_eq_false, not_false_eq_true, and_true, true_and, implies_true]
          refine ⟨fun hc => ?_, fun hc => ?_⟩
          · refine vc_back P0_ok ok_X4_isSteady [10, 37, 153] (n + 4) t_X4_isSteady_37 (ih2 (all_s hokg (fun _ => hc))) (by simp) ?_
            rw [← hrow]
            unfold stepS
            rw [if_pos hbit]
          · exact hF (fun z => hc (z w hw g hg hbit)) _
        · simp (disch := omega) only [ixq, ixz, sb_in, sb_in0, upI_sb, upI_sb0, sb_out, nI_add, nI_mul, nI_subq, Nat.zero_add, forall_eq, u2_at, u2_row, upd_at, upd_ne, nI0b, nI1b, nI00, nI10, nI01, nI11, true_implies, false_implies, not_true_eq_false, not_false_eq_true, and_true, true_and, implies_true]
          refine vc_back P0_ok ok_X4_isSteady [10, 37, 153] (n + 4) t_X4_isSteady_37 (ih2 (all_s hokg (fun z => absurd z hbit))) (by simp) ?_
          rw [← hrow]
          unfold stepS
          rw [if_neg hbit]
    simp only [↓w_X4_isSteady_0, ↓w_X4_isSteady_10, ↓w_X4_isSteady_31, ↓w_X4_isSteady_32, ↓w_X4_isSteady_96, ↓w_X4_isSteady_121, ↓w_X4_isSteady_153, ↓w_X4_isSteady_159, ↓v_X4_isSteady_10, ↓v_X4_isSteady_31, ↓v_X4_isSteady_32, ↓v_X4_isSteady_37, ↓v_X4_isSteady_96, ↓v_X4_isSteady_121, ↓v_X4_isSteady_153, ↓v_X4_isSteady_159, ↓b_aload_n, ↓b_bipush, ↓b_callS2_0, ↓b_dup2, ↓b_getA, ↓b_getI, ↓b_goto, ↓b_iadd, ↓b_iaload, ↓b_iand, ↓n_iastore, ↓b_ic_ge, ↓b_ic_ne, ↓b_iconst, ↓b_if_eq, ↓n_iinc, ↓b_iload, ↓b_iload_n, ↓b_imul, ↓b_ishr, ↓n_istore, ↓n_istore_n, ↓b_isub, ↓b_max, ↓b_zret, ↓ldI_hit, ↓ldI_skip, ↓ldL_hit, ↓ldL_skip, ↓ldA_hit, ↓ldA_skip, ↓ldelK_nil, ↓ldelK_hit, ↓ldelK_skipI, ↓ldelK_skipA, ↓ldelK_skipL, lget_hit, lget_skip, ldel_nil, ldel_hit, ldel_skipI, ldel_skipA, ldel_skipL, ldel2_nil, ldel2_hit, ldel2_hit2, ldel2_skipI, ldel2_skipA, ldel2_skipL, vc_0, mCall_P0, mCat_nil, mCat_I, mCat_L, mCat_A, mRcv_A, mArg_nil, mArg_I, mArg_L, mArg_A, tsg, swt_nil, swt_cons, lkw_nil, lkw_cons, ↓reduceIte, Nat.reduceAdd, Nat.reduceEqDiff, Nat.reduceLeDiff, Nat.reduceMul, true_and, and_true, and_self, List.mem_cons, List.not_mem_nil, or_false, or_self, false_or, true_implies, false_implies, not_true_eq_false, not_false_eq_true, nI00, nI10, nI01, nI11, forall_const, implies_true]
    simp (disch := omega) only [ixq, ixz, sb_in, sb_in0, upI_sb, upI_sb0, sb_out, nI_add, nI_mul, nI_subq, Nat.zero_add, forall_eq, u2_at, u2_row, upd_at, upd_ne, nI0b, nI1b, nI00, nI10, nI01, nI11, true_implies, false_implies, not_true_eq_false, not_false_eq_true, and_true, true_and, implies_true, hB, hB0, hW, nI_lq]
    refine ⟨fun hc => absurd hc (by omega), fun _ => ⟨fun hc => ?_, fun hc => ?_⟩⟩
    · exact inner _ (nI 0) (Or.inr ⟨rfl, hc⟩)
    · exact inner _ (nI 1) (Or.inl ⟨rfl, hc⟩)
end MS1
