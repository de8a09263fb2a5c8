/-! what a RUN's methods do, as functions of its rows (0 hours, 1 vats, 2 vatMarks, 3 vatGivers, 4 lacking, 5 stream, 6 streamMarks, 7 streamGivers, 8 goings, 9 latest, 10 found, 11 tally) and of a BROOK's (0 numbers, 1, 2 names, 3 loss, 4 from, 5 till, 6 makes, 7 takes, 8 size, 9 has, 10 gives, 11 feeds) -/
def lessenF (g : Nat) (a : Int32) (R : Bk) : Bk :=
  if R 5 g - a = 0 then u2 (u2 (u2 R 5 g (R 5 g - a)) 6 g (nI 0)) 7 g (nI 0) else u2 R 5 g (R 5 g - a)
def loseF (B : Bk) (g : Nat) (R : Bk) : Bk :=
  let lost := if B 3 g < R 5 g then B 3 g else R 5 g
  lessenF g lost (u2 R 11 (24 + g) (R 11 (24 + g) + lost))
section MR1
variable {X : mC} {h r b : Nat} {K : MV → Mem → Prop} {μ : Mem} {R : Bk}
theorem c_lessen {g : Nat} {a : Int32} (hg : g < 6) (hK : K (.inl 0) (sb μ r 12 (lessenF g a R))) : mMet X (h + 1) m_X4_lessen [.inr (.inr (3, 0, r)), .inl (nI g), .inl a] (sb μ r 12 R) K := by
  refine vc_met2 P0_ok ok_X4_lessen cm_X4_lessen [] 3 t_X4_lessen_0 (Nat.le_of_ble_eq_true rfl) ?_
  simp only [mArg_nil, mArg_I, mArg_L, mArg_A, Nat.reduceAdd]
  simp only [↓w_X4_lessen_0, ↓w_X4_lessen_33, ↓v_X4_lessen_33, ↓b_aload_n, ↓b_dup2, ↓b_getA, ↓b_iaload, ↓n_iastore, ↓b_iconst, ↓b_if_ne, ↓b_iload_n, ↓b_isub, ↓b_vret, ↓ldI_hit, ↓ldI_skip, ↓ldL_hit, ↓ldL_skip, ↓ldA_hit, ↓ldA_skip, ↓ldelK_nil, ↓ldelK_hit, ↓ldelK_skipI, ↓ldelK_skipA, ↓ldelK_skipL, lget_hit, lget_skip, ldel_nil, ldel_hit, ldel_skipI, ldel_skipA, ldel_skipL, ldel2_nil, ldel2_hit, ldel2_hit2, ldel2_skipI, ldel2_skipA, ldel2_skipL, vc_0, mCall_P0, mCat_nil, mCat_I, mCat_L, mCat_A, mRcv_A, mArg_nil, mArg_I, mArg_L, mArg_A, tsg, swt_nil, swt_cons, lkw_nil, lkw_cons, ↓reduceIte, Nat.reduceAdd, Nat.reduceEqDiff, Nat.reduceLeDiff, Nat.reduceMul, true_and, and_true, and_self, List.mem_cons, List.not_mem_nil, or_false, or_self, false_or, true_implies, forall_const]
  simp (disch := omega) only [ixq, ixz, sb_in, sb_in0, upI_sb, upI_sb0, sb_out, nI_add, nI_mul, nI_subq, Nat.zero_add, forall_eq, u2_at, u2_row, upd_at, upd_ne]
  unfold lessenF at hK
  refine ⟨fun hc => ?_, fun hc => ?_⟩
  · simp only [if_neg hc] at hK
    exact hK
  · simp only [if_pos hc] at hK
    exact hK
theorem c_loseOnWay {G : Nat} {B : Bk} (hB : ∀ k, k < 12 → μ.1 (b + k) = B k) (hG : B 0 0 = nI G) (hG6 : G ≤ 6) (hd : b + 12 ≤ r ∨ r + 12 ≤ b) (hK : K (.inl 0) (sb μ r 12 (fo G (loseF B) R))) : mMet X (h + 2) m_X4_loseOnWay [.inr (.inr (3, 0, r)), .inr (.inr (0, 0, b))] (sb μ r 12 R) K := by
  have hB0 : μ.1 b = B 0 := hB 0 (by omega)
  refine vc_met2 P0_ok ok_X4_loseOnWay cm_X4_loseOnWay [2] 3 t_X4_loseOnWay_0 (Nat.le_of_ble_eq_true rfl) ?_
  simp only [mArg_nil, mArg_I, mArg_L, mArg_A, Nat.reduceAdd]
  simp only [↓w_X4_loseOnWay_0, ↓w_X4_loseOnWay_51, ↓v_X4_loseOnWay_2, ↓v_X4_loseOnWay_51, ↓b_aload_n, ↓b_bipush, ↓b_callV3_0, ↓b_dup2, ↓b_getA, ↓b_getI, ↓b_goto, ↓b_iadd, ↓b_iaload, ↓n_iastore, ↓b_ic_ge, ↓b_iconst, ↓n_iinc, ↓b_iload_n, ↓n_istore_n, ↓b_min, ↓b_vret, ↓ldI_hit, ↓ldI_skip, ↓ldL_hit, ↓ldL_skip, ↓ldA_hit, ↓ldA_skip, ↓ldelK_nil, ↓ldelK_hit, ↓ldelK_skipI, ↓ldelK_skipA, ↓ldelK_skipL, lget_hit, lget_skip, ldel_nil, ldel_hit, ldel_skipI, ldel_skipA, ldel_skipL, ldel2_nil, ldel2_hit, ldel2_hit2, ldel2_skipI, ldel2_skipA, ldel2_skipL, vc_0, mCall_P0, mCat_nil, mCat_I, mCat_L, mCat_A, mRcv_A, mArg_nil, mArg_I, mArg_L, mArg_A, tsg, swt_nil, swt_cons, lkw_nil, lkw_cons, ↓reduceIte, Nat.reduceAdd, Nat.reduceEqDiff, Nat.reduceLeDiff, Nat.reduceMul, true_and, and_true, and_self, List.mem_cons, List.not_mem_nil, or_false, or_self, false_or, true_implies, forall_const]
  rintro _ rfl
  refine loop_up (fun g => bb X P0 m_X4_loseOnWay (h + 1) K (vc X P0 m_X4_loseOnWay (h + 1) K k_X4_loseOnWay [2] 3) s_X4_loseOnWay_2 [(2, .inl (nI g)), (0, .inr (.inr (3, 0, r))), (1, .inr (.inr (0, 0, b)))] [] (sb μ r 12 (fo g (loseF B) R))) G ?_ ?_
  · simp only [↓w_X4_loseOnWay_0, ↓w_X4_loseOnWay_2, ↓w_X4_loseOnWay_51, ↓v_X4_loseOnWay_2, ↓v_X4_loseOnWay_51, ↓b_aload_n, ↓b_bipush, ↓b_callV3_0, ↓b_dup2, ↓b_getA, ↓b_getI, ↓b_goto, ↓b_iadd, ↓b_iaload, ↓n_iastore, ↓b_ic_ge, ↓b_iconst, ↓n_iinc, ↓b_iload_n, ↓n_istore_n, ↓b_min, ↓b_vret, ↓ldI_hit, ↓ldI_skip, ↓ldL_hit, ↓ldL_skip, ↓ldA_hit, ↓ldA_skip, ↓ldelK_nil, ↓ldelK_hit, ↓ldelK_skipI, ↓ldelK_skipA, ↓ldelK_skipL, lget_hit, lget_skip, ldel_nil, ldel_hit, ldel_skipI, ldel_skipA, ldel_skipL, ldel2_nil, ldel2_hit, ldel2_hit2, ldel2_skipI, ldel2_skipA, ldel2_skipL, vc_0, mCall_P0, mCat_nil, mCat_I, mCat_L, mCat_A, mRcv_A, mArg_nil, mArg_I, mArg_L, mArg_A, tsg, swt_nil, swt_cons, lkw_nil, lkw_cons, ↓reduceIte, Nat.reduceAdd, Nat.reduceEqDiff, Nat.reduceLeDiff, Nat.reduceMul, true_and, and_true, and_self, List.mem_cons, List.not_mem_nil, or_false, or_self, false_or, true_implies, forall_const]
    simp (disch := omega) only [ixq, ixz, sb_in, sb_in0, upI_sb, upI_sb0, sb_out, nI_add, nI_mul, nI_subq, Nat.zero_add, forall_eq, u2_at, u2_row, upd_at, upd_ne, hB, hB0, hG, nI_lq]
    exact ⟨fun _ => hK, fun hc => absurd (Nat.le_refl G) hc⟩
  · intro g hg ih
    simp only [↓w_X4_loseOnWay_0, ↓w_X4_loseOnWay_2, ↓w_X4_loseOnWay_51, ↓v_X4_loseOnWay_2, ↓v_X4_loseOnWay_51, ↓b_aload_n, ↓b_bipush, ↓b_callV3_0, ↓b_dup2, ↓b_getA, ↓b_getI, ↓b_goto, ↓b_iadd, ↓b_iaload, ↓n_iastore, ↓b_ic_ge, ↓b_iconst, ↓n_iinc, ↓b_iload_n, ↓n_istore_n, ↓b_min, ↓b_vret, ↓ldI_hit, ↓ldI_skip, ↓ldL_hit, ↓ldL_skip, ↓ldA_hit, ↓ldA_skip, ↓ldelK_nil, ↓ldelK_hit, ↓ldelK_skipI, ↓ldelK_skipA, ↓ldelK_skipL, lget_hit, lget_skip, ldel_nil, ldel_hit, ldel_skipI, ldel_skipA, ldel_skipL, ldel2_nil, ldel2_hit, ldel2_hit2, ldel2_skipI, ldel2_skipA, ldel2_skipL, vc_0, mCall_P0, mCat_nil, mCat_I, mCat_L, mCat_A, mRcv_A, mArg_nil, mArg_I, mArg_L, mArg_A, tsg, swt_nil, swt_cons, lkw_nil, lkw_cons, ↓reduceIte, Nat.reduceAdd, Nat.reduceEqDiff, Nat.reduceLeDiff, Nat.reduceMul, true_and, and_true, and_self, List.mem_cons, List.not_mem_nil, or_false, or_self, false_or, true_implies, forall_const]
    simp (disch := omega) only [ixq, ixz, sb_in, sb_in0, upI_sb, upI_sb0, sb_out, nI_add, nI_mul, nI_subq, Nat.zero_add, forall_eq, u2_at, u2_row, upd_at, upd_ne, hB, hB0, hG, nI_lq]
    refine ⟨fun hc => absurd hc (by omega), fun _ => ?_⟩
    refine c_lessen (by omega) ?_
    exact vc_back P0_ok ok_X4_loseOnWay [2] 3 t_X4_loseOnWay_2 ih (by simp [nI_add, ldel, mIsL]) (congrArg (sb μ r 12) (by rw [fo_s]; rfl))
end MR1
def comeF (B : Bk) (w g : Nat) (R : Bk) : Bk :=
  if (if B 8 (w * 6 + g) - R 1 (w * 6 + g) < R 5 g + B 11 (w * 6 + g) then B 8 (w * 6 + g) - R 1 (w * 6 + g) else R 5 g + B 11 (w * 6 + g)) ≤ 0 then u2 (u2 R 5 g (R 5 g + B 11 (w * 6 + g))) 11 g (R 11 g + B 11 (w * 6 + g))
  else lessenF g (if B 8 (w * 6 + g) - R 1 (w * 6 + g) < R 5 g + B 11 (w * 6 + g) then B 8 (w * 6 + g) - R 1 (w * 6 + g) else R 5 g + B 11 (w * 6 + g)) (u2 (u2 (u2 (u2 (u2 R 5 g (R 5 g + B 11 (w * 6 + g))) 11 g (R 11 g + B 11 (w * 6 + g))) 1 (w * 6 + g) (R 1 (w * 6 + g) + (if B 8 (w * 6 + g) - R 1 (w * 6 + g) < R 5 g + B 11 (w * 6 + g) then B 8 (w * 6 + g) - R 1 (w * 6 + g) else R 5 g + B 11 (w * 6 + g)))) 2 (w * 6 + g) (R 2 (w * 6 + g) ||| R 6 g)) 3 (w * 6 + g) (R 3 (w * 6 + g) ||| R 7 g))
theorem comeF_pos {B : Bk} {w g : Nat} {R : Bk} (hc : (if B 8 (w * 6 + g) - R 1 (w * 6 + g) < R 5 g + B 11 (w * 6 + g) then B 8 (w * 6 + g) - R 1 (w * 6 + g) else R 5 g + B 11 (w * 6 + g)) ≤ 0) : comeF B w g R = u2 (u2 R 5 g (R 5 g + B 11 (w * 6 + g))) 11 g (R 11 g + B 11 (w * 6 + g)) := if_pos hc
theorem comeF_neg {B : Bk} {w g : Nat} {R : Bk} (hc : ¬ (if B 8 (w * 6 + g) - R 1 (w * 6 + g) < R 5 g + B 11 (w * 6 + g) then B 8 (w * 6 + g) - R 1 (w * 6 + g) else R 5 g + B 11 (w * 6 + g)) ≤ 0) : comeF B w g R = lessenF g (if B 8 (w * 6 + g) - R 1 (w * 6 + g) < R 5 g + B 11 (w * 6 + g) then B 8 (w * 6 + g) - R 1 (w * 6 + g) else R 5 g + B 11 (w * 6 + g)) (u2 (u2 (u2 (u2 (u2 R 5 g (R 5 g + B 11 (w * 6 + g))) 11 g (R 11 g + B 11 (w * 6 + g))) 1 (w * 6 + g) (R 1 (w * 6 + g) + (if B 8 (w * 6 + g) - R 1 (w * 6 + g) < R 5 g + B 11 (w * 6 + g) then B 8 (w * 6 + g) - R 1 (w * 6 + g) else R 5 g + B 11 (w * 6 + g)))) 2 (w * 6 + g) (R 2 (w * 6 + g) ||| R 6 g)) 3 (w * 6 + g) (R 3 (w * 6 + g) ||| R 7 g)) := if_neg hc
def hasF (B : Bk) (w g : Nat) (p : Bk × Int32) : Bk × Int32 :=
  let c := w * 6 + g
  if B 7 c ≤ p.1 1 c then p else (u2 p.1 4 c (p.1 4 c + nI 1), nI 0)
def useF (B : Bk) (w g : Nat) (p : Bk × Int32) : Bk × Int32 :=
  (if p.1 1 (w * 6 + g) - B 7 (w * 6 + g) = 0 then u2 (u2 (u2 p.1 1 (w * 6 + g) (p.1 1 (w * 6 + g) - B 7 (w * 6 + g))) 11 (18 + g) (p.1 11 (18 + g) + B 7 (w * 6 + g))) 2 (w * 6 + g) (nI 0) else u2 (u2 p.1 1 (w * 6 + g) (p.1 1 (w * 6 + g) - B 7 (w * 6 + g))) 11 (18 + g) (p.1 11 (18 + g) + B 7 (w * 6 + g)), p.2 ||| p.1 2 (w * 6 + g))
def giveF (B : Bk) (w : Nat) (m : Int32) (g : Nat) (R : Bk) : Bk :=
  if B 10 (w * 6 + g) ≤ 0 then R else u2 (u2 (u2 (u2 R 5 g (R 5 g + B 10 (w * 6 + g))) 6 g (R 6 g ||| (m ||| nI 1 <<< (nI w &&& 31)))) 7 g (R 7 g ||| nI 1 <<< (nI w &&& 31))) 11 (12 + g) (R 11 (12 + g) + B 10 (w * 6 + g))
def goF (G : Nat) (B : Bk) (w : Nat) (R : Bk) : Bk :=
  let p := fo G (useF B w) (R, nI 0)
  let R2 := fo G (giveF B w p.2) (u2 p.1 10 w (p.1 10 w ||| p.2))
  u2 (u2 R2 8 w (R2 8 w + nI 1)) 9 w (R2 0 0)
def outF (g : Nat) (R : Bk) : Bk := lessenF g (R 5 g) (u2 R 11 (30 + g) (R 11 (30 + g) + R 5 g))
section MR2
variable {X : mC} {h r b : Nat} {K : MV → Mem → Prop} {μ : Mem} {R : Bk} {G : Nat}
theorem c_letOut {B : Bk} (hB : ∀ k, k < 12 → μ.1 (b + k) = B k) (hG : B 0 0 = nI G) (hG6 : G ≤ 6) (hd : b + 12 ≤ r ∨ r + 12 ≤ b) (hK : K (.inl 0) (sb μ r 12 (fo G outF R))) : mMet X (h + 2) m_X4_letOut [.inr (.inr (3, 0, r)), .inr (.inr (0, 0, b))] (sb μ r 12 R) K := by
  have hB0 : μ.1 b = B 0 := hB 0 (by omega)
  refine vc_met2 P0_ok ok_X4_letOut cm_X4_letOut [2] 6 t_X4_letOut_0 (Nat.le_of_ble_eq_true rfl) ?_
  simp only [mArg_nil, mArg_I, mArg_L, mArg_A, Nat.reduceAdd]
  simp only [↓w_X4_letOut_0, ↓w_X4_letOut_45, ↓v_X4_letOut_2, ↓v_X4_letOut_45, ↓b_aload_n, ↓b_bipush, ↓b_callV3_0, ↓b_dup2, ↓b_getA, ↓b_getI, ↓b_goto, ↓b_iadd, ↓b_iaload, ↓n_iastore, ↓b_ic_ge, ↓b_iconst, ↓n_iinc, ↓b_iload_n, ↓n_istore_n, ↓b_vret, ↓ldI_hit, ↓ldI_skip, ↓ldL_hit, ↓ldL_skip, ↓ldA_hit, ↓ldA_skip, ↓ldelK_nil, ↓ldelK_hit, ↓ldelK_skipI, ↓ldelK_skipA, ↓ldelK_skipL, lget_hit, lget_skip, ldel_nil, ldel_hit, ldel_skipI, ldel_skipA, ldel_skipL, ldel2_nil, ldel2_hit, ldel2_hit2, ldel2_skipI, ldel2_skipA, ldel2_skipL, vc_0, mCall_P0, mCat_nil, mCat_I, mCat_L, mCat_A, mRcv_A, mArg_nil, mArg_I, mArg_L, mArg_A, tsg, swt_nil, swt_cons, lkw_nil, lkw_cons, ↓reduceIte, Nat.reduceAdd, Nat.reduceEqDiff, Nat.reduceLeDiff, Nat.reduceMul, true_and, and_true, and_self, List.mem_cons, List.not_mem_nil, or_false, or_self, false_or, true_implies, forall_const]
  rintro _ rfl
  refine loop_up (fun g => bb X P0 m_X4_letOut (h + 1) K (vc X P0 m_X4_letOut (h + 1) K k_X4_letOut [2] 6) s_X4_letOut_2 [(2, .inl (nI g)), (0, .inr (.inr (3, 0, r))), (1, .inr (.inr (0, 0, b)))] [] (sb μ r 12 (fo g outF R))) G ?_ ?_
  · simp only [↓w_X4_letOut_0, ↓w_X4_letOut_2, ↓w_X4_letOut_45, ↓v_X4_letOut_2, ↓v_X4_letOut_45, ↓b_aload_n, ↓b_bipush, ↓b_callV3_0, ↓b_dup2, ↓b_getA, ↓b_getI, ↓b_goto, ↓b_iadd, ↓b_iaload, ↓n_iastore, ↓b_ic_ge, ↓b_iconst, ↓n_iinc, ↓b_iload_n, ↓n_istore_n, ↓b_vret, ↓ldI_hit, ↓ldI_skip, ↓ldL_hit, ↓ldL_skip, ↓ldA_hit, ↓ldA_skip, ↓ldelK_nil, ↓ldelK_hit, ↓ldelK_skipI, ↓ldelK_skipA, ↓ldelK_skipL, lget_hit, lget_skip, ldel_nil, ldel_hit, ldel_skipI, ldel_skipA, ldel_skipL, ldel2_nil, ldel2_hit, ldel2_hit2, ldel2_skipI, ldel2_skipA, ldel2_skipL, vc_0, mCall_P0, mCat_nil, mCat_I, mCat_L, mCat_A, mRcv_A, mArg_nil, mArg_I, mArg_L, mArg_A, tsg, swt_nil, swt_cons, lkw_nil, lkw_cons, ↓reduceIte, Nat.reduceAdd, Nat.reduceEqDiff, Nat.reduceLeDiff, Nat.reduceMul, true_and, and_true, and_self, List.mem_cons, List.not_mem_nil, or_false, or_self, false_or, true_implies, forall_const]
    simp (disch := omega) only [ixq, ixz, sb_in, sb_in0, upI_sb, upI_sb0, sb_out, nI_add, nI_mul, nI_subq, Nat.zero_add, forall_eq, u2_at, u2_row, upd_at, upd_ne, hB, hB0, hG, nI_lq]
    exact ⟨fun _ => hK, fun hc => absurd (Nat.le_refl G) hc⟩
  · intro g hg ih
    simp only [↓w_X4_letOut_0, ↓w_X4_letOut_2, ↓w_X4_letOut_45, ↓v_X4_letOut_2, ↓v_X4_letOut_45, ↓b_aload_n, ↓b_bipush, ↓b_callV3_0, ↓b_dup2, ↓b_getA, ↓b_getI, ↓b_goto, ↓b_iadd, ↓b_iaload, ↓n_iastore, ↓b_ic_ge, ↓b_iconst, ↓n_iinc, ↓b_iload_n, ↓n_istore_n, ↓b_vret, ↓ldI_hit, ↓ldI_skip, ↓ldL_hit, ↓ldL_skip, ↓ldA_hit, ↓ldA_skip, ↓ldelK_nil, ↓ldelK_hit, ↓ldelK_skipI, ↓ldelK_skipA, ↓ldelK_skipL, lget_hit, lget_skip, ldel_nil, ldel_hit, ldel_skipI, ldel_skipA, ldel_skipL, ldel2_nil, ldel2_hit, ldel2_hit2, ldel2_skipI, ldel2_skipA, ldel2_skipL, vc_0, mCall_P0, mCat_nil, mCat_I, mCat_L, mCat_A, mRcv_A, mArg_nil, mArg_I, mArg_L, mArg_A, tsg, swt_nil, swt_cons, lkw_nil, lkw_cons, ↓reduceIte, Nat.reduceAdd, Nat.reduceEqDiff, Nat.reduceLeDiff, Nat.reduceMul, true_and, and_true, and_self, List.mem_cons, List.not_mem_nil, or_false, or_self, false_or, true_implies, forall_const]
    simp (disch := omega) only [ixq, ixz, sb_in, sb_in0, upI_sb, upI_sb0, sb_out, nI_add, nI_mul, nI_subq, Nat.zero_add, forall_eq, u2_at, u2_row, upd_at, upd_ne, hB, hB0, hG, nI_lq]
    refine ⟨fun hc => absurd hc (by omega), fun _ => ?_⟩
    refine c_lessen (by omega) ?_
    exact vc_back P0_ok ok_X4_letOut [2] 6 t_X4_letOut_2 ih (by simp [nI_add, ldel, mIsL]) (congrArg (sb μ r 12) (by rw [fo_s]; rfl))
theorem c_comeToWork {w : Nat} (hw : w < 8) {B : Bk} (hB : ∀ k, k < 12 → μ.1 (b + k) = B k) (hG : B 0 0 = nI G) (hG6 : G ≤ 6) (hd : b + 12 ≤ r ∨ r + 12 ≤ b) (hK : K (.inl 0) (sb μ r 12 (fo G (comeF B w) R))) : mMet X (h + 2) m_X4_comeToWork [.inr (.inr (3, 0, r)), .inr (.inr (0, 0, b)), .inl (nI w)] (sb μ r 12 R) K := by
  have hB0 : μ.1 b = B 0 := hB 0 (by omega)
  refine vc_met2 P0_ok ok_X4_comeToWork cm_X4_comeToWork [2] 6 t_X4_comeToWork_0 (Nat.le_of_ble_eq_true rfl) ?_
  simp only [mArg_nil, mArg_I, mArg_L, mArg_A, Nat.reduceAdd]
  simp only [↓w_X4_comeToWork_0, ↓w_X4_comeToWork_134, ↓w_X4_comeToWork_140, ↓v_X4_comeToWork_2, ↓v_X4_comeToWork_134, ↓v_X4_comeToWork_140, ↓b_aload_n, ↓b_bipush, ↓b_callV3_0, ↓b_dup2, ↓b_getA, ↓b_getI, ↓b_goto, ↓b_iadd, ↓b_iaload, ↓n_iastore, ↓b_ic_ge, ↓b_iconst, ↓b_if_le, ↓n_iinc, ↓b_iload, ↓b_iload_n, ↓b_imul, ↓b_ior, ↓n_istore, ↓n_istore_n, ↓b_isub, ↓b_min, ↓b_vret, ↓ldI_hit, ↓ldI_skip, ↓ldL_hit, ↓ldL_skip, ↓ldA_hit, ↓ldA_skip, ↓ldelK_nil, ↓ldelK_hit, ↓ldelK_skipI, ↓ldelK_skipA, ↓ldelK_skipL, lget_hit, lget_skip, ldel_nil, ldel_hit, ldel_skipI, ldel_skipA, ldel_skipL, ldel2_nil, ldel2_hit, ldel2_hit2, ldel2_skipI, ldel2_skipA, ldel2_skipL, vc_0, mCall_P0, mCat_nil, mCat_I, mCat_L, mCat_A, mRcv_A, mArg_nil, mArg_I, mArg_L, mArg_A, tsg, swt_nil, swt_cons, lkw_nil, lkw_cons, ↓reduceIte, Nat.reduceAdd, Nat.reduceEqDiff, Nat.reduceLeDiff, Nat.reduceMul, true_and, and_true, and_self, List.mem_cons, List.not_mem_nil, or_false, or_self, false_or, true_implies, forall_const]
  rintro _ rfl
  refine loop_up (fun g => bb X P0 m_X4_comeToWork (h + 1) K (vc X P0 m_X4_comeToWork (h + 1) K k_X4_comeToWork [2] 6) s_X4_comeToWork_2 [(3, .inl (nI g)), (0, .inr (.inr (3, 0, r))), (1, .inr (.inr (0, 0, b))), (2, .inl (nI w))] [] (sb μ r 12 (fo g (comeF B w) R))) G ?_ ?_
  · simp only [↓w_X4_comeToWork_0, ↓w_X4_comeToWork_2, ↓w_X4_comeToWork_134, ↓w_X4_comeToWork_140, ↓v_X4_comeToWork_2, ↓v_X4_comeToWork_134, ↓v_X4_comeToWork_140, ↓b_aload_n, ↓b_bipush, ↓b_callV3_0, ↓b_dup2, ↓b_getA, ↓b_getI, ↓b_goto, ↓b_iadd, ↓b_iaload, ↓n_iastore, ↓b_ic_ge, ↓b_iconst, ↓b_if_le, ↓n_iinc, ↓b_iload, ↓b_iload_n, ↓b_imul, ↓b_ior, ↓n_istore, ↓n_istore_n, ↓b_isub, ↓b_min, ↓b_vret, ↓ldI_hit, ↓ldI_skip, ↓ldL_hit, ↓ldL_skip, ↓ldA_hit, ↓ldA_skip, ↓ldelK_nil, ↓ldelK_hit, ↓ldelK_skipI, ↓ldelK_skipA, ↓ldelK_skipL, lget_hit, lget_skip, ldel_nil, ldel_hit, ldel_skipI, ldel_skipA, ldel_skipL, ldel2_nil, ldel2_hit, ldel2_hit2, ldel2_skipI, ldel2_skipA, ldel2_skipL, vc_0, mCall_P0, mCat_nil, mCat_I, mCat_L, mCat_A, mRcv_A, mArg_nil, mArg_I, mArg_L, mArg_A, tsg, swt_nil, swt_cons, lkw_nil, lkw_cons, ↓reduceIte, Nat.reduceAdd, Nat.reduceEqDiff, Nat.reduceLeDiff, Nat.reduceMul, true_and, and_true, and_self, List.mem_cons, List.not_mem_nil, or_false, or_self, false_or, true_implies, forall_const]
    simp (disch := omega) only [ixq, ixz, sb_in, sb_in0, upI_sb, upI_sb0, sb_out, nI_add, nI_mul, nI_subq, Nat.zero_add, forall_eq, u2_at, u2_row, upd_at, upd_ne, hB, hB0, hG, nI_lq]
    exact ⟨fun _ => hK, fun hc => absurd (Nat.le_refl G) hc⟩
  · intro g hg ih
    simp only [↓w_X4_comeToWork_0, ↓w_X4_comeToWork_2, ↓w_X4_comeToWork_134, ↓w_X4_comeToWork_140, ↓v_X4_comeToWork_2, ↓v_X4_comeToWork_134, ↓v_X4_comeToWork_140, ↓b_aload_n, ↓b_bipush, ↓b_callV3_0, ↓b_dup2, ↓b_getA, ↓b_getI, ↓b_goto, ↓b_iadd, ↓b_iaload, ↓n_iastore, ↓b_ic_ge, ↓b_iconst, ↓b_if_le, ↓n_iinc, ↓b_iload, ↓b_iload_n, ↓b_imul, ↓b_ior, ↓n_istore, ↓n_istore_n, ↓b_isub, ↓b_min, ↓b_vret, ↓ldI_hit, ↓ldI_skip, ↓ldL_hit, ↓ldL_skip, ↓ldA_hit, ↓ldA_skip, ↓ldelK_nil, ↓ldelK_hit, ↓ldelK_skipI, ↓ldelK_skipA, ↓ldelK_skipL, lget_hit, lget_skip, ldel_nil, ldel_hit, ldel_skipI, ldel_skipA, ldel_skipL, ldel2_nil, ldel2_hit, ldel2_hit2, ldel2_skipI, ldel2_skipA, ldel2_skipL, vc_0, mCall_P0, mCat_nil, mCat_I, mCat_L, mCat_A, mRcv_A, mArg_nil, mArg_I, mArg_L, mArg_A, tsg, swt_nil, swt_cons, lkw_nil, lkw_cons, ↓reduceIte, Nat.reduceAdd, Nat.reduceEqDiff, Nat.reduceLeDiff, Nat.reduceMul, true_and, and_true, and_self, List.mem_cons, List.not_mem_nil, or_false, or_self, false_or, true_implies, forall_const]
    simp (disch := omega) only [ixq, ixz, sb_in, sb_in0, upI_sb, upI_sb0, sb_out, nI_add, nI_mul, nI_subq, Nat.zero_add, forall_eq, u2_at, u2_row, upd_at, upd_ne, hB, hB0, hG, nI_lq]
    refine ⟨fun hc => absurd hc (by omega), fun _ => ?_⟩
    refine ⟨fun hc => ?_, fun hc => ?_⟩
    · exact vc_back P0_ok ok_X4_comeToWork [2] 6 t_X4_comeToWork_2 ih (by simp [nI_add, ldel, mIsL]) (congrArg (sb μ r 12) (by rw [fo_s]; exact (comeF_pos (B := B) hc).symm))
    · refine c_lessen (by omega) ?_
      exact vc_back P0_ok ok_X4_comeToWork [2] 6 t_X4_comeToWork_2 ih (by simp [nI_add, ldel, mIsL]) (congrArg (sb μ r 12) (by rw [fo_s]; exact (comeF_neg (B := B) hc).symm))
theorem hasF_pos {B : Bk} {w g : Nat} {p : Bk × Int32} (h : B 7 (w * 6 + g) ≤ p.1 1 (w * 6 + g)) : hasF B w g p = p := if_pos h
theorem hasF_neg {B : Bk} {w g : Nat} {p : Bk × Int32} (h : ¬ B 7 (w * 6 + g) ≤ p.1 1 (w * 6 + g)) : hasF B w g p = (u2 p.1 4 (w * 6 + g) (p.1 4 (w * 6 + g) + nI 1), nI 0) := if_neg h
theorem hasF_b {B : Bk} {w : Nat} {R : Bk} : ∀ n, (fo n (hasF B w) (R, nI 1)).2 = nI 1 ∨ (fo n (hasF B w) (R, nI 1)).2 = nI 0 := by
  intro n
  induction n with
  | zero => exact Or.inl rfl
  | succ n ih =>
    rw [fo_s]
    generalize fo n (hasF B w) (R, nI 1) = p at ih ⊢
    show (if B 7 (w * 6 + n) ≤ p.1 1 (w * 6 + n) then p else (u2 p.1 4 (w * 6 + n) (p.1 4 (w * 6 + n) + nI 1), nI 0)).2 = nI 1 ∨ (if B 7 (w * 6 + n) ≤ p.1 1 (w * 6 + n) then p else (u2 p.1 4 (w * 6 + n) (p.1 4 (w * 6 + n) + nI 1), nI 0)).2 = nI 0
    split
    · exact ih
    · exact Or.inr rfl
theorem c_hasAll {w : Nat} (hw : w < 8) {B : Bk} (hB : ∀ k, k < 12 → μ.1 (b + k) = B k) (hG : B 0 0 = nI G) (hG6 : G ≤ 6) (hd : b + 12 ≤ r ∨ r + 12 ≤ b) (hK : K (.inl (fo G (hasF B w) (R, nI 1)).2) (sb μ r 12 (fo G (hasF B w) (R, nI 1)).1)) : mMet X (h + 1) m_X4_hasAll [.inr (.inr (3, 0, r)), .inr (.inr (0, 0, b)), .inl (nI w)] (sb μ r 12 R) K := by
  have hB0 : μ.1 b = B 0 := hB 0 (by omega)
  refine vc_met2 P0_ok ok_X4_hasAll cm_X4_hasAll [5] 6 t_X4_hasAll_0 (Nat.le_of_ble_eq_true rfl) ?_
  simp only [mArg_nil, mArg_I, mArg_L, mArg_A, Nat.reduceAdd]
  simp only [↓w_X4_hasAll_0, ↓w_X4_hasAll_53, ↓w_X4_hasAll_59, ↓v_X4_hasAll_5, ↓v_X4_hasAll_53, ↓v_X4_hasAll_59, ↓b_aload_n, ↓b_bipush, ↓b_dup2, ↓b_getA, ↓b_getI, ↓b_goto, ↓b_iadd, ↓b_iaload, ↓n_iastore, ↓b_ic_ge, ↓b_iconst, ↓n_iinc, ↓b_iload, ↓b_iload_n, ↓b_imul, ↓n_istore, ↓n_istore_n, ↓b_zret, ↓ldI_hit, ↓ldI_skip, ↓ldL_hit, ↓ldL_skip, ↓ldA_hit, ↓ldA_skip, ↓ldelK_nil, ↓ldelK_hit, ↓ldelK_skipI, ↓ldelK_skipA, ↓ldelK_skipL, lget_hit, lget_skip, ldel_nil, ldel_hit, ldel_skipI, ldel_skipA, ldel_skipL, ldel2_nil, ldel2_hit, ldel2_hit2, ldel2_skipI, ldel2_skipA, ldel2_skipL, vc_0, mCall_P0, mCat_nil, mCat_I, mCat_L, mCat_A, mRcv_A, mArg_nil, mArg_I, mArg_L, mArg_A, tsg, swt_nil, swt_cons, lkw_nil, lkw_cons, ↓reduceIte, Nat.reduceAdd, Nat.reduceEqDiff, Nat.reduceLeDiff, Nat.reduceMul, true_and, and_true, and_self, List.mem_cons, List.not_mem_nil, or_false, or_self, false_or, true_implies, forall_const]
  rintro _ rfl _ rfl
  refine loop_up (fun g => bb X P0 m_X4_hasAll (h) K (vc X P0 m_X4_hasAll (h) K k_X4_hasAll [5] 6) s_X4_hasAll_5 [(4, .inl (nI g)), (3, .inl (fo g (hasF B w) (R, nI 1)).2), (0, .inr (.inr (3, 0, r))), (1, .inr (.inr (0, 0, b))), (2, .inl (nI w))] [] (sb μ r 12 (fo g (hasF B w) (R, nI 1)).1)) G ?_ ?_
  · simp only [↓w_X4_hasAll_0, ↓w_X4_hasAll_5, ↓w_X4_hasAll_53, ↓w_X4_hasAll_59, ↓v_X4_hasAll_5, ↓v_X4_hasAll_53, ↓v_X4_hasAll_59, ↓b_aload_n, ↓b_bipush, ↓b_dup2, ↓b_getA, ↓b_getI, ↓b_goto, ↓b_iadd, ↓b_iaload, ↓n_iastore, ↓b_ic_ge, ↓b_iconst, ↓n_iinc, ↓b_iload, ↓b_iload_n, ↓b_imul, ↓n_istore, ↓n_istore_n, ↓b_zret, ↓ldI_hit, ↓ldI_skip, ↓ldL_hit, ↓ldL_skip, ↓ldA_hit, ↓ldA_skip, ↓ldelK_nil, ↓ldelK_hit, ↓ldelK_skipI, ↓ldelK_skipA, ↓ldelK_skipL, lget_hit, lget_skip, ldel_nil, ldel_hit, ldel_skipI, ldel_skipA, ldel_skipL, ldel2_nil, ldel2_hit, ldel2_hit2, ldel2_skipI, ldel2_skipA, ldel2_skipL, vc_0, mCall_P0, mCat_nil, mCat_I, mCat_L, mCat_A, mRcv_A, mArg_nil, mArg_I, mArg_L, mArg_A, tsg, swt_nil, swt_cons, lkw_nil, lkw_cons, ↓reduceIte, Nat.reduceAdd, Nat.reduceEqDiff, Nat.reduceLeDiff, Nat.reduceMul, true_and, and_true, and_self, List.mem_cons, List.not_mem_nil, or_false, or_self, false_or, true_implies, forall_const]
    simp (disch := omega) only [ixq, ixz, sb_in, sb_in0, upI_sb, upI_sb0, sb_out, nI_add, nI_mul, nI_subq, Nat.zero_add, forall_eq, u2_at, u2_row, upd_at, upd_ne, hB, hB0, hG, nI_lq]
    refine ⟨fun _ => ⟨?_, hK⟩, fun hc => absurd (Nat.le_refl G) hc⟩
    rcases hasF_b (B := B) (w := w) (R := R) G with e | e <;> rw [e]
    · exact Or.inr rfl
    · exact Or.inl rfl
  · intro g hg ih
    rw [fo_s] at ih
    simp only [↓w_X4_hasAll_0, ↓w_X4_hasAll_5, ↓w_X4_hasAll_53, ↓w_X4_hasAll_59, ↓v_X4_hasAll_5, ↓v_X4_hasAll_53, ↓v_X4_hasAll_59, ↓b_aload_n, ↓b_bipush, ↓b_dup2, ↓b_getA, ↓b_getI, ↓b_goto, ↓b_iadd, ↓b_iaload, ↓n_iastore, ↓b_ic_ge, ↓b_iconst, ↓n_iinc, ↓b_iload, ↓b_iload_n, ↓b_imul, ↓n_istore, ↓n_istore_n, ↓b_zret, ↓ldI_hit, ↓ldI_skip, ↓ldL_hit, ↓ldL_skip, ↓ldA_hit, ↓ldA_skip, ↓ldelK_nil, ↓ldelK_hit, ↓ldelK_skipI, ↓ldelK_skipA, ↓ldelK_skipL, lget_hit, lget_skip, ldel_nil, ldel_hit, ldel_skipI, ldel_skipA, ldel_skipL, ldel2_nil, ldel2_hit, ldel2_hit2, ldel2_skipI, ldel2_skipA, ldel2_skipL, vc_0, mCall_P0, mCat_nil, mCat_I, mCat_L, mCat_A, mRcv_A, mArg_nil, mArg_I, mArg_L, mArg_A, tsg, swt_nil, swt_cons, lkw_nil, lkw_cons, ↓reduceIte, Nat.reduceAdd, Nat.reduceEqDiff, Nat.reduceLeDiff, Nat.reduceMul, true_and, and_true, and_self, List.mem_cons, List.not_mem_nil, or_false, or_self, false_or, true_implies, forall_const]
    simp (disch := omega) only [ixq, ixz, sb_in, sb_in0, upI_sb, upI_sb0, sb_out, nI_add, nI_mul, nI_subq, Nat.zero_add, forall_eq, u2_at, u2_row, upd_at, upd_ne, hB, hB0, hG, nI_lq]
    refine ⟨fun hc => absurd hc (by omega), fun _ => ?_⟩
    refine ⟨fun hc => ?_, fun hc => ?_⟩
    · rw [hasF_pos hc] at ih
      exact vc_back P0_ok ok_X4_hasAll [5] 6 t_X4_hasAll_5 ih (by simp [nI_add, ldel, mIsL]) rfl
    · rw [hasF_neg hc] at ih
      exact vc_back P0_ok ok_X4_hasAll [5] 6 t_X4_hasAll_5 ih (by simp [nI_add, ldel, mIsL]) rfl
theorem useF_pos {B : Bk} {w g : Nat} {p : Bk × Int32} (h : p.1 1 (w * 6 + g) - B 7 (w * 6 + g) = 0) : useF B w g p = (u2 (u2 (u2 p.1 1 (w * 6 + g) (p.1 1 (w * 6 + g) - B 7 (w * 6 + g))) 11 (18 + g) (p.1 11 (18 + g) + B 7 (w * 6 + g))) 2 (w * 6 + g) (nI 0), p.2 ||| p.1 2 (w * 6 + g)) := congrArg (fun z => (z, p.2 ||| p.1 2 (w * 6 + g))) (if_pos h)
theorem useF_neg {B : Bk} {w g : Nat} {p : Bk × Int32} (h : ¬ p.1 1 (w * 6 + g) - B 7 (w * 6 + g) = 0) : useF B w g p = (u2 (u2 p.1 1 (w * 6 + g) (p.1 1 (w * 6 + g) - B 7 (w * 6 + g))) 11 (18 + g) (p.1 11 (18 + g) + B 7 (w * 6 + g)), p.2 ||| p.1 2 (w * 6 + g)) := congrArg (fun z => (z, p.2 ||| p.1 2 (w * 6 + g))) (if_neg h)
theorem giveF_pos {B : Bk} {w g : Nat} {m : Int32} {R : Bk} (h : B 10 (w * 6 + g) ≤ 0) : giveF B w m g R = R := if_pos h
theorem giveF_neg {B : Bk} {w g : Nat} {m : Int32} {R : Bk} (h : ¬ B 10 (w * 6 + g) ≤ 0) : giveF B w m g R = u2 (u2 (u2 (u2 R 5 g (R 5 g + B 10 (w * 6 + g))) 6 g (R 6 g ||| (m ||| nI 1 <<< (nI w &&& 31)))) 7 g (R 7 g ||| nI 1 <<< (nI w &&& 31))) 11 (12 + g) (R 11 (12 + g) + B 10 (w * 6 + g)) := if_neg h
theorem c_goOnce {w : Nat} (hw : w < 8) {B : Bk} (hB : ∀ k, k < 12 → μ.1 (b + k) = B k) (hG : B 0 0 = nI G) (hG6 : G ≤ 6) (hd : b + 12 ≤ r ∨ r + 12 ≤ b) (hK : K (.inl 0) (sb μ r 12 (goF G B w R))) : mMet X (h + 1) m_X4_goOnce [.inr (.inr (3, 0, r)), .inr (.inr (0, 0, b)), .inl (nI w)] (sb μ r 12 R) K := by
  have hB0 : μ.1 b = B 0 := hB 0 (by omega)
  refine vc_met2 P0_ok ok_X4_goOnce cm_X4_goOnce [5,107] 6 t_X4_goOnce_0 (Nat.le_of_ble_eq_true rfl) ?_
  simp only [mArg_nil, mArg_I, mArg_L, mArg_A, Nat.reduceAdd]
  simp only [↓w_X4_goOnce_0, ↓w_X4_goOnce_88, ↓w_X4_goOnce_94, ↓w_X4_goOnce_107, ↓w_X4_goOnce_190, ↓w_X4_goOnce_196, ↓v_X4_goOnce_5, ↓v_X4_goOnce_88, ↓v_X4_goOnce_94, ↓v_X4_goOnce_107, ↓v_X4_goOnce_190, ↓v_X4_goOnce_196, ↓b_aload_n, ↓b_bipush, ↓b_dup2, ↓b_getA, ↓b_getI, ↓b_goto, ↓b_iadd, ↓b_iaload, ↓n_iastore, ↓b_ic_ge, ↓b_iconst, ↓b_if_le, ↓b_if_ne, ↓n_iinc, ↓b_iload, ↓b_iload_n, ↓b_imul, ↓b_ior, ↓b_ishl, ↓n_istore, ↓n_istore_n, ↓b_isub, ↓b_vret, ↓ldI_hit, ↓ldI_skip, ↓ldL_hit, ↓ldL_skip, ↓ldA_hit, ↓ldA_skip, ↓ldelK_nil, ↓ldelK_hit, ↓ldelK_skipI, ↓ldelK_skipA, ↓ldelK_skipL, lget_hit, lget_skip, ldel_nil, ldel_hit, ldel_skipI, ldel_skipA, ldel_skipL, ldel2_nil, ldel2_hit, ldel2_hit2, ldel2_skipI, ldel2_skipA, ldel2_skipL, vc_0, mCall_P0, mCat_nil, mCat_I, mCat_L, mCat_A, mRcv_A, mArg_nil, mArg_I, mArg_L, mArg_A, tsg, swt_nil, swt_cons, lkw_nil, lkw_cons, ↓reduceIte, Nat.reduceAdd, Nat.reduceEqDiff, Nat.reduceLeDiff, Nat.reduceMul, true_and, and_true, and_self, List.mem_cons, List.not_mem_nil, or_false, or_self, false_or, true_implies, forall_const]
  rintro _ rfl _ rfl
  refine loop_up (fun g => bb X P0 m_X4_goOnce (h) K (vc X P0 m_X4_goOnce (h) K k_X4_goOnce [5,107] 6) s_X4_goOnce_5 [(4, .inl (nI g)), (3, .inl (fo g (useF B w) (R, nI 0)).2), (0, .inr (.inr (3, 0, r))), (1, .inr (.inr (0, 0, b))), (2, .inl (nI w))] [] (sb μ r 12 (fo g (useF B w) (R, nI 0)).1)) G ?_ ?_
  · simp only [↓w_X4_goOnce_0, ↓w_X4_goOnce_5, ↓w_X4_goOnce_88, ↓w_X4_goOnce_94, ↓w_X4_goOnce_190, ↓w_X4_goOnce_196, ↓v_X4_goOnce_5, ↓v_X4_goOnce_88, ↓v_X4_goOnce_94, ↓v_X4_goOnce_107, ↓v_X4_goOnce_190, ↓v_X4_goOnce_196, ↓b_aload_n, ↓b_bipush, ↓b_dup2, ↓b_getA, ↓b_getI, ↓b_goto, ↓b_iadd, ↓b_iaload, ↓n_iastore, ↓b_ic_ge, ↓b_iconst, ↓b_if_le, ↓b_if_ne, ↓n_iinc, ↓b_iload, ↓b_iload_n, ↓b_imul, ↓b_ior, ↓b_ishl, ↓n_istore, ↓n_istore_n, ↓b_isub, ↓b_vret, ↓ldI_hit, ↓ldI_skip, ↓ldL_hit, ↓ldL_skip, ↓ldA_hit, ↓ldA_skip, ↓ldelK_nil, ↓ldelK_hit, ↓ldelK_skipI, ↓ldelK_skipA, ↓ldelK_skipL, lget_hit, lget_skip, ldel_nil, ldel_hit, ldel_skipI, ldel_skipA, ldel_skipL, ldel2_nil, ldel2_hit, ldel2_hit2, ldel2_skipI, ldel2_skipA, ldel2_skipL, vc_0, mCall_P0, mCat_nil, mCat_I, mCat_L, mCat_A, mRcv_A, mArg_nil, mArg_I, mArg_L, mArg_A, tsg, swt_nil, swt_cons, lkw_nil, lkw_cons, ↓reduceIte, Nat.reduceAdd, Nat.reduceEqDiff, Nat.reduceLeDiff, Nat.reduceMul, true_and, and_true, and_self, List.mem_cons, List.not_mem_nil, or_false, or_self, false_or, true_implies, forall_const]
    simp (disch := omega) only [ixq, ixz, sb_in, sb_in0, upI_sb, upI_sb0, sb_out, nI_add, nI_mul, nI_subq, Nat.zero_add, forall_eq, u2_at, u2_row, upd_at, upd_ne, hB, hB0, hG, nI_lq]
    refine ⟨fun _ => ?_, fun hc => absurd (Nat.le_refl G) hc⟩
    generalize hp : fo G (useF B w) (R, nI 0) = p
    refine loop_up (fun g => bb X P0 m_X4_goOnce (h) K (vc X P0 m_X4_goOnce (h) K k_X4_goOnce [5,107] 5) s_X4_goOnce_107 [(4, .inl (nI g)), (3, .inl p.2), (0, .inr (.inr (3, 0, r))), (1, .inr (.inr (0, 0, b))), (2, .inl (nI w))] [] (sb μ r 12 (fo g (giveF B w p.2) (u2 p.1 10 w (p.1 10 w ||| p.2))))) G ?_ ?_
    · simp only [↓w_X4_goOnce_0, ↓w_X4_goOnce_5, ↓w_X4_goOnce_88, ↓w_X4_goOnce_94, ↓w_X4_goOnce_107, ↓w_X4_goOnce_190, ↓w_X4_goOnce_196, ↓v_X4_goOnce_5, ↓v_X4_goOnce_88, ↓v_X4_goOnce_94, ↓v_X4_goOnce_107, ↓v_X4_goOnce_190, ↓v_X4_goOnce_196, ↓b_aload_n, ↓b_bipush, ↓b_dup2, ↓b_getA, ↓b_getI, ↓b_goto, ↓b_iadd, ↓b_iaload, ↓n_iastore, ↓b_ic_ge, ↓b_iconst, ↓b_if_le, ↓b_if_ne, ↓n_iinc, ↓b_iload, ↓b_iload_n, ↓b_imul, ↓b_ior, ↓b_ishl, ↓n_istore, ↓n_istore_n, ↓b_isub, ↓b_vret, ↓ldI_hit, ↓ldI_skip, ↓ldL_hit, ↓ldL_skip, ↓ldA_hit, ↓ldA_skip, ↓ldelK_nil, ↓ldelK_hit, ↓ldelK_skipI, ↓ldelK_skipA, ↓ldelK_skipL, lget_hit, lget_skip, ldel_nil, ldel_hit, ldel_skipI, ldel_skipA, ldel_skipL, ldel2_nil, ldel2_hit, ldel2_hit2, ldel2_skipI, ldel2_skipA, ldel2_skipL, vc_0, mCall_P0, mCat_nil, mCat_I, mCat_L, mCat_A, mRcv_A, mArg_nil, mArg_I, mArg_L, mArg_A, tsg, swt_nil, swt_cons, lkw_nil, lkw_cons, ↓reduceIte, Nat.reduceAdd, Nat.reduceEqDiff, Nat.reduceLeDiff, Nat.reduceMul, true_and, and_true, and_self, List.mem_cons, List.not_mem_nil, or_false, or_self, false_or, true_implies, forall_const]
      simp (disch := omega) only [ixq, ixz, sb_in, sb_in0, upI_sb, upI_sb0, sb_out, nI_add, nI_mul, nI_subq, Nat.zero_add, forall_eq, u2_at, u2_row, upd_at, upd_ne, hB, hB0, hG, nI_lq]
      refine ⟨fun _ => ?_, fun hc => absurd (Nat.le_refl G) hc⟩
      rw [← hp]
      exact hK
    · intro g hg ih
      rw [fo_s] at ih
      simp only [↓w_X4_goOnce_0, ↓w_X4_goOnce_5, ↓w_X4_goOnce_88, ↓w_X4_goOnce_94, ↓w_X4_goOnce_107, ↓w_X4_goOnce_190, ↓w_X4_goOnce_196, ↓v_X4_goOnce_5, ↓v_X4_goOnce_88, ↓v_X4_goOnce_94, ↓v_X4_goOnce_107, ↓v_X4_goOnce_190, ↓v_X4_goOnce_196, ↓b_aload_n, ↓b_bipush, ↓b_dup2, ↓b_getA, ↓b_getI, ↓b_goto, ↓b_iadd, ↓b_iaload, ↓n_iastore, ↓b_ic_ge, ↓b_iconst, ↓b_if_le, ↓b_if_ne, ↓n_iinc, ↓b_iload, ↓b_iload_n, ↓b_imul, ↓b_ior, ↓b_ishl, ↓n_istore, ↓n_istore_n, ↓b_isub, ↓b_vret, ↓ldI_hit, ↓ldI_skip, ↓ldL_hit, ↓ldL_skip, ↓ldA_hit, ↓ldA_skip, ↓ldelK_nil, ↓ldelK_hit, ↓ldelK_skipI, ↓ldelK_skipA, ↓ldelK_skipL, lget_hit, lget_skip, ldel_nil, ldel_hit, ldel_skipI, ldel_skipA, ldel_skipL, ldel2_nil, ldel2_hit, ldel2_hit2, ldel2_skipI, ldel2_skipA, ldel2_skipL, vc_0, mCall_P0, mCat_nil, mCat_I, mCat_L, mCat_A, mRcv_A, mArg_nil, mArg_I, mArg_L, mArg_A, tsg, swt_nil, swt_cons, lkw_nil, lkw_cons, ↓reduceIte, Nat.reduceAdd, Nat.reduceEqDiff, Nat.reduceLeDiff, Nat.reduceMul, true_and, and_true, and_self, List.mem_cons, List.not_mem_nil, or_false, or_self, false_or, true_implies, forall_const]
      simp (disch := omega) only [ixq, ixz, sb_in, sb_in0, upI_sb, upI_sb0, sb_out, nI_add, nI_mul, nI_subq, Nat.zero_add, forall_eq, u2_at, u2_row, upd_at, upd_ne, hB, hB0, hG, nI_lq]
      refine ⟨fun hc => absurd hc (by omega), fun _ => ⟨fun hc => ?_, fun hc => ?_⟩⟩
      · rw [giveF_pos hc] at ih
        exact vc_back P0_ok ok_X4_goOnce [5, 107] 5 t_X4_goOnce_107 ih (by simp [nI_add, ldel, mIsL]) rfl
      · rw [giveF_neg hc] at ih
        exact vc_back P0_ok ok_X4_goOnce [5, 107] 5 t_X4_goOnce_107 ih (by simp [nI_add, ldel, mIsL]) rfl
  · intro g hg ih
    rw [fo_s] at ih
    simp only [↓w_X4_goOnce_0, ↓w_X4_goOnce_5, ↓w_X4_goOnce_88, ↓w_X4_goOnce_94, ↓w_X4_goOnce_107, ↓w_X4_goOnce_190, ↓w_X4_goOnce_196, ↓v_X4_goOnce_5, ↓v_X4_goOnce_88, ↓v_X4_goOnce_94, ↓v_X4_goOnce_107, ↓v_X4_goOnce_190, ↓v_X4_goOnce_196, ↓b_aload_n, ↓b_bipush, ↓b_dup2, ↓b_getA, ↓b_getI, ↓b_goto, ↓b_iadd, ↓b_iaload, ↓n_iastore, ↓b_ic_ge, ↓b_iconst, ↓b_if_le, ↓b_if_ne, ↓n_iinc, ↓b_iload, ↓b_iload_n, ↓b_imul, ↓b_ior, ↓b_ishl, ↓n_istore, ↓n_istore_n, ↓b_isub, ↓b_vret, ↓ldI_hit, ↓ldI_skip, ↓ldL_hit, ↓ldL_skip, ↓ldA_hit, ↓ldA_skip, ↓ldelK_nil, ↓ldelK_hit, ↓ldelK_skipI, ↓ldelK_skipA, ↓ldelK_skipL, lget_hit, lget_skip, ldel_nil, ldel_hit, ldel_skipI, ldel_skipA, ldel_skipL, ldel2_nil, ldel2_hit, ldel2_hit2, ldel2_skipI, ldel2_skipA, ldel2_skipL, vc_0, mCall_P0, mCat_nil, mCat_I, mCat_L, mCat_A, mRcv_A, mArg_nil, mArg_I, mArg_L, mArg_A, tsg, swt_nil, swt_cons, lkw_nil, lkw_cons, ↓reduceIte, Nat.reduceAdd, Nat.reduceEqDiff, Nat.reduceLeDiff, Nat.reduceMul, true_and, and_true, and_self, List.mem_cons, List.not_mem_nil, or_false, or_self, false_or, true_implies, forall_const]
    simp (disch := omega) only [ixq, ixz, sb_in, sb_in0, upI_sb, upI_sb0, sb_out, nI_add, nI_mul, nI_subq, Nat.zero_add, forall_eq, u2_at, u2_row, upd_at, upd_ne, hB, hB0, hG, nI_lq]
    refine ⟨fun hc => absurd hc (by omega), fun _ => ⟨fun hc => ?_, fun hc => ?_⟩⟩
    · rw [useF_neg hc] at ih
      exact vc_back P0_ok ok_X4_goOnce [5, 107] 6 t_X4_goOnce_5 ih (by simp [nI_add, ldel, mIsL]) rfl
    · rw [useF_pos hc] at ih
      exact vc_back P0_ok ok_X4_goOnce [5, 107] 6 t_X4_goOnce_5 ih (by simp [nI_add, ldel, mIsL]) rfl
end MR2
/-- one HOUR of a RUN -/
def workF (G W : Nat) (B : Bk) (free hod : Int32) (w : Nat) (R : Bk) : Bk :=
  let R1 := fo G (comeF B w) R
  let R2 := if B 4 w ≤ hod ∧ hod ≤ B 5 w ∧ free >>> (nI w &&& 31) &&& nI 1 = nI 1 then
      (let p := fo G (hasF B w) (R1, nI 1)
       if p.2 = 0 then p.1 else goF G B w p.1)
    else R1
  if w + 1 < W then fo G (loseF B) R2 else R2
def passF (G W : Nat) (B : Bk) (free : Int32) (R : Bk) : Bk :=
  let hod := R 0 0 - R 0 0 / nI 12 * nI 12
  let R1 := if B 0 3 = 0 then R else fo G (loseF B) R
  let R2 := fo W (workF G W B free hod) R1
  let R3 := if B 0 3 = 0 then fo G outF R2 else R2
  u2 R3 0 0 (R3 0 0 + nI 1)
section MR3
variable {X : mC} {h r b : Nat} {K : MV → Mem → Prop} {μ : Mem} {R : Bk} {G W : Nat}
theorem c_pass {B : Bk} {free : Int32} (hB : ∀ k, k < 12 → μ.1 (b + k) = B k) (hG : B 0 0 = nI G) (hG6 : G ≤ 6) (hW : B 0 1 = nI W) (hW8 : W ≤ 8) (hd : b + 12 ≤ r ∨ r + 12 ≤ b) (hK : K (.inl 0) (sb μ r 12 (passF G W B free R))) : mMet X (h + 3) m_X4_pass [.inr (.inr (3, 0, r)), .inr (.inr (0, 0, b)), .inl free] (sb μ r 12 R) K := by
  have hB0 : μ.1 b = B 0 := hB 0 (by omega)
  refine vc_met2 P0_ok ok_X4_pass cm_X4_pass [20,23] 6 t_X4_pass_0 (Nat.le_of_ble_eq_true rfl) ?_
  simp only [mArg_nil, mArg_I, mArg_L, mArg_A, Nat.reduceAdd]
  simp only [↓w_X4_pass_0, ↓w_X4_pass_23, ↓w_X4_pass_65, ↓w_X4_pass_66, ↓w_X4_pass_100, ↓w_X4_pass_116, ↓w_X4_pass_122, ↓w_X4_pass_134, ↓v_X4_pass_20, ↓v_X4_pass_23, ↓v_X4_pass_65, ↓v_X4_pass_66, ↓v_X4_pass_100, ↓v_X4_pass_116, ↓v_X4_pass_122, ↓v_X4_pass_134, ↓b_aload_n, ↓b_bipush, ↓b_callV2_0, ↓b_callV3_0, ↓b_callV3_1, ↓b_dupA, ↓b_dupI, ↓b_getA, ↓b_getI, ↓b_getZ, ↓b_goto, ↓b_iadd, ↓b_iaload, ↓b_iand, ↓b_ic_ge, ↓b_ic_gt, ↓b_ic_ne, ↓b_iconst, ↓b_if_eq, ↓b_if_ne, ↓n_iinc, ↓b_iload, ↓b_iload_n, ↓b_irem, ↓b_ishr, ↓n_istore, ↓n_istore_n, ↓b_isub, ↓n_putI, ↓b_vret, ↓ldI_hit, ↓ldI_skip, ↓ldL_hit, ↓ldL_skip, ↓ldA_hit, ↓ldA_skip, ↓ldelK_nil, ↓ldelK_hit, ↓ldelK_skipI, ↓ldelK_skipA, ↓ldelK_skipL, lget_hit, lget_skip, ldel_nil, ldel_hit, ldel_skipI, ldel_skipA, ldel_skipL, ldel2_nil, ldel2_hit, ldel2_hit2, ldel2_skipI, ldel2_skipA, ldel2_skipL, vc_0, mCall_P0, mCat_nil, mCat_I, mCat_L, mCat_A, mRcv_A, mArg_nil, mArg_I, mArg_L, mArg_A, tsg, swt_nil, swt_cons, lkw_nil, lkw_cons, ↓reduceIte, Nat.reduceAdd, Nat.reduceEqDiff, Nat.reduceLeDiff, Nat.reduceMul, true_and, and_true, and_self, List.mem_cons, List.not_mem_nil, or_false, or_self, false_or, true_implies, forall_const]
  simp (disch := omega) only [ixq, ixz, sb_in, sb_in0, upI_sb, upI_sb0, sb_out, nI_add, nI_mul, nI_subq, Nat.zero_add, forall_eq, u2_at, u2_row, upd_at, upd_ne, hB, hB0]
  trace_state
  sorry
end MR3
