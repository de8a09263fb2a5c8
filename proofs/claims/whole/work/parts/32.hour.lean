def rv (f : Nat → Int32) : Bk := fun k j => if k = 3 then f (8 + j) else if k = 4 then f (14 + j) else if k = 5 then f (22 + j) else if k = 6 then f (30 + j) else if k = 7 then f (38 + j) else if k = 8 then f (86 + j) else if k = 9 then f (134 + j) else if k = 10 then f (182 + j) else if k = 11 then f (230 + j) else if j = 3 then f 2 else f j
theorem rv_3 {f : Nat → Int32} {j : Nat} : rv f 3 j = f (8 + j) := rfl
theorem rv_4 {f : Nat → Int32} {j : Nat} : rv f 4 j = f (14 + j) := rfl
theorem rv_5 {f : Nat → Int32} {j : Nat} : rv f 5 j = f (22 + j) := rfl
theorem rv_6 {f : Nat → Int32} {j : Nat} : rv f 6 j = f (30 + j) := rfl
theorem rv_7 {f : Nat → Int32} {j : Nat} : rv f 7 j = f (38 + j) := rfl
theorem rv_8 {f : Nat → Int32} {j : Nat} : rv f 8 j = f (86 + j) := rfl
theorem rv_9 {f : Nat → Int32} {j : Nat} : rv f 9 j = f (134 + j) := rfl
theorem rv_10 {f : Nat → Int32} {j : Nat} : rv f 10 j = f (182 + j) := rfl
theorem rv_11 {f : Nat → Int32} {j : Nat} : rv f 11 j = f (230 + j) := rfl
def loseV (f : Nat → Int32) (g : Nat) (V : Bk) : Bk :=
  let v := if V 5 g < f (8 + g) then V 5 g else f (8 + g)
  let V1 := u2 (u2 V 5 g (V 5 g - v)) 11 (24 + g) (V 11 (24 + g) + v)
  if V 5 g - v ≤ 0 then u2 (u2 V1 6 g (nI 0)) 7 g (nI 0) else V1
def fillV (f : Nat → Int32) (w g : Nat) (V : Bk) : Bk :=
  let c := w * 6 + g
  let s := V 5 g + f (230 + c)
  let V1 := u2 (u2 V 5 g s) 11 g (V 11 g + f (230 + c))
  let room := f (86 + c) - V 1 c
  let v := if s < room then s else room
  if f (38 + c) = 0 then V1 else
  if 0 < v then
    (let V2 := u2 (u2 (u2 (u2 V1 1 c (V 1 c + v)) 2 c (V 2 c ||| V 6 g)) 3 c (V 3 c ||| V 7 g)) 5 g (s - v)
     if s - v ≤ 0 then u2 (u2 V2 6 g (nI 0)) 7 g (nI 0) else V2)
  else V1
def stpP (f2 : Nat → Int32) (pl : Int32) (L : Nat) (w hour : Int32) : Prop := ∃ k, k < L ∧ ¬ pl = 0 ∧ f2 (279 + 5 * k) = 0 ∧ f2 (279 + 5 * k + 1) = w ∧ f2 (279 + 5 * k + 2) ≤ hour ∧ hour ≤ f2 (279 + 5 * k + 3)
def useV (f : Nat → Int32) (w g : Nat) (p : Bk × Int32) : Bk × Int32 :=
  let c := w * 6 + g
  if f (38 + c) = 0 then p else
  let V1 := u2 (u2 p.1 1 c (p.1 1 c - f (38 + c))) 11 (18 + g) (p.1 11 (18 + g) + f (38 + c))
  (if p.1 1 c - f (38 + c) = 0 then u2 V1 2 c (nI 0) else V1, p.2 ||| p.1 2 c)
def giveV (f : Nat → Int32) (w : Nat) (m : Int32) (g : Nat) (V : Bk) : Bk :=
  let v := f (182 + (w * 6 + g))
  if v = 0 then V else u2 (u2 (u2 (u2 V 5 g (V 5 g + v)) 11 (12 + g) (V 11 (12 + g) + v)) 6 g (V 6 g ||| (m ||| nI 1 <<< (nI w &&& 31)))) 7 g (V 7 g ||| nI 1 <<< (nI w &&& 31))
def goV (G : Nat) (f : Nat → Int32) (w : Nat) (hour : Int32) (V : Bk) : Bk :=
  let p := fo G (useV f w) (V, nI 0)
  let V2 := fo G (giveV f w p.2) p.1
  u2 (u2 (u2 (u2 V2 10 w (V2 10 w ||| p.2)) 8 w (V2 8 w + nI 1)) 13 w (V2 13 w + f (30 + w))) 9 w hour
section MHr
variable {X : mC} {h m r base n : Nat} {K : MV → Mem → Prop} {μ : Mem} {Q V : Bk} {G W L : Nat}
theorem c_lose {g : Nat} (hg : g < 6) (hr : r = 2 ∨ r = 11) (hn : base + 296 ≤ n) (hn2 : n ≤ 925) (hK : K (.inl 0) (sb μ m 21 (rb r base Q (loseV (Q 10) g V)))) : mMet X (h + 2) m_X9_lose [.inr (.inr (8, 0, m)), .inr (.inr (16, n, m + r)), .inl (nI base), .inl (nI g)] (sb μ m 21 (rb r base Q V)) K := by
  (refine vc_met2 P1_ok ok_X9_lose cm_X9_lose [] 4 t_X9_lose_0 (Nat.le_of_ble_eq_true rfl) ?_; simp only [mArg_nil, mArg_I, mArg_L, mArg_A, Nat.reduceAdd])
  simp only [↓w_X9_lose_0, ↓w_X9_lose_55, ↓v_X9_lose_55, ↓b_aload_n, ↓b_bipush, ↓b_callS2_1, ↓b_dup2, ↓b_getA, ↓b_iadd, ↓b_iaload, ↓n_iastore, ↓b_iconst, ↓b_if_le, ↓b_iload, ↓b_iload_n, ↓n_istore, ↓b_isub, ↓b_sipush, ↓b_vret, ↓ldI_hit, ↓ldI_skip, ↓ldL_hit, ↓ldL_skip, ↓ldA_hit, ↓ldA_skip, ↓ldelK_nil, ↓ldelK_hit, ↓ldelK_skipI, ↓ldelK_skipA, ↓ldelK_skipL, qP1_X9_less, ↓bI_b, bI_0, nnot, lget_hit, lget_skip, ldel_nil, ldel_hit, ldel_skipI, ldel_skipA, ldel_skipL, ldel2_nil, ldel2_hit, ldel2_hit2, ldel2_skipI, ldel2_skipA, ldel2_skipL, vc_0, mCat_nil, mCat_I, mCat_L, mCat_A, mRcv_A, mArg_nil, mArg_I, mArg_L, mArg_A, tsg, swt_nil, swt_cons, lkw_nil, lkw_cons, ↓reduceIte, Nat.reduceAdd, Nat.reduceEqDiff, Nat.reduceLeDiff, Nat.reduceMul, true_and, and_true, and_self, List.mem_cons, List.not_mem_nil, or_false, or_self, false_or, true_implies, false_implies, not_true_eq_false, not_false_eq_true, nI00, nI10, nI01, nI11, forall_const, implies_true]
  simp (disch := omega) only [ixq, ixz, sb_in, sb_in0, upI_sb, upI_sb0, sb_out, nI_add, nI_mul, nI_subq, Nat.zero_add, forall_eq, u2_at, u2_row, upd_at, upd_ne, nI0b, nI1b, nI00, nI10, nI01, nI11, true_implies, false_implies, not_true_eq_false, not_false_eq_true, and_true, true_and, implies_true, rb_12, rb_13, rb_14, rb_up12, rb_up13, rb_up14, rb_else, rd_is, ru_is, rd_hour, ru_hour, rd_vat, ru_vat, rd_mark, ru_mark, rd_comes, ru_comes, rd_lacks, ru_lacks, rd_way, ru_way, rd_wmark, ru_wmark, rd_wfrom, ru_wfrom, rd_went, ru_went, rd_stood, ru_stood, rd_made, ru_made, rd_found, ru_found, rd_latest, ru_latest, rd_now, ru_now, rd_fed, ru_fed, rd_brought, ru_brought, rd_given, ru_given, rd_used, ru_used, rd_lost, ru_lost, rd_out, ru_out]
  unfold loseV at hK
  refine ⟨fun hc => ?_, fun hc => ?_⟩
  · simp only [if_pos hc] at hK
    exact hK
  · simp only [if_neg hc] at hK
    exact hK
set_option maxRecDepth 4000 in
theorem c_fillR {w g : Nat} (hw : w < 8) (hg : g < 6) (hr : r = 2 ∨ r = 11) (hn : base + 296 ≤ n) (hn2 : n ≤ 925) (hK : K (.inl 0) (sb μ m 21 (rb r base Q (fillV (Q 10) w g V)))) : mMet X (h + 2) m_X9_fill [.inr (.inr (8, 0, m)), .inr (.inr (16, n, m + r)), .inl (nI base), .inl (nI w), .inl (nI g)] (sb μ m 21 (rb r base Q V)) K := by
  (refine vc_met2 P1_ok ok_X9_fill cm_X9_fill [] 4 t_X9_fill_0 (Nat.le_of_ble_eq_true rfl) ?_; simp only [mArg_nil, mArg_I, mArg_L, mArg_A, Nat.reduceAdd])
  simp only [↓w_X9_fill_0, ↓w_X9_fill_86, ↓w_X9_fill_98, ↓w_X9_fill_106, ↓w_X9_fill_180, ↓v_X9_fill_86, ↓v_X9_fill_98, ↓v_X9_fill_106, ↓v_X9_fill_180, ↓b_aload_n, ↓b_bipush, ↓b_callS2_1, ↓b_dup2, ↓b_getA, ↓b_goto, ↓b_iadd, ↓b_iaload, ↓n_iastore, ↓b_iconst, ↓b_if_gt, ↓b_if_le, ↓b_if_ne, ↓b_iload, ↓b_iload_n, ↓b_ior, ↓n_istore, ↓b_isub, ↓b_sipush, ↓b_vret, ↓ldI_hit, ↓ldI_skip, ↓ldL_hit, ↓ldL_skip, ↓ldA_hit, ↓ldA_skip, ↓ldelK_nil, ↓ldelK_hit, ↓ldelK_skipI, ↓ldelK_skipA, ↓ldelK_skipL, qP1_X9_cell, qP1_X9_less, ↓bI_b, bI_0, nnot, lget_hit, lget_skip, ldel_nil, ldel_hit, ldel_skipI, ldel_skipA, ldel_skipL, ldel2_nil, ldel2_hit, ldel2_hit2, ldel2_skipI, ldel2_skipA, ldel2_skipL, vc_0, mCat_nil, mCat_I, mCat_L, mCat_A, mRcv_A, mArg_nil, mArg_I, mArg_L, mArg_A, tsg, swt_nil, swt_cons, lkw_nil, lkw_cons, ↓reduceIte, Nat.reduceAdd, Nat.reduceEqDiff, Nat.reduceLeDiff, Nat.reduceMul, true_and, and_true, and_self, List.mem_cons, List.not_mem_nil, or_false, or_self, false_or, true_implies, false_implies, not_true_eq_false, not_false_eq_true, nI00, nI10, nI01, nI11, forall_const, implies_true]
  simp (disch := omega) only [ixq, ixz, sb_in, sb_in0, upI_sb, upI_sb0, sb_out, nI_add, nI_mul, nI_subq, Nat.zero_add, forall_eq, u2_at, u2_row, upd_at, upd_ne, nI0b, nI1b, nI00, nI10, nI01, nI11, true_implies, false_implies, not_true_eq_false, not_false_eq_true, and_true, true_and, implies_true, rb_12, rb_13, rb_14, rb_up12, rb_up13, rb_up14, rb_else, rd_is, ru_is, rd_hour, ru_hour, rd_vat, ru_vat, rd_mark, ru_mark, rd_comes, ru_comes, rd_lacks, ru_lacks, rd_way, ru_way, rd_wmark, ru_wmark, rd_wfrom, ru_wfrom, rd_went, ru_went, rd_stood, ru_stood, rd_made, ru_made, rd_found, ru_found, rd_latest, ru_latest, rd_now, ru_now, rd_fed, ru_fed, rd_brought, ru_brought, rd_given, ru_given, rd_used, ru_used, rd_lost, ru_lost, rd_out, ru_out]
  unfold fillV at hK
  refine ⟨fun h0 => ?_, fun h0 => ?_⟩
  · simp only [if_neg h0] at hK
    refine ⟨fun hc => ?_, fun hc => ?_⟩
    · simp only [if_pos hc] at hK
      refine ⟨fun hc2 => ?_, fun hc2 => ?_⟩
      · simp only [if_pos hc2] at hK
        exact hK
      · simp only [if_neg hc2] at hK
        exact hK
    · simp only [if_neg hc] at hK
      exact hK
  · simp only [if_pos h0] at hK
    exact ⟨fun hc => absurd hc (by decide), fun _ => hK⟩
theorem rb_now {j : Nat} (hr : r = 2 ∧ base = 621 ∨ r = 11) (hj : j < 621) : rb r base Q V 2 j = Q 2 j := by
  rcases hr with ⟨rfl, rfl⟩ | rfl
  · exact rb_lo hj
  · rw [rb_else (by decide) (by decide) (by decide) (by decide)]
theorem c_isStopped {w hour : Int32} (hr : r = 2 ∧ base = 621 ∨ r = 11) (hL : Q 2 278 = nI L) (hL20 : L ≤ 20) (h1 : stpP (Q 2) (Q 0 29) L w hour → K (.inl (nI 1)) (sb μ m 21 (rb r base Q V))) (h0 : ¬ stpP (Q 2) (Q 0 29) L w hour → K (.inl (nI 0)) (sb μ m 21 (rb r base Q V))) : mMet X (h + 2) m_X9_isStopped [.inr (.inr (8, 0, m)), .inl w, .inl hour] (sb μ m 21 (rb r base Q V)) K := by
  have hb : ∀ j, j < 621 → rb r base Q V 2 j = Q 2 j := fun j hj => rb_now hr hj
  (refine vc_met2 P1_ok ok_X9_isStopped cm_X9_isStopped [2,80] 6 t_X9_isStopped_0 (Nat.le_of_ble_eq_true rfl) ?_; simp only [mArg_nil, mArg_I, mArg_L, mArg_A, Nat.reduceAdd])
  simp only [↓w_X9_isStopped_0, ↓w_X9_isStopped_80, ↓w_X9_isStopped_86, ↓v_X9_isStopped_2, ↓v_X9_isStopped_80, ↓v_X9_isStopped_86, ↓b_aload_n, ↓b_callS3_1, ↓b_getA, ↓b_getZ, ↓b_goto, ↓b_iadd, ↓b_iaload, ↓b_ic_ge, ↓b_ic_ne, ↓b_iconst, ↓b_if_eq, ↓b_if_ne, ↓n_iinc, ↓b_iload, ↓b_iload_n, ↓b_imul, ↓n_istore, ↓n_istore_n, ↓b_sipush, ↓b_zret, ↓ldI_hit, ↓ldI_skip, ↓ldL_hit, ↓ldL_skip, ↓ldA_hit, ↓ldA_skip, ↓ldelK_nil, ↓ldelK_hit, ↓ldelK_skipI, ↓ldelK_skipA, ↓ldelK_skipL, qP1_X9_isIn, ↓bI_b, bI_0, nnot, lget_hit, lget_skip, ldel_nil, ldel_hit, ldel_skipI, ldel_skipA, ldel_skipL, ldel2_nil, ldel2_hit, ldel2_hit2, ldel2_skipI, ldel2_skipA, ldel2_skipL, vc_0, mCat_nil, mCat_I, mCat_L, mCat_A, mRcv_A, mArg_nil, mArg_I, mArg_L, mArg_A, tsg, swt_nil, swt_cons, lkw_nil, lkw_cons, ↓reduceIte, Nat.reduceAdd, Nat.reduceEqDiff, Nat.reduceLeDiff, Nat.reduceMul, true_and, and_true, and_self, List.mem_cons, List.not_mem_nil, or_false, or_self, false_or, true_implies, false_implies, not_true_eq_false, not_false_eq_true, nI00, nI10, nI01, nI11, forall_const, implies_true]
  rintro _ rfl
  refine loop_up (fun k => (∀ j, j < k → ¬ (¬ Q 0 29 = 0 ∧ Q 2 (279 + 5 * j) = 0 ∧ Q 2 (279 + 5 * j + 1) = w ∧ Q 2 (279 + 5 * j + 2) ≤ hour ∧ hour ≤ Q 2 (279 + 5 * j + 3))) → bb X P1 m_X9_isStopped (h + 1) K (vc X P1 m_X9_isStopped (h + 1) K k_X9_isStopped [2,80] 6) s_X9_isStopped_2 [(3, .inl (nI k)), (0, .inr (.inr (8, 0, m))), (1, .inl w), (2, .inl hour)] [] (sb μ m 21 (rb r base Q V))) L ?_ ?_ (fun i hi => absurd hi (Nat.not_lt_zero i))
  · intro hv
    have hk0 := h0 (fun z => by obtain ⟨k, z1, z2⟩ := z; exact hv k z1 z2)
    simp only [↓w_X9_isStopped_0, ↓w_X9_isStopped_2, ↓w_X9_isStopped_80, ↓w_X9_isStopped_86, ↓v_X9_isStopped_2, ↓v_X9_isStopped_80, ↓v_X9_isStopped_86, ↓b_aload_n, ↓b_callS3_1, ↓b_getA, ↓b_getZ, ↓b_goto, ↓b_iadd, ↓b_iaload, ↓b_ic_ge, ↓b_ic_ne, ↓b_iconst, ↓b_if_eq, ↓b_if_ne, ↓n_iinc, ↓b_iload, ↓b_iload_n, ↓b_imul, ↓n_istore, ↓n_istore_n, ↓b_sipush, ↓b_zret, ↓ldI_hit, ↓ldI_skip, ↓ldL_hit, ↓ldL_skip, ↓ldA_hit, ↓ldA_skip, ↓ldelK_nil, ↓ldelK_hit, ↓ldelK_skipI, ↓ldelK_skipA, ↓ldelK_skipL, qP1_X9_isIn, ↓bI_b, bI_0, nnot, lget_hit, lget_skip, ldel_nil, ldel_hit, ldel_skipI, ldel_skipA, ldel_skipL, ldel2_nil, ldel2_hit, ldel2_hit2, ldel2_skipI, ldel2_skipA, ldel2_skipL, vc_0, mCat_nil, mCat_I, mCat_L, mCat_A, mRcv_A, mArg_nil, mArg_I, mArg_L, mArg_A, tsg, swt_nil, swt_cons, lkw_nil, lkw_cons, ↓reduceIte, Nat.reduceAdd, Nat.reduceEqDiff, Nat.reduceLeDiff, Nat.reduceMul, true_and, and_true, and_self, List.mem_cons, List.not_mem_nil, or_false, or_self, false_or, true_implies, false_implies, not_true_eq_false, not_false_eq_true, nI00, nI10, nI01, nI11, forall_const, implies_true]
    simp (disch := omega) only [ixq, ixz, sb_in, sb_in0, upI_sb, upI_sb0, sb_out, nI_add, nI_mul, nI_subq, Nat.zero_add, forall_eq, u2_at, u2_row, upd_at, upd_ne, nI0b, nI1b, nI00, nI10, nI01, nI11, true_implies, false_implies, not_true_eq_false, not_false_eq_true, and_true, true_and, implies_true, hb, hL, nI_lq]
    exact ⟨fun _ => hk0, fun hc => absurd (Nat.le_refl L) hc⟩
  · intro k hk ih hv
    have nx : ∀ y, ¬ (¬ Q 0 29 = 0 ∧ Q 2 (279 + 5 * k) = 0 ∧ Q 2 (279 + 5 * k + 1) = w ∧ Q 2 (279 + 5 * k + 2) ≤ hour ∧ hour ≤ Q 2 (279 + 5 * k + 3)) → mAt X m_X9_isStopped (h + 1) K 80 [(4, .inl y), (3, .inl (nI k)), (0, .inr (.inr (8, 0, m))), (1, .inl w), (2, .inl hour)] [] (sb μ m 21 (rb r base Q V)) := by
      intro y hc
      (refine vc_from P1_ok ok_X9_isStopped [2,80] 6 ?_; rw [t_X9_isStopped_80])
      simp only [↓w_X9_isStopped_0, ↓w_X9_isStopped_2, ↓w_X9_isStopped_80, ↓w_X9_isStopped_86, ↓v_X9_isStopped_2, ↓v_X9_isStopped_80, ↓v_X9_isStopped_86, ↓b_aload_n, ↓b_callS3_1, ↓b_getA, ↓b_getZ, ↓b_goto, ↓b_iadd, ↓b_iaload, ↓b_ic_ge, ↓b_ic_ne, ↓b_iconst, ↓b_if_eq, ↓b_if_ne, ↓n_iinc, ↓b_iload, ↓b_iload_n, ↓b_imul, ↓n_istore, ↓n_istore_n, ↓b_sipush, ↓b_zret, ↓ldI_hit, ↓ldI_skip, ↓ldL_hit, ↓ldL_skip, ↓ldA_hit, ↓ldA_skip, ↓ldelK_nil, ↓ldelK_hit, ↓ldelK_skipI, ↓ldelK_skipA, ↓ldelK_skipL, qP1_X9_isIn, ↓bI_b, bI_0, nnot, lget_hit, lget_skip, ldel_nil, ldel_hit, ldel_skipI, ldel_skipA, ldel_skipL, ldel2_nil, ldel2_hit, ldel2_hit2, ldel2_skipI, ldel2_skipA, ldel2_skipL, vc_0, mCat_nil, mCat_I, mCat_L, mCat_A, mRcv_A, mArg_nil, mArg_I, mArg_L, mArg_A, tsg, swt_nil, swt_cons, lkw_nil, lkw_cons, ↓reduceIte, Nat.reduceAdd, Nat.reduceEqDiff, Nat.reduceLeDiff, Nat.reduceMul, true_and, and_true, and_self, List.mem_cons, List.not_mem_nil, or_false, or_self, false_or, true_implies, false_implies, not_true_eq_false, not_false_eq_true, nI00, nI10, nI01, nI11, forall_const, implies_true]
      simp (disch := omega) only [ixq, ixz, sb_in, sb_in0, upI_sb, upI_sb0, sb_out, nI_add, nI_mul, nI_subq, Nat.zero_add, forall_eq, u2_at, u2_row, upd_at, upd_ne, nI0b, nI1b, nI00, nI10, nI01, nI11, true_implies, false_implies, not_true_eq_false, not_false_eq_true, and_true, true_and, implies_true]
      exact vc_back P1_ok ok_X9_isStopped [2,80] 6 t_X9_isStopped_2 (ih (all_s hv hc)) (by simp) (rfl)
    simp only [↓w_X9_isStopped_0, ↓w_X9_isStopped_2, ↓w_X9_isStopped_80, ↓w_X9_isStopped_86, ↓v_X9_isStopped_2, ↓v_X9_isStopped_80, ↓v_X9_isStopped_86, ↓b_aload_n, ↓b_callS3_1, ↓b_getA, ↓b_getZ, ↓b_goto, ↓b_iadd, ↓b_iaload, ↓b_ic_ge, ↓b_ic_ne, ↓b_iconst, ↓b_if_eq, ↓b_if_ne, ↓n_iinc, ↓b_iload, ↓b_iload_n, ↓b_imul, ↓n_istore, ↓n_istore_n, ↓b_sipush, ↓b_zret, ↓ldI_hit, ↓ldI_skip, ↓ldL_hit, ↓ldL_skip, ↓ldA_hit, ↓ldA_skip, ↓ldelK_nil, ↓ldelK_hit, ↓ldelK_skipI, ↓ldelK_skipA, ↓ldelK_skipL, qP1_X9_isIn, ↓bI_b, bI_0, nnot, lget_hit, lget_skip, ldel_nil, ldel_hit, ldel_skipI, ldel_skipA, ldel_skipL, ldel2_nil, ldel2_hit, ldel2_hit2, ldel2_skipI, ldel2_skipA, ldel2_skipL, vc_0, mCat_nil, mCat_I, mCat_L, mCat_A, mRcv_A, mArg_nil, mArg_I, mArg_L, mArg_A, tsg, swt_nil, swt_cons, lkw_nil, lkw_cons, ↓reduceIte, Nat.reduceAdd, Nat.reduceEqDiff, Nat.reduceLeDiff, Nat.reduceMul, true_and, and_true, and_self, List.mem_cons, List.not_mem_nil, or_false, or_self, false_or, true_implies, false_implies, not_true_eq_false, not_false_eq_true, nI00, nI10, nI01, nI11, forall_const, implies_true]
    simp (disch := omega) only [ixq, ixz, sb_in, sb_in0, upI_sb, upI_sb0, sb_out, nI_add, nI_mul, nI_subq, Nat.zero_add, forall_eq, u2_at, u2_row, upd_at, upd_ne, nI0b, nI1b, nI00, nI10, nI01, nI11, true_implies, false_implies, not_true_eq_false, not_false_eq_true, and_true, true_and, implies_true, hb, hL, nI_lq, rb_12, rb_13, rb_14, rb_up12, rb_up13, rb_up14, rb_else, rd_is, ru_is, rd_hour, ru_hour, rd_vat, ru_vat, rd_mark, ru_mark, rd_comes, ru_comes, rd_lacks, ru_lacks, rd_way, ru_way, rd_wmark, ru_wmark, rd_wfrom, ru_wfrom, rd_went, ru_went, rd_stood, ru_stood, rd_made, ru_made, rd_found, ru_found, rd_latest, ru_latest, rd_now, ru_now, rd_fed, ru_fed, rd_brought, ru_brought, rd_given, ru_given, rd_used, ru_used, rd_lost, ru_lost, rd_out, ru_out]
    exact ⟨fun hc => absurd hc (by omega), fun _ => ⟨fun hp => h0 (fun z => by obtain ⟨j, _, z2, _⟩ := z; exact z2 hp), fun hp => ⟨fun c1 => nx _ (fun z => c1 z.2.1), fun c1 => ⟨fun c2 => nx _ (fun z => c2 z.2.2.1), fun c2 => ⟨fun c3 => nx _ (fun z => c3 z.2.2.2), fun c3 => h1 ⟨k, hk, hp, c1, c2, c3⟩⟩⟩⟩⟩⟩
end MHr
