/-! the next TOKEN -/
def cl (x : Int32) : Nat := x.toNatClampNeg
theorem cl_nI {n : Nat} (h : n < 2 ^ 31) : cl (nI n) = n := nI_clamp h
def advI (T : Bk) : Nat := skF (T 1) (cl (T 0 2) - cl (T 0 4)) (cl (T 0 4))
def advF (T : Bk) : Bk :=
  if T 0 3 ≤ nI (advI T) ∧ T 0 3 < T 0 2 then u2 (u2 (u2 (u2 (u2 T 0 7 (nI 0)) 0 8 (-1)) 0 5 (nI 1)) 0 6 (T 0 3)) 0 4 (nI (advI T))
  else if cl (T 0 2) ≤ advI T then u2 (u2 (u2 (u2 (u2 T 0 7 (nI 0)) 0 8 (-1)) 0 6 (nI (advI T))) 0 5 (nI 0)) 0 4 (T 0 2)
  else tokF (cl (T 0 2)) (advI T) (u2 (u2 (u2 T 0 7 (nI 0)) 0 8 (-1)) 0 6 (nI (advI T)))
def tpOk (T : Bk) : Prop := ∃ L N, L ≤ 940 ∧ N ≤ L ∧ T 0 2 = nI L ∧ T 0 4 = nI N
theorem tok1_row {T : Bk} {j k : Nat} {s : Tk} (hk : k ≠ 0) : tok1 T j s k = T k := by
  unfold tok1
  split
  · simp only [u2_row hk]
  · split
    · simp only [u2_row hk]
    · split
      · simp only [u2_row hk]
      · simp only [u2_row hk]
theorem tok1_at {T : Bk} {j i : Nat} {s : Tk} (h4 : i ≠ 4) (h5 : i ≠ 5) (h7 : i ≠ 7) : tok1 T j s 0 i = T 0 i := by
  unfold tok1
  split
  · simp only [u2_at, upd_ne h4, upd_ne h5, upd_ne h7]
  · split
    · simp only [u2_at, upd_ne h4, upd_ne h5, upd_ne h7]
    · split
      · simp only [u2_at, upd_ne h4, upd_ne h5, upd_ne h7]
      · simp only [u2_at, upd_ne h4, upd_ne h5, upd_ne h7]
theorem tokF_row {T : Bk} {L j k : Nat} (hk : k ≠ 0) : tokF L j T k = T k := by
  unfold tokF kwsF
  split
  · rw [kwF_row hk, tok1_row hk]
  · rw [tok1_row hk]
theorem tokF_at {T : Bk} {L j i : Nat} (h4 : i ≠ 4) (h5 : i ≠ 5) (h7 : i ≠ 7) (h8 : i ≠ 8) : tokF L j T 0 i = T 0 i := by
  unfold tokF kwsF
  split
  · rw [kwF_at h8, tok1_at h4 h5 h7]
  · rw [tok1_at h4 h5 h7]
theorem tokF_at4 {T : Bk} {L j : Nat} (hj : j < L) : ∃ N, j < N ∧ N ≤ L ∧ tokF L j T 0 4 = nI N := by
  have hb := rtF_b (T 1) (L - j) (j, 0, 0, nI 0, nI 0)
  unfold tokF kwsF
  generalize rtF (T 1) (L - j) (j, 0, 0, nI 0, nI 0) = S at hb ⊢
  simp only [Nat.add_zero, Nat.zero_add] at hb
  have key : ∃ N, j < N ∧ N ≤ L ∧ tok1 T j S 0 4 = nI N := by
    unfold tok1
    split
    · exact ⟨j + 1, by omega, by omega, by rw [u2_at, upd_at]⟩
    · split
      · exact ⟨S.1, by omega, by omega, by simp only [u2_at, upd_ne (show (4 : Nat) ≠ 7 by decide), upd_ne (show (4 : Nat) ≠ 5 by decide), upd_at]⟩
      · split
        · exact ⟨S.1, by omega, by omega, by simp only [u2_at, upd_ne (show (4 : Nat) ≠ 7 by decide), upd_ne (show (4 : Nat) ≠ 5 by decide), upd_at]⟩
        · exact ⟨S.1, by omega, by omega, by simp only [u2_at, upd_at]⟩
  obtain ⟨N, k1, k2, k3⟩ := key
  refine ⟨N, k1, k2, ?_⟩
  split
  · rw [kwF_at (by decide)]; exact k3
  · exact k3
theorem advF_row {T : Bk} {k : Nat} (hk : k ≠ 0) : advF T k = T k := by
  unfold advF
  split
  · simp only [u2_row hk]
  · split
    · simp only [u2_row hk]
    · rw [tokF_row hk]; simp only [u2_row hk]
theorem advF_at {T : Bk} {i : Nat} (h4 : i ≠ 4) (h5 : i ≠ 5) (h6 : i ≠ 6) (h7 : i ≠ 7) (h8 : i ≠ 8) : advF T 0 i = T 0 i := by
  unfold advF
  split
  · simp only [u2_at, upd_ne h4, upd_ne h5, upd_ne h6, upd_ne h7, upd_ne h8]
  · split
    · simp only [u2_at, upd_ne h4, upd_ne h5, upd_ne h6, upd_ne h7, upd_ne h8]
    · rw [tokF_at h4 h5 h7 h8]; simp only [u2_at, upd_ne h6, upd_ne h7, upd_ne h8]
theorem advI_b {T : Bk} {L N : Nat} (h1 : L ≤ 940) (h2 : N ≤ L) (h3 : T 0 2 = nI L) (h4 : T 0 4 = nI N) : N ≤ advI T ∧ advI T ≤ L := by
  unfold advI
  rw [h3, h4, cl_nI (by omega), cl_nI (by omega)]
  have := skF_ge (f := T 1) (L - N) N
  omega
theorem advF_ok {T : Bk} (h : tpOk T) : tpOk (advF T) := by
  obtain ⟨L, N, h1, h2, h3, h4⟩ := h
  have hb := advI_b h1 h2 h3 h4
  have e2 : advF T 0 2 = nI L := (advF_at (by decide) (by decide) (by decide) (by decide) (by decide)).trans h3
  unfold tpOk
  refine ⟨L, ?_⟩
  rw [e2]
  unfold advF
  split
  · exact ⟨advI T, h1, hb.2, rfl, by rw [u2_at, upd_at]⟩
  · split
    · exact ⟨L, h1, Nat.le_refl L, rfl, by rw [u2_at, upd_at]; exact h3⟩
    · rename_i hc
      rw [h3, cl_nI (by omega)] at hc ⊢
      obtain ⟨M, k1, k2, k3⟩ := tokF_at4 (T := u2 (u2 (u2 T 0 7 (nI 0)) 0 8 (-1)) 0 6 (nI (advI T))) (show advI T < L by omega)
      exact ⟨M, h1, k2, rfl, k3⟩
theorem u2_ok {T : Bk} {i : Nat} {x : Int32} (h2 : i ≠ 2) (h4 : i ≠ 4) (h : tpOk T) : tpOk (u2 T 0 i x) := by
  obtain ⟨L, N, k1, k2, k3, k4⟩ := h
  exact ⟨L, N, k1, k2, by rw [u2_at, upd_ne h2.symm]; exact k3, by rw [u2_at, upd_ne h4.symm]; exact k4⟩
theorem failF_ok {T : Bk} {k : Int32} (h : tpOk T) : tpOk (failF k T) := u2_ok (by decide) (by decide) (u2_ok (by decide) (by decide) h)
def openF (m : Int32) (T : Bk) : Bk := advF (u2 (u2 (u2 (u2 (u2 T 0 3 m) 0 4 (nI 0)) 0 9 (nI 0)) 0 10 (nI 0)) 0 11 (nI 0))
theorem open_ok {T : Bk} {m : Int32} (h : ∃ L, L ≤ 940 ∧ T 0 2 = nI L) : tpOk (u2 (u2 (u2 (u2 (u2 T 0 3 m) 0 4 (nI 0)) 0 9 (nI 0)) 0 10 (nI 0)) 0 11 (nI 0)) := by
  obtain ⟨L, h1, h2⟩ := h
  refine ⟨L, 0, h1, Nat.zero_le L, ?_, ?_⟩
  · simp only [u2_at, upd_ne (show (2 : Nat) ≠ 11 by decide), upd_ne (show (2 : Nat) ≠ 10 by decide), upd_ne (show (2 : Nat) ≠ 9 by decide), upd_ne (show (2 : Nat) ≠ 4 by decide), upd_ne (show (2 : Nat) ≠ 3 by decide)]
    exact h2
  · simp only [u2_at, upd_ne (show (4 : Nat) ≠ 11 by decide), upd_ne (show (4 : Nat) ≠ 10 by decide), upd_ne (show (4 : Nat) ≠ 9 by decide), upd_at]
abbrev sgP (c : Int32) (T : Bk) : Prop := T 0 5 = nI 4 ∧ T 0 7 = c
abbrev nmP (T : Bk) : Prop := T 0 5 = nI 2 ∧ T 0 8 = -1
abbrev numP (lo hi : Int32) (T : Bk) : Prop := T 0 5 = nI 3 ∧ lo ≤ T 0 7 ∧ T 0 7 ≤ hi
def numE (T : Bk) : Int32 := if T 0 5 = nI 3 then nI 2 else nI 1
def numF (T : Bk) : Bk := advF (u2 T 0 9 (T 0 7))
theorem numF_ok {T : Bk} (h : tpOk T) : tpOk (numF T) := advF_ok (u2_ok (by decide) (by decide) h)
theorem numF_9 {T : Bk} : numF T 0 9 = T 0 7 := by
  unfold numF
  rw [advF_at (by decide) (by decide) (by decide) (by decide) (by decide), u2_at, upd_at]
section MAd
variable {X : mC} {h t : Nat} {K : MV → Mem → Prop} {μ : Mem} {T : Bk}
theorem c_advance (hT : tpOk T) (hK : K (.inl 0) (sb μ t 3 (advF T))) : mMet X (h + 2) m_X6_advance [.inr (.inr (5, 0, t))] (sb μ t 3 T) K := by
  obtain ⟨L, N, hL9, hNL, hL, hN⟩ := hT
  have hb := advI_b hL9 hNL hL hN
  (refine vc_met2 P0_ok ok_X6_advance cm_X6_advance [5,41] 8 t_X6_advance_0 (Nat.le_of_ble_eq_true rfl) ?_; simp only [mArg_nil, mArg_I, mArg_L, mArg_A, Nat.reduceAdd])
  simp only [↓w_X6_advance_0, ↓w_X6_advance_35, ↓w_X6_advance_41, ↓w_X6_advance_89, ↓w_X6_advance_118, ↓w_X6_advance_122, ↓v_X6_advance_5, ↓v_X6_advance_35, ↓v_X6_advance_41, ↓v_X6_advance_89, ↓v_X6_advance_118, ↓v_X6_advance_122, ↓b_aload_n, ↓b_bipush, ↓b_callV1_0, ↓b_getA, ↓b_getI, ↓b_goto, ↓b_iaload, ↓b_ic_eq, ↓b_ic_ge, ↓b_ic_le, ↓b_ic_lt, ↓b_ic_ne, ↓b_iconst, ↓n_iinc, ↓b_iload_n, ↓n_istore_n, ↓n_putI, ↓b_vret, ↓ldI_hit, ↓ldI_skip, ↓ldL_hit, ↓ldL_skip, ↓ldA_hit, ↓ldA_skip, ↓ldelK_nil, ↓ldelK_hit, ↓ldelK_skipI, ↓ldelK_skipA, ↓ldelK_skipL, lget_hit, lget_skip, ldel_nil, ldel_hit, ldel_skipI, ldel_skipA, ldel_skipL, ldel2_nil, ldel2_hit, ldel2_hit2, ldel2_skipI, ldel2_skipA, ldel2_skipL, vc_0, mCall_P0, mCat_nil, mCat_I, mCat_L, mCat_A, mRcv_A, mArg_nil, mArg_I, mArg_L, mArg_A, tsg, swt_nil, swt_cons, lkw_nil, lkw_cons, ↓reduceIte, Nat.reduceAdd, Nat.reduceEqDiff, Nat.reduceLeDiff, Nat.reduceMul, true_and, and_true, and_self, List.mem_cons, List.not_mem_nil, or_false, or_self, false_or, true_implies, false_implies, not_true_eq_false, not_false_eq_true, nI00, nI10, nI01, nI11, forall_const, implies_true]
  simp (disch := omega) only [ixq, ixz, sb_in, sb_in0, upI_sb, upI_sb0, sb_out, nI_add, nI_mul, nI_subq, Nat.zero_add, forall_eq, u2_at, u2_row, upd_at, upd_ne, nI0b, nI1b, nI00, nI10, nI01, nI11, true_implies, false_implies, not_true_eq_false, not_false_eq_true, and_true, true_and, implies_true, hN]
  unfold advF at hK
  generalize hI : advI T = I at hb hK
  have hI2 : skF (T 1) (L - N) N = I := by
    rw [← hI]
    unfold advI
    rw [hL, hN, cl_nI (by omega), cl_nI (by omega)]
  rw [hL, cl_nI (by omega)] at hK
  have fin : mAt X m_X6_advance (h + 1) K 41 [(1, .inl (nI I)), (0, .inr (.inr (5, 0, t)))] [] (sb μ t 3 T) := by
    (refine vc_from P0_ok ok_X6_advance [5,41] 8 ?_; rw [t_X6_advance_41])
    (try simp only [↓w_X6_advance_0, ↓w_X6_advance_5, ↓w_X6_advance_35, ↓w_X6_advance_41, ↓w_X6_advance_89, ↓w_X6_advance_118, ↓w_X6_advance_122, ↓v_X6_advance_5, ↓v_X6_advance_35, ↓v_X6_advance_41, ↓v_X6_advance_89, ↓v_X6_advance_118, ↓v_X6_advance_122, ↓b_aload_n, ↓b_bipush, ↓b_callV1_0, ↓b_getA, ↓b_getI, ↓b_goto, ↓b_iaload, ↓b_ic_eq, ↓b_ic_ge, ↓b_ic_le, ↓b_ic_lt, ↓b_ic_ne, ↓b_iconst, ↓n_iinc, ↓b_iload_n, ↓n_istore_n, ↓n_putI, ↓b_vret, ↓ldI_hit, ↓ldI_skip, ↓ldL_hit, ↓ldL_skip, ↓ldA_hit, ↓ldA_skip, ↓ldelK_nil, ↓ldelK_hit, ↓ldelK_skipI, ↓ldelK_skipA, ↓ldelK_skipL, lget_hit, lget_skip, ldel_nil, ldel_hit, ldel_skipI, ldel_skipA, ldel_skipL, ldel2_nil, ldel2_hit, ldel2_hit2, ldel2_skipI, ldel2_skipA, ldel2_skipL, vc_0, mCall_P0, mCat_nil, mCat_I, mCat_L, mCat_A, mRcv_A, mArg_nil, mArg_I, mArg_L, mArg_A, tsg, swt_nil, swt_cons, lkw_nil, lkw_cons, ↓reduceIte, Nat.reduceAdd, Nat.reduceEqDiff, Nat.reduceLeDiff, Nat.reduceMul, true_and, and_true, and_self, List.mem_cons, List.not_mem_nil, or_false, or_self, false_or, true_implies, false_implies, not_true_eq_false, not_false_eq_true, nI00, nI10, nI01, nI11, forall_const, implies_true]); (try simp (disch := omega) only [ixq, ixz, sb_in, sb_in0, upI_sb, upI_sb0, sb_out, nI_add, nI_mul, nI_subq, Nat.zero_add, forall_eq, u2_at, u2_row, upd_at, upd_ne, nI0b, nI1b, nI00, nI10, nI01, nI11, true_implies, false_implies, not_true_eq_false, not_false_eq_true, and_true, true_and, implies_true, hL, nI_lq, nI_ltq])
    have en : ¬ (T 0 3 ≤ nI I ∧ T 0 3 < nI L) → ¬ I < L → K (.inl 0) (sb μ t 3 (u2 (u2 (u2 (u2 (u2 T 0 7 (nI 0)) 0 8 (-1)) 0 6 (nI I)) 0 5 (nI 0)) 0 4 (nI L))) := by
      intro h2 h1
      rw [if_neg h2, if_pos (by omega)] at hK
      exact hK
    refine ⟨fun h1 => ?_, fun h1 => ⟨fun h2 => ?_, fun h2 => ?_⟩⟩
    · have hn : ¬ (T 0 3 ≤ nI I ∧ T 0 3 < nI L) := fun z => absurd z.1 (Int32.not_le.mpr h1)
      refine ⟨fun h3 => ?_, fun h3 => en hn h3⟩
      rw [if_neg hn, if_neg (by omega)] at hK
      refine c_readToken (L := L) (j := I) ?_ hL9 ?_ h3 hK
      · simp (disch := omega) only [ixq, ixz, sb_in, sb_in0, upI_sb, upI_sb0, sb_out, nI_add, nI_mul, nI_subq, Nat.zero_add, forall_eq, u2_at, u2_row, upd_at, upd_ne, nI0b, nI1b, nI00, nI10, nI01, nI11, true_implies, false_implies, not_true_eq_false, not_false_eq_true, and_true, true_and, implies_true]
        exact hL
      · simp (disch := omega) only [ixq, ixz, sb_in, sb_in0, upI_sb, upI_sb0, sb_out, nI_add, nI_mul, nI_subq, Nat.zero_add, forall_eq, u2_at, u2_row, upd_at, upd_ne, nI0b, nI1b, nI00, nI10, nI01, nI11, true_implies, false_implies, not_true_eq_false, not_false_eq_true, and_true, true_and, implies_true]
    · have hn : ¬ (T 0 3 ≤ nI I ∧ T 0 3 < nI L) := fun z => absurd z.2 (Int32.not_lt.mpr h2)
      refine ⟨fun h3 => ?_, fun h3 => en hn h3⟩
      rw [if_neg hn, if_neg (by omega)] at hK
      refine c_readToken (L := L) (j := I) ?_ hL9 ?_ h3 hK
      · simp (disch := omega) only [ixq, ixz, sb_in, sb_in0, upI_sb, upI_sb0, sb_out, nI_add, nI_mul, nI_subq, Nat.zero_add, forall_eq, u2_at, u2_row, upd_at, upd_ne, nI0b, nI1b, nI00, nI10, nI01, nI11, true_implies, false_implies, not_true_eq_false, not_false_eq_true, and_true, true_and, implies_true]
        exact hL
      · simp (disch := omega) only [ixq, ixz, sb_in, sb_in0, upI_sb, upI_sb0, sb_out, nI_add, nI_mul, nI_subq, Nat.zero_add, forall_eq, u2_at, u2_row, upd_at, upd_ne, nI0b, nI1b, nI00, nI10, nI01, nI11, true_implies, false_implies, not_true_eq_false, not_false_eq_true, and_true, true_and, implies_true]
    · rw [if_pos ⟨Int32.not_lt.mp h1, Int32.not_le.mp h2⟩] at hK
      exact hK
  have main : ∀ n i, i + n = L → skF (T 1) n i = I → bb X P0 m_X6_advance (h + 1) K (vc X P0 m_X6_advance (h + 1) K k_X6_advance [5,41] 8) s_X6_advance_5 [(1, .inl (nI i)), (0, .inr (.inr (5, 0, t)))] [] (sb μ t 3 T) := by
    intro n
    induction n with
    | zero =>
      intro i hi he
      have he2 : i = I := he
      subst he2
      (try simp only [↓w_X6_advance_0, ↓w_X6_advance_5, ↓w_X6_advance_35, ↓w_X6_advance_41, ↓w_X6_advance_89, ↓w_X6_advance_118, ↓w_X6_advance_122, ↓v_X6_advance_5, ↓v_X6_advance_35, ↓v_X6_advance_41, ↓v_X6_advance_89, ↓v_X6_advance_118, ↓v_X6_advance_122, ↓b_aload_n, ↓b_bipush, ↓b_callV1_0, ↓b_getA, ↓b_getI, ↓b_goto, ↓b_iaload, ↓b_ic_eq, ↓b_ic_ge, ↓b_ic_le, ↓b_ic_lt, ↓b_ic_ne, ↓b_iconst, ↓n_iinc, ↓b_iload_n, ↓n_istore_n, ↓n_putI, ↓b_vret, ↓ldI_hit, ↓ldI_skip, ↓ldL_hit, ↓ldL_skip, ↓ldA_hit, ↓ldA_skip, ↓ldelK_nil, ↓ldelK_hit, ↓ldelK_skipI, ↓ldelK_skipA, ↓ldelK_skipL, lget_hit, lget_skip, ldel_nil, ldel_hit, ldel_skipI, ldel_skipA, ldel_skipL, ldel2_nil, ldel2_hit, ldel2_hit2, ldel2_skipI, ldel2_skipA, ldel2_skipL, vc_0, mCall_P0, mCat_nil, mCat_I, mCat_L, mCat_A, mRcv_A, mArg_nil, mArg_I, mArg_L, mArg_A, tsg, swt_nil, swt_cons, lkw_nil, lkw_cons, ↓reduceIte, Nat.reduceAdd, Nat.reduceEqDiff, Nat.reduceLeDiff, Nat.reduceMul, true_and, and_true, and_self, List.mem_cons, List.not_mem_nil, or_false, or_self, false_or, true_implies, false_implies, not_true_eq_false, not_false_eq_true, nI00, nI10, nI01, nI11, forall_const, implies_true]); (try simp (disch := omega) only [ixq, ixz, sb_in, sb_in0, upI_sb, upI_sb0, sb_out, nI_add, nI_mul, nI_subq, Nat.zero_add, forall_eq, u2_at, u2_row, upd_at, upd_ne, nI0b, nI1b, nI00, nI10, nI01, nI11, true_implies, false_implies, not_true_eq_false, not_false_eq_true, and_true, true_and, implies_true, hL, nI_lq])
      exact ⟨fun _ => fin, fun hc => absurd hc (by omega)⟩
    | succ n ih =>
      intro i hi he
      unfold skF at he
      have bk : (T 1 i = nI 32 ∨ T 1 i = nI 10) → mAt X m_X6_advance (h + 1) K 5 [(1, .inl (nI (i + 1))), (0, .inr (.inr (5, 0, t)))] [] (sb μ t 3 T) := by
        intro hc
        rw [if_pos hc] at he
        exact vc_back P0_ok ok_X6_advance [5,41] 8 t_X6_advance_5 (ih (i + 1) (by omega) he) (by simp) (rfl)
      have st : ¬ (T 1 i = nI 32 ∨ T 1 i = nI 10) → mAt X m_X6_advance (h + 1) K 41 [(1, .inl (nI i)), (0, .inr (.inr (5, 0, t)))] [] (sb μ t 3 T) := by
        intro hc
        rw [if_neg hc] at he
        rw [he]
        exact fin
      (try simp only [↓w_X6_advance_0, ↓w_X6_advance_5, ↓w_X6_advance_35, ↓w_X6_advance_41, ↓w_X6_advance_89, ↓w_X6_advance_118, ↓w_X6_advance_122, ↓v_X6_advance_5, ↓v_X6_advance_35, ↓v_X6_advance_41, ↓v_X6_advance_89, ↓v_X6_advance_118, ↓v_X6_advance_122, ↓b_aload_n, ↓b_bipush, ↓b_callV1_0, ↓b_getA, ↓b_getI, ↓b_goto, ↓b_iaload, ↓b_ic_eq, ↓b_ic_ge, ↓b_ic_le, ↓b_ic_lt, ↓b_ic_ne, ↓b_iconst, ↓n_iinc, ↓b_iload_n, ↓n_istore_n, ↓n_putI, ↓b_vret, ↓ldI_hit, ↓ldI_skip, ↓ldL_hit, ↓ldL_skip, ↓ldA_hit, ↓ldA_skip, ↓ldelK_nil, ↓ldelK_hit, ↓ldelK_skipI, ↓ldelK_skipA, ↓ldelK_skipL, lget_hit, lget_skip, ldel_nil, ldel_hit, ldel_skipI, ldel_skipA, ldel_skipL, ldel2_nil, ldel2_hit, ldel2_hit2, ldel2_skipI, ldel2_skipA, ldel2_skipL, vc_0, mCall_P0, mCat_nil, mCat_I, mCat_L, mCat_A, mRcv_A, mArg_nil, mArg_I, mArg_L, mArg_A, tsg, swt_nil, swt_cons, lkw_nil, lkw_cons, ↓reduceIte, Nat.reduceAdd, Nat.reduceEqDiff, Nat.reduceLeDiff, Nat.reduceMul, true_and, and_true, and_self, List.mem_cons, List.not_mem_nil, or_false, or_self, false_or, true_implies, false_implies, not_true_eq_false, not_false_eq_true, nI00, nI10, nI01, nI11, forall_const, implies_true]); (try simp (disch := omega) only [ixq, ixz, sb_in, sb_in0, upI_sb, upI_sb0, sb_out, nI_add, nI_mul, nI_subq, Nat.zero_add, forall_eq, u2_at, u2_row, upd_at, upd_ne, nI0b, nI1b, nI00, nI10, nI01, nI11, true_implies, false_implies, not_true_eq_false, not_false_eq_true, and_true, true_and, implies_true, hL, nI_lq])
      exact ⟨fun hc => absurd hc (by omega), fun _ => ⟨fun h1 => bk (Or.inl h1), fun h1 => ⟨fun h2 => st (fun z => z.elim h1 h2), fun h2 => bk (Or.inr h2)⟩⟩⟩
  exact main (L - N) N (by omega) hI2
theorem c_openText {m : Int32} (hT : ∃ L, L ≤ 940 ∧ T 0 2 = nI L) (hK : K (.inl 0) (sb μ t 3 (openF m T))) : mMet X (h + 3) m_X6_openText [.inr (.inr (5, 0, t)), .inl m] (sb μ t 3 T) K := by
  (refine vc_met2 P0_ok ok_X6_openText cm_X6_openText [] 4 t_X6_openText_0 (Nat.le_of_ble_eq_true rfl) ?_; simp only [mArg_nil, mArg_I, mArg_L, mArg_A, Nat.reduceAdd])
  (try simp only [↓w_X6_openText_0, ↓b_aload_n, ↓b_callV1_0, ↓b_iconst, ↓b_iload_n, ↓n_putI, ↓b_vret, ↓ldI_hit, ↓ldI_skip, ↓ldL_hit, ↓ldL_skip, ↓ldA_hit, ↓ldA_skip, ↓ldelK_nil, ↓ldelK_hit, ↓ldelK_skipI, ↓ldelK_skipA, ↓ldelK_skipL, lget_hit, lget_skip, ldel_nil, ldel_hit, ldel_skipI, ldel_skipA, ldel_skipL, ldel2_nil, ldel2_hit, ldel2_hit2, ldel2_skipI, ldel2_skipA, ldel2_skipL, vc_0, mCall_P0, mCat_nil, mCat_I, mCat_L, mCat_A, mRcv_A, mArg_nil, mArg_I, mArg_L, mArg_A, tsg, swt_nil, swt_cons, lkw_nil, lkw_cons, ↓reduceIte, Nat.reduceAdd, Nat.reduceEqDiff, Nat.reduceLeDiff, Nat.reduceMul, true_and, and_true, and_self, List.mem_cons, List.not_mem_nil, or_false, or_self, false_or, true_implies, false_implies, not_true_eq_false, not_false_eq_true, nI00, nI10, nI01, nI11, forall_const, implies_true]); (try simp (disch := omega) only [ixq, ixz, sb_in, sb_in0, upI_sb, upI_sb0, sb_out, nI_add, nI_mul, nI_subq, Nat.zero_add, forall_eq, u2_at, u2_row, upd_at, upd_ne, nI0b, nI1b, nI00, nI10, nI01, nI11, true_implies, false_implies, not_true_eq_false, not_false_eq_true, and_true, true_and, implies_true])
  exact c_advance (open_ok hT) hK
theorem c_takeSign {c : Int32} (hT : tpOk T) (h1 : sgP c T → K (.inl (nI 1)) (sb μ t 3 (advF T))) (h0 : ¬ sgP c T → K (.inl (nI 0)) (sb μ t 3 (failF (nI 1) T))) : mMet X (h + 3) m_X6_takeSign [.inr (.inr (5, 0, t)), .inl c] (sb μ t 3 T) K := by
  (refine vc_met2 P0_ok ok_X6_takeSign cm_X6_takeSign [] 4 t_X6_takeSign_0 (Nat.le_of_ble_eq_true rfl) ?_; simp only [mArg_nil, mArg_I, mArg_L, mArg_A, Nat.reduceAdd])
  (try simp only [↓w_X6_takeSign_0, ↓w_X6_takeSign_14, ↓v_X6_takeSign_14, ↓b_aload_n, ↓b_callV1_0, ↓b_callV2_1, ↓b_iconst, ↓b_if_ne, ↓b_iload_n, ↓b_zret, ↓ldI_hit, ↓ldI_skip, ↓ldL_hit, ↓ldL_skip, ↓ldA_hit, ↓ldA_skip, ↓ldelK_nil, ↓ldelK_hit, ↓ldelK_skipI, ↓ldelK_skipA, ↓ldelK_skipL, lget_hit, lget_skip, ldel_nil, ldel_hit, ldel_skipI, ldel_skipA, ldel_skipL, ldel2_nil, ldel2_hit, ldel2_hit2, ldel2_skipI, ldel2_skipA, ldel2_skipL, vc_0, mCall_P0, mCat_nil, mCat_I, mCat_L, mCat_A, mRcv_A, mArg_nil, mArg_I, mArg_L, mArg_A, tsg, swt_nil, swt_cons, lkw_nil, lkw_cons, ↓reduceIte, Nat.reduceAdd, Nat.reduceEqDiff, Nat.reduceLeDiff, Nat.reduceMul, true_and, and_true, and_self, List.mem_cons, List.not_mem_nil, or_false, or_self, false_or, true_implies, false_implies, not_true_eq_false, not_false_eq_true, nI00, nI10, nI01, nI11, forall_const, implies_true]); (try simp (disch := omega) only [ixq, ixz, sb_in, sb_in0, upI_sb, upI_sb0, sb_out, nI_add, nI_mul, nI_subq, Nat.zero_add, forall_eq, u2_at, u2_row, upd_at, upd_ne, nI0b, nI1b, nI00, nI10, nI01, nI11, true_implies, false_implies, not_true_eq_false, not_false_eq_true, and_true, true_and, implies_true])
  refine c_isThisSign ?_
  by_cases hc : T 0 5 = nI 4 ∧ T 0 7 = c
  · rw [bI_t hc]
    (try simp only [↓w_X6_takeSign_0, ↓w_X6_takeSign_14, ↓v_X6_takeSign_14, ↓b_aload_n, ↓b_callV1_0, ↓b_callV2_1, ↓b_iconst, ↓b_if_ne, ↓b_iload_n, ↓b_zret, ↓ldI_hit, ↓ldI_skip, ↓ldL_hit, ↓ldL_skip, ↓ldA_hit, ↓ldA_skip, ↓ldelK_nil, ↓ldelK_hit, ↓ldelK_skipI, ↓ldelK_skipA, ↓ldelK_skipL, lget_hit, lget_skip, ldel_nil, ldel_hit, ldel_skipI, ldel_skipA, ldel_skipL, ldel2_nil, ldel2_hit, ldel2_hit2, ldel2_skipI, ldel2_skipA, ldel2_skipL, vc_0, mCall_P0, mCat_nil, mCat_I, mCat_L, mCat_A, mRcv_A, mArg_nil, mArg_I, mArg_L, mArg_A, tsg, swt_nil, swt_cons, lkw_nil, lkw_cons, ↓reduceIte, Nat.reduceAdd, Nat.reduceEqDiff, Nat.reduceLeDiff, Nat.reduceMul, true_and, and_true, and_self, List.mem_cons, List.not_mem_nil, or_false, or_self, false_or, true_implies, false_implies, not_true_eq_false, not_false_eq_true, nI00, nI10, nI01, nI11, forall_const, implies_true]); (try simp (disch := omega) only [ixq, ixz, sb_in, sb_in0, upI_sb, upI_sb0, sb_out, nI_add, nI_mul, nI_subq, Nat.zero_add, forall_eq, u2_at, u2_row, upd_at, upd_ne, nI0b, nI1b, nI00, nI10, nI01, nI11, true_implies, false_implies, not_true_eq_false, not_false_eq_true, and_true, true_and, implies_true])
    exact c_advance hT (h1 hc)
  · rw [bI_f hc]
    (try simp only [↓w_X6_takeSign_0, ↓w_X6_takeSign_14, ↓v_X6_takeSign_14, ↓b_aload_n, ↓b_callV1_0, ↓b_callV2_1, ↓b_iconst, ↓b_if_ne, ↓b_iload_n, ↓b_zret, ↓ldI_hit, ↓ldI_skip, ↓ldL_hit, ↓ldL_skip, ↓ldA_hit, ↓ldA_skip, ↓ldelK_nil, ↓ldelK_hit, ↓ldelK_skipI, ↓ldelK_skipA, ↓ldelK_skipL, lget_hit, lget_skip, ldel_nil, ldel_hit, ldel_skipI, ldel_skipA, ldel_skipL, ldel2_nil, ldel2_hit, ldel2_hit2, ldel2_skipI, ldel2_skipA, ldel2_skipL, vc_0, mCall_P0, mCat_nil, mCat_I, mCat_L, mCat_A, mRcv_A, mArg_nil, mArg_I, mArg_L, mArg_A, tsg, swt_nil, swt_cons, lkw_nil, lkw_cons, ↓reduceIte, Nat.reduceAdd, Nat.reduceEqDiff, Nat.reduceLeDiff, Nat.reduceMul, true_and, and_true, and_self, List.mem_cons, List.not_mem_nil, or_false, or_self, false_or, true_implies, false_implies, not_true_eq_false, not_false_eq_true, nI00, nI10, nI01, nI11, forall_const, implies_true]); (try simp (disch := omega) only [ixq, ixz, sb_in, sb_in0, upI_sb, upI_sb0, sb_out, nI_add, nI_mul, nI_subq, Nat.zero_add, forall_eq, u2_at, u2_row, upd_at, upd_ne, nI0b, nI1b, nI00, nI10, nI01, nI11, true_implies, false_implies, not_true_eq_false, not_false_eq_true, and_true, true_and, implies_true])
    refine c_fail ?_
    (try simp only [↓w_X6_takeSign_0, ↓w_X6_takeSign_14, ↓v_X6_takeSign_14, ↓b_aload_n, ↓b_callV1_0, ↓b_callV2_1, ↓b_iconst, ↓b_if_ne, ↓b_iload_n, ↓b_zret, ↓ldI_hit, ↓ldI_skip, ↓ldL_hit, ↓ldL_skip, ↓ldA_hit, ↓ldA_skip, ↓ldelK_nil, ↓ldelK_hit, ↓ldelK_skipI, ↓ldelK_skipA, ↓ldelK_skipL, lget_hit, lget_skip, ldel_nil, ldel_hit, ldel_skipI, ldel_skipA, ldel_skipL, ldel2_nil, ldel2_hit, ldel2_hit2, ldel2_skipI, ldel2_skipA, ldel2_skipL, vc_0, mCall_P0, mCat_nil, mCat_I, mCat_L, mCat_A, mRcv_A, mArg_nil, mArg_I, mArg_L, mArg_A, tsg, swt_nil, swt_cons, lkw_nil, lkw_cons, ↓reduceIte, Nat.reduceAdd, Nat.reduceEqDiff, Nat.reduceLeDiff, Nat.reduceMul, true_and, and_true, and_self, List.mem_cons, List.not_mem_nil, or_false, or_self, false_or, true_implies, false_implies, not_true_eq_false, not_false_eq_true, nI00, nI10, nI01, nI11, forall_const, implies_true]); (try simp (disch := omega) only [ixq, ixz, sb_in, sb_in0, upI_sb, upI_sb0, sb_out, nI_add, nI_mul, nI_subq, Nat.zero_add, forall_eq, u2_at, u2_row, upd_at, upd_ne, nI0b, nI1b, nI00, nI10, nI01, nI11, true_implies, false_implies, not_true_eq_false, not_false_eq_true, and_true, true_and, implies_true])
    exact h0 hc
theorem c_takeNumber {lo hi : Int32} (hT : tpOk T) (h1 : numP lo hi T → K (.inl (nI 1)) (sb μ t 3 (numF T))) (h0 : ¬ numP lo hi T → K (.inl (nI 0)) (sb μ t 3 (failF (numE T) T))) : mMet X (h + 3) m_X6_takeNumber [.inr (.inr (5, 0, t)), .inl lo, .inl hi] (sb μ t 3 T) K := by
  (refine vc_met2 P0_ok ok_X6_takeNumber cm_X6_takeNumber [] 4 t_X6_takeNumber_0 (Nat.le_of_ble_eq_true rfl) ?_; simp only [mArg_nil, mArg_I, mArg_L, mArg_A, Nat.reduceAdd])
  (try simp only [↓w_X6_takeNumber_0, ↓w_X6_takeNumber_14, ↓w_X6_takeNumber_30, ↓w_X6_takeNumber_36, ↓v_X6_takeNumber_14, ↓v_X6_takeNumber_30, ↓v_X6_takeNumber_36, ↓b_aload_n, ↓b_callV1_0, ↓b_callV2_1, ↓b_getI, ↓b_ic_eq, ↓b_ic_le, ↓b_ic_lt, ↓b_iconst, ↓b_iload_n, ↓n_putI, ↓b_zret, ↓ldI_hit, ↓ldI_skip, ↓ldL_hit, ↓ldL_skip, ↓ldA_hit, ↓ldA_skip, ↓ldelK_nil, ↓ldelK_hit, ↓ldelK_skipI, ↓ldelK_skipA, ↓ldelK_skipL, lget_hit, lget_skip, ldel_nil, ldel_hit, ldel_skipI, ldel_skipA, ldel_skipL, ldel2_nil, ldel2_hit, ldel2_hit2, ldel2_skipI, ldel2_skipA, ldel2_skipL, vc_0, mCall_P0, mCat_nil, mCat_I, mCat_L, mCat_A, mRcv_A, mArg_nil, mArg_I, mArg_L, mArg_A, tsg, swt_nil, swt_cons, lkw_nil, lkw_cons, ↓reduceIte, Nat.reduceAdd, Nat.reduceEqDiff, Nat.reduceLeDiff, Nat.reduceMul, true_and, and_true, and_self, List.mem_cons, List.not_mem_nil, or_false, or_self, false_or, true_implies, false_implies, not_true_eq_false, not_false_eq_true, nI00, nI10, nI01, nI11, forall_const, implies_true]); (try simp (disch := omega) only [ixq, ixz, sb_in, sb_in0, upI_sb, upI_sb0, sb_out, nI_add, nI_mul, nI_subq, Nat.zero_add, forall_eq, u2_at, u2_row, upd_at, upd_ne, nI0b, nI1b, nI00, nI10, nI01, nI11, true_implies, false_implies, not_true_eq_false, not_false_eq_true, and_true, true_and, implies_true])
  unfold numE at h0
  refine ⟨fun h3 => ?_, fun h3 => ?_⟩
  · rw [if_pos h3] at h0
    refine ⟨fun h4 => ?_, fun h4 => ⟨fun h5 => ?_, fun h5 => ?_⟩⟩
    · refine c_fail ?_
      (try simp only [↓w_X6_takeNumber_0, ↓w_X6_takeNumber_14, ↓w_X6_takeNumber_30, ↓w_X6_takeNumber_36, ↓v_X6_takeNumber_14, ↓v_X6_takeNumber_30, ↓v_X6_takeNumber_36, ↓b_aload_n, ↓b_callV1_0, ↓b_callV2_1, ↓b_getI, ↓b_ic_eq, ↓b_ic_le, ↓b_ic_lt, ↓b_iconst, ↓b_iload_n, ↓n_putI, ↓b_zret, ↓ldI_hit, ↓ldI_skip, ↓ldL_hit, ↓ldL_skip, ↓ldA_hit, ↓ldA_skip, ↓ldelK_nil, ↓ldelK_hit, ↓ldelK_skipI, ↓ldelK_skipA, ↓ldelK_skipL, lget_hit, lget_skip, ldel_nil, ldel_hit, ldel_skipI, ldel_skipA, ldel_skipL, ldel2_nil, ldel2_hit, ldel2_hit2, ldel2_skipI, ldel2_skipA, ldel2_skipL, vc_0, mCall_P0, mCat_nil, mCat_I, mCat_L, mCat_A, mRcv_A, mArg_nil, mArg_I, mArg_L, mArg_A, tsg, swt_nil, swt_cons, lkw_nil, lkw_cons, ↓reduceIte, Nat.reduceAdd, Nat.reduceEqDiff, Nat.reduceLeDiff, Nat.reduceMul, true_and, and_true, and_self, List.mem_cons, List.not_mem_nil, or_false, or_self, false_or, true_implies, false_implies, not_true_eq_false, not_false_eq_true, nI00, nI10, nI01, nI11, forall_const, implies_true]); (try simp (disch := omega) only [ixq, ixz, sb_in, sb_in0, upI_sb, upI_sb0, sb_out, nI_add, nI_mul, nI_subq, Nat.zero_add, forall_eq, u2_at, u2_row, upd_at, upd_ne, nI0b, nI1b, nI00, nI10, nI01, nI11, true_implies, false_implies, not_true_eq_false, not_false_eq_true, and_true, true_and, implies_true])
      exact h0 (fun z => absurd z.2.1 (Int32.not_le.mpr h4))
    · exact c_advance (u2_ok (by decide) (by decide) hT) (h1 ⟨h3, Int32.not_lt.mp h4, h5⟩)
    · refine c_fail ?_
      (try simp only [↓w_X6_takeNumber_0, ↓w_X6_takeNumber_14, ↓w_X6_takeNumber_30, ↓w_X6_takeNumber_36, ↓v_X6_takeNumber_14, ↓v_X6_takeNumber_30, ↓v_X6_takeNumber_36, ↓b_aload_n, ↓b_callV1_0, ↓b_callV2_1, ↓b_getI, ↓b_ic_eq, ↓b_ic_le, ↓b_ic_lt, ↓b_iconst, ↓b_iload_n, ↓n_putI, ↓b_zret, ↓ldI_hit, ↓ldI_skip, ↓ldL_hit, ↓ldL_skip, ↓ldA_hit, ↓ldA_skip, ↓ldelK_nil, ↓ldelK_hit, ↓ldelK_skipI, ↓ldelK_skipA, ↓ldelK_skipL, lget_hit, lget_skip, ldel_nil, ldel_hit, ldel_skipI, ldel_skipA, ldel_skipL, ldel2_nil, ldel2_hit, ldel2_hit2, ldel2_skipI, ldel2_skipA, ldel2_skipL, vc_0, mCall_P0, mCat_nil, mCat_I, mCat_L, mCat_A, mRcv_A, mArg_nil, mArg_I, mArg_L, mArg_A, tsg, swt_nil, swt_cons, lkw_nil, lkw_cons, ↓reduceIte, Nat.reduceAdd, Nat.reduceEqDiff, Nat.reduceLeDiff, Nat.reduceMul, true_and, and_true, and_self, List.mem_cons, List.not_mem_nil, or_false, or_self, false_or, true_implies, false_implies, not_true_eq_false, not_false_eq_true, nI00, nI10, nI01, nI11, forall_const, implies_true]); (try simp (disch := omega) only [ixq, ixz, sb_in, sb_in0, upI_sb, upI_sb0, sb_out, nI_add, nI_mul, nI_subq, Nat.zero_add, forall_eq, u2_at, u2_row, upd_at, upd_ne, nI0b, nI1b, nI00, nI10, nI01, nI11, true_implies, false_implies, not_true_eq_false, not_false_eq_true, and_true, true_and, implies_true])
      exact h0 (fun z => h5 z.2.2)
  · rw [if_neg h3] at h0
    refine c_fail ?_
    (try simp only [↓w_X6_takeNumber_0, ↓w_X6_takeNumber_14, ↓w_X6_takeNumber_30, ↓w_X6_takeNumber_36, ↓v_X6_takeNumber_14, ↓v_X6_takeNumber_30, ↓v_X6_takeNumber_36, ↓b_aload_n, ↓b_callV1_0, ↓b_callV2_1, ↓b_getI, ↓b_ic_eq, ↓b_ic_le, ↓b_ic_lt, ↓b_iconst, ↓b_iload_n, ↓n_putI, ↓b_zret, ↓ldI_hit, ↓ldI_skip, ↓ldL_hit, ↓ldL_skip, ↓ldA_hit, ↓ldA_skip, ↓ldelK_nil, ↓ldelK_hit, ↓ldelK_skipI, ↓ldelK_skipA, ↓ldelK_skipL, lget_hit, lget_skip, ldel_nil, ldel_hit, ldel_skipI, ldel_skipA, ldel_skipL, ldel2_nil, ldel2_hit, ldel2_hit2, ldel2_skipI, ldel2_skipA, ldel2_skipL, vc_0, mCall_P0, mCat_nil, mCat_I, mCat_L, mCat_A, mRcv_A, mArg_nil, mArg_I, mArg_L, mArg_A, tsg, swt_nil, swt_cons, lkw_nil, lkw_cons, ↓reduceIte, Nat.reduceAdd, Nat.reduceEqDiff, Nat.reduceLeDiff, Nat.reduceMul, true_and, and_true, and_self, List.mem_cons, List.not_mem_nil, or_false, or_self, false_or, true_implies, false_implies, not_true_eq_false, not_false_eq_true, nI00, nI10, nI01, nI11, forall_const, implies_true]); (try simp (disch := omega) only [ixq, ixz, sb_in, sb_in0, upI_sb, upI_sb0, sb_out, nI_add, nI_mul, nI_subq, Nat.zero_add, forall_eq, u2_at, u2_row, upd_at, upd_ne, nI0b, nI1b, nI00, nI10, nI01, nI11, true_implies, false_implies, not_true_eq_false, not_false_eq_true, and_true, true_and, implies_true])
    exact h0 (fun z => h3 z.1)
end MAd
