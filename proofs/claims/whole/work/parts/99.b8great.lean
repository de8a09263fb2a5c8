def pcN (s : Nat) : Nat := s % 2 + s / 2 % 2 + s / 4 % 2 + s / 8 % 2 + s / 16 % 2 + s / 32 % 2 + s / 64 % 2 + s / 128 % 2
theorem pcN_le {s : Nat} : pcN s ≤ 8 := by unfold pcN; omega
theorem pcN_s : ∀ s, s < 256 → 0 < s → pcN s = pcN (s &&& (s - 1)) + 1 ∧ (s &&& (s - 1)) < s ∧ nI s &&& (nI s - nI 1) = nI (s &&& (s - 1)) := by decide +kernel
theorem bit_first : ∀ s, s < 256 → 0 < s → ∃ f, f < 8 ∧ 2 ^ f ≤ s ∧ nI s >>> (nI f &&& 31) &&& nI 1 = nI 1 ∧ ∀ j, j < f → ¬ nI s >>> (nI j &&& 31) &&& nI 1 = nI 1 := by decide +kernel
theorem sets_but {W w : Nat} (w8 : W ≤ 8) (hw : w < W) : ∃ a, a < 2 ^ W ∧ nI (2 ^ W - 1) &&& (nI 1 <<< (nI w &&& 31) ^^^ -1) = nI a := by
  have h1 : W = 1 ∨ W = 2 ∨ W = 3 ∨ W = 4 ∨ W = 5 ∨ W = 6 ∨ W = 7 ∨ W = 8 := by omega
  have h2 : w = 0 ∨ w = 1 ∨ w = 2 ∨ w = 3 ∨ w = 4 ∨ w = 5 ∨ w = 6 ∨ w = 7 := by omega
  refine ⟨2 ^ W - 1 - 2 ^ w, ?_⟩
  rcases h1 with rfl | rfl | rfl | rfl | rfl | rfl | rfl | rfl <;> rcases h2 with rfl | rfl | rfl | rfl | rfl | rfl | rfl | rfl <;> first | omega | (refine ⟨by decide, by decide⟩)
theorem with_le {s a : Nat} (hs : s < 256) (ha : a < 256) (h : nI s &&& (nI a ^^^ -1) = 0) : s ≤ a := by
  have e : ∀ i, i < 32 → (BitVec.ofNat 32 s).getLsbD i = true → (BitVec.ofNat 32 a).getLsbD i = true := by
    intro i hi hb
    have h' : ((nI s).toBitVec &&& ((nI a).toBitVec ^^^ (-1 : Int32).toBitVec)).getLsbD i = (0 : Int32).toBitVec.getLsbD i := by rw [← h]; rfl
    rw [BitVec.getLsbD_and, BitVec.getLsbD_xor] at h'
    have m1 : (-1 : Int32).toBitVec.getLsbD i = true := by
      show (BitVec.allOnes 32).getLsbD i = true
      rw [BitVec.getLsbD_allOnes]
      exact decide_eq_true hi
    have z0 : (0 : Int32).toBitVec.getLsbD i = false := by
      show (0#32).getLsbD i = false
      exact BitVec.getLsbD_zero
    have s1 : (nI s).toBitVec.getLsbD i = true := hb
    rw [m1, z0, s1] at h'
    have a1 : (nI a).toBitVec.getLsbD i = true := by
      cases hc : (nI a).toBitVec.getLsbD i
      · rw [hc] at h'
        exact absurd h' (by decide)
      · rfl
    exact a1
  have e2 : s &&& a = s := by
    apply Nat.eq_of_testBit_eq
    intro i
    rw [Nat.testBit_and]
    cases hc : s.testBit i
    · rfl
    · have hi : i < 32 := by
        by_cases hi : i < 32
        · exact hi
        · have : s < 2 ^ i := Nat.lt_of_lt_of_le (show s < 2 ^ 8 by omega) (Nat.pow_le_pow_right (by decide) (by omega))
          rw [Nat.testBit_lt_two_pow this] at hc
          exact absurd hc (by decide)
      have g := e i hi (by rw [BitVec.getLsbD_ofNat, hc, decide_eq_true hi]; rfl)
      rw [BitVec.getLsbD_ofNat, decide_eq_true hi] at g
      exact g
  rw [← e2]
  exact Nat.and_le_right
theorem and_1 {y : Int32} : y &&& nI 1 = nI 0 ∨ y &&& nI 1 = nI 1 := by
  rw [pk_and _ 1 (by decide)]
  have : y.toBitVec.toNat % 2 ^ 1 = 0 ∨ y.toBitVec.toNat % 2 ^ 1 = 1 := by omega
  rcases this with e | e
  · rw [e]; exact Or.inl rfl
  · rw [e]; exact Or.inr rfl
/-- the largest STEADY set found among the first n -/
def grF (bf : Nat → Nat) (a : Nat) : Nat → Nat
  | 0 => 0
  | n + 1 => if nI (n + 1) &&& (nI a ^^^ -1) = 0 ∧ pcN (grF bf a n) < pcN (n + 1) ∧ bf (n + 1) = 1 then n + 1 else grF bf a n
theorem grF_le {bf : Nat → Nat} {a : Nat} : ∀ n, grF bf a n ≤ n := by
  intro n
  induction n with
  | zero => exact Nat.le_refl 0
  | succ n ih =>
    unfold grF
    split <;> omega
theorem grF_hi {bf : Nat → Nat} {a : Nat} : ∀ j, a + j < 256 → grF bf a (a + j) = grF bf a a := by
  intro j
  induction j with
  | zero => intro _; rfl
  | succ j ih =>
    intro hj
    show grF bf a (a + j + 1) = _
    rw [← ih (by omega)]
    show (if _ then _ else _) = _
    rw [if_neg]
    rintro ⟨h1, _⟩
    have := with_le (by omega) (by omega) h1
    omega
section MGr
variable {X : mC} {h x m : Nat} {μ μ1 : Mem} {K : MV → Mem → Prop} {Q B : Bk} {G W : Nat} {N : Nat → Int64} {bf : Nat → Nat}
theorem c_bitCount {s : Nat} (hs : s < 256) (hK : K (.inl (nI (pcN s))) μ) : mMet X (h + 1) m_J6_bitCount_0f7a4 [.inl (nI s)] μ K := by
  have key : ∀ z, z = nI (pcN s) → K (.inl z) μ := fun z e => by rw [e]; exact hK
  (refine vc_met2 P0_ok ok_J6_bitCount_0f7a4 cm_J6_bitCount_0f7a4 [] 6 t_J6_bitCount_0f7a4_0 (Nat.le_of_ble_eq_true rfl) ?_; simp only [mArg_nil, mArg_I, mArg_L, mArg_A, Nat.reduceAdd])
  (try simp only [↓w_J6_bitCount_0f7a4_0, ↓b_bipush, ↓b_iadd, ↓b_iand, ↓b_iconst, ↓b_iload_n, ↓b_iret, ↓n_istore_n, ↓n_isub, ↓b_iushr, ↓b_ldc_w, ↓ldI_hit, ↓ldI_skip, ↓ldL_hit, ↓ldL_skip, ↓ldA_hit, ↓ldA_skip, ↓ldelK_nil, ↓ldelK_hit, ↓ldelK_skipI, ↓ldelK_skipA, ↓ldelK_skipL, lget_hit, lget_skip, ldel_nil, ldel_hit, ldel_skipI, ldel_skipA, ldel_skipL, ldel2_nil, ldel2_hit, ldel2_hit2, ldel2_skipI, ldel2_skipA, ldel2_skipL, vc_0, mCall_P0, mCat_nil, mCat_I, mCat_L, mCat_A, mRcv_A, mArg_nil, mArg_I, mArg_L, mArg_A, tsg, swt_nil, swt_cons, lkw_nil, lkw_cons, ↓reduceIte, Nat.reduceAdd, Nat.reduceEqDiff, Nat.reduceLeDiff, Nat.reduceMul, true_and, and_true, and_self, List.mem_cons, List.not_mem_nil, or_false, or_self, false_or, true_implies, false_implies, not_true_eq_false, not_false_eq_true, nI00, nI10, nI01, nI11, forall_const, implies_true])
  rintro _ rfl _ rfl _ rfl _ rfl _ rfl
  refine key _ ?_
  clear key hK
  revert hs
  revert s
  decide +kernel
theorem c_bits {s : Nat} (hs : s < 256) (hK : K (.inl (nI (pcN s))) μ) : mMet X (h + 1) m_X9_bits [.inl (nI s)] μ K := by
  (refine vc_met2 P0_ok ok_X9_bits cm_X9_bits [4] 6 t_X9_bits_0 (Nat.le_of_ble_eq_true rfl) ?_; simp only [mArg_nil, mArg_I, mArg_L, mArg_A, Nat.reduceAdd])
  have main : ∀ n t c, t ≤ n → t < 256 → c + pcN t = pcN s → bb X P0 m_X9_bits (h) K (vc X P0 m_X9_bits (h) K k_X9_bits [4] 6) s_X9_bits_4 [(2, .inl (nI t)), (1, .inl (nI c)), (0, .inl (nI s))] [] μ := by
    intro n
    induction n with
    | zero =>
      intro t c ht ht2 hc
      have t0 : t = 0 := by omega
      subst t0
      have : c = pcN s := by
        have : pcN 0 = 0 := by decide
        omega
      subst this
      (try simp only [↓w_X9_bits_0, ↓w_X9_bits_4, ↓w_X9_bits_20, ↓v_X9_bits_4, ↓v_X9_bits_20, ↓b_goto, ↓b_iand, ↓b_iconst, ↓b_if_eq, ↓n_iinc, ↓b_iload_n, ↓b_iret, ↓n_istore_n, ↓n_isub, ↓ldI_hit, ↓ldI_skip, ↓ldL_hit, ↓ldL_skip, ↓ldA_hit, ↓ldA_skip, ↓ldelK_nil, ↓ldelK_hit, ↓ldelK_skipI, ↓ldelK_skipA, ↓ldelK_skipL, lget_hit, lget_skip, ldel_nil, ldel_hit, ldel_skipI, ldel_skipA, ldel_skipL, ldel2_nil, ldel2_hit, ldel2_hit2, ldel2_skipI, ldel2_skipA, ldel2_skipL, vc_0, mCall_P0, mCat_nil, mCat_I, mCat_L, mCat_A, mRcv_A, mArg_nil, mArg_I, mArg_L, mArg_A, tsg, swt_nil, swt_cons, lkw_nil, lkw_cons, ↓reduceIte, Nat.reduceAdd, Nat.reduceEqDiff, Nat.reduceLeDiff, Nat.reduceMul, true_and, and_true, and_self, List.mem_cons, List.not_mem_nil, or_false, or_self, false_or, true_implies, false_implies, not_true_eq_false, not_false_eq_true, nI00, nI10, nI01, nI11, forall_const, implies_true])
      (try simp (disch := omega) only [ixq, ixz, sb_in, sb_in0, upI_sb, upI_sb0, sb_out, nI_add, nI_mul, nI_subq, Nat.zero_add, forall_eq, u2_at, u2_row, upd_at, upd_ne, nI0b, nI1b, nI00, nI10, nI01, nI11, true_implies, false_implies, not_true_eq_false, not_false_eq_true, and_true, true_and, implies_true, nI_ez])
      exact hK
    | succ n ih =>
      intro t c ht ht2 hc
      by_cases t0 : t = 0
      · subst t0
        have : c = pcN s := by
          have : pcN 0 = 0 := by decide
          omega
        subst this
        (try simp only [↓w_X9_bits_0, ↓w_X9_bits_4, ↓w_X9_bits_20, ↓v_X9_bits_4, ↓v_X9_bits_20, ↓b_goto, ↓b_iand, ↓b_iconst, ↓b_if_eq, ↓n_iinc, ↓b_iload_n, ↓b_iret, ↓n_istore_n, ↓n_isub, ↓ldI_hit, ↓ldI_skip, ↓ldL_hit, ↓ldL_skip, ↓ldA_hit, ↓ldA_skip, ↓ldelK_nil, ↓ldelK_hit, ↓ldelK_skipI, ↓ldelK_skipA, ↓ldelK_skipL, lget_hit, lget_skip, ldel_nil, ldel_hit, ldel_skipI, ldel_skipA, ldel_skipL, ldel2_nil, ldel2_hit, ldel2_hit2, ldel2_skipI, ldel2_skipA, ldel2_skipL, vc_0, mCall_P0, mCat_nil, mCat_I, mCat_L, mCat_A, mRcv_A, mArg_nil, mArg_I, mArg_L, mArg_A, tsg, swt_nil, swt_cons, lkw_nil, lkw_cons, ↓reduceIte, Nat.reduceAdd, Nat.reduceEqDiff, Nat.reduceLeDiff, Nat.reduceMul, true_and, and_true, and_self, List.mem_cons, List.not_mem_nil, or_false, or_self, false_or, true_implies, false_implies, not_true_eq_false, not_false_eq_true, nI00, nI10, nI01, nI11, forall_const, implies_true])
        (try simp (disch := omega) only [ixq, ixz, sb_in, sb_in0, upI_sb, upI_sb0, sb_out, nI_add, nI_mul, nI_subq, Nat.zero_add, forall_eq, u2_at, u2_row, upd_at, upd_ne, nI0b, nI1b, nI00, nI10, nI01, nI11, true_implies, false_implies, not_true_eq_false, not_false_eq_true, and_true, true_and, implies_true, nI_ez])
        exact hK
      · have p := pcN_s t ht2 (by omega)
        have i2 := ih (t &&& (t - 1)) (c + 1) (by omega) (by omega) (by omega)
        rw [← p.2.2] at i2
        (try simp only [↓w_X9_bits_0, ↓w_X9_bits_4, ↓w_X9_bits_20, ↓v_X9_bits_4, ↓v_X9_bits_20, ↓b_goto, ↓b_iand, ↓b_iconst, ↓b_if_eq, ↓n_iinc, ↓b_iload_n, ↓b_iret, ↓n_istore_n, ↓n_isub, ↓ldI_hit, ↓ldI_skip, ↓ldL_hit, ↓ldL_skip, ↓ldA_hit, ↓ldA_skip, ↓ldelK_nil, ↓ldelK_hit, ↓ldelK_skipI, ↓ldelK_skipA, ↓ldelK_skipL, lget_hit, lget_skip, ldel_nil, ldel_hit, ldel_skipI, ldel_skipA, ldel_skipL, ldel2_nil, ldel2_hit, ldel2_hit2, ldel2_skipI, ldel2_skipA, ldel2_skipL, vc_0, mCall_P0, mCat_nil, mCat_I, mCat_L, mCat_A, mRcv_A, mArg_nil, mArg_I, mArg_L, mArg_A, tsg, swt_nil, swt_cons, lkw_nil, lkw_cons, ↓reduceIte, Nat.reduceAdd, Nat.reduceEqDiff, Nat.reduceLeDiff, Nat.reduceMul, true_and, and_true, and_self, List.mem_cons, List.not_mem_nil, or_false, or_self, false_or, true_implies, false_implies, not_true_eq_false, not_false_eq_true, nI00, nI10, nI01, nI11, forall_const, implies_true])
        (try simp (disch := omega) only [ixq, ixz, sb_in, sb_in0, upI_sb, upI_sb0, sb_out, nI_add, nI_mul, Nat.zero_add, forall_eq, u2_at, u2_row, upd_at, upd_ne, nI0b, nI1b, nI00, nI10, nI01, nI11, true_implies, false_implies, not_true_eq_false, not_false_eq_true, and_true, true_and, implies_true, nI_ez, t0])
        exact vc_back P0_ok ok_X9_bits [4] 6 t_X9_bits_4 (i2) (by simp) (rfl)
  (try simp only [↓w_X9_bits_0, ↓w_X9_bits_20, ↓v_X9_bits_4, ↓v_X9_bits_20, ↓b_goto, ↓b_iand, ↓b_iconst, ↓b_if_eq, ↓n_iinc, ↓b_iload_n, ↓b_iret, ↓n_istore_n, ↓n_isub, ↓ldI_hit, ↓ldI_skip, ↓ldL_hit, ↓ldL_skip, ↓ldA_hit, ↓ldA_skip, ↓ldelK_nil, ↓ldelK_hit, ↓ldelK_skipI, ↓ldelK_skipA, ↓ldelK_skipL, lget_hit, lget_skip, ldel_nil, ldel_hit, ldel_skipI, ldel_skipA, ldel_skipL, ldel2_nil, ldel2_hit, ldel2_hit2, ldel2_skipI, ldel2_skipA, ldel2_skipL, vc_0, mCall_P0, mCat_nil, mCat_I, mCat_L, mCat_A, mRcv_A, mArg_nil, mArg_I, mArg_L, mArg_A, tsg, swt_nil, swt_cons, lkw_nil, lkw_cons, ↓reduceIte, Nat.reduceAdd, Nat.reduceEqDiff, Nat.reduceLeDiff, Nat.reduceMul, true_and, and_true, and_self, List.mem_cons, List.not_mem_nil, or_false, or_self, false_or, true_implies, false_implies, not_true_eq_false, not_false_eq_true, nI00, nI10, nI01, nI11, forall_const, implies_true])
  (try simp (disch := omega) only [ixq, ixz, sb_in, sb_in0, upI_sb, upI_sb0, sb_out, nI_add, nI_mul, nI_subq, Nat.zero_add, forall_eq, u2_at, u2_row, upd_at, upd_ne, nI0b, nI1b, nI00, nI10, nI01, nI11, true_implies, false_implies, not_true_eq_false, not_false_eq_true, and_true, true_and, implies_true])
  exact main s s 0 (Nat.le_refl s) hs (by omega)
theorem d_greatestOf {a : Nat} (ha : a < 256) (rb : RBB G W (μ.1 (m + 2)) N (bk μ (x + 4))) (hbf : ∀ s, (bf s = 1 ∧ steadyP G W (bk μ (x + 4)) (nI s)) ∨ (bf s = 0 ∧ ¬ steadyP G W (bk μ (x + 4)) (nI s))) (hf : frZ x μ μ1) (hK : ∀ μ2, frZ x μ μ2 → K (.inl (nI (grF bf a a))) μ2) : mMet X (h + 3) m_X8_greatestOf [.inr (.inr (7, 0, x)), .inl (nI a)] μ1 K := by
  have g6 := rb.g6
  have w8 := rb.w8
  (refine vc_met2 P2_ok ok_X8_greatestOf cm_X8_greatestOf [4,57] 8 t_X8_greatestOf_0 (Nat.le_of_ble_eq_true rfl) ?_; simp only [mArg_nil, mArg_I, mArg_L, mArg_A, Nat.reduceAdd])
  have main : ∀ n s μ1, frZ x μ μ1 → s + n = a → bb X P2 m_X8_greatestOf (h + 2) K (vc X P2 m_X8_greatestOf (h + 2) K k_X8_greatestOf [4,57] 8) s_X8_greatestOf_4 [(3, .inl (nI (s + 1))), (2, .inl (nI (grF bf a s))), (0, .inr (.inr (7, 0, x))), (1, .inl (nI a))] [] μ1 := by
    intro n
    induction n with
    | zero =>
      intro s μ1 f1 hs
      have hs' : s = a := by omega
      subst hs'
      (try simp only [↓w_X8_greatestOf_0, ↓w_X8_greatestOf_4, ↓w_X8_greatestOf_21, ↓w_X8_greatestOf_22, ↓w_X8_greatestOf_57, ↓w_X8_greatestOf_63, ↓v_X8_greatestOf_4, ↓v_X8_greatestOf_21, ↓v_X8_greatestOf_22, ↓v_X8_greatestOf_57, ↓v_X8_greatestOf_63, ↓b_aload_n, ↓b_callS1_1, ↓b_callV3_1, ↓b_getA, ↓b_goto, ↓b_iand, ↓b_ic_gt, ↓b_ic_le, ↓b_iconst, ↓b_if_eq, ↓b_if_ne, ↓n_iinc, ↓b_iload, ↓b_iload_n, ↓b_iret, ↓n_istore, ↓n_istore_n, ↓b_ixor, ↓ldI_hit, ↓ldI_skip, ↓ldL_hit, ↓ldL_skip, ↓ldA_hit, ↓ldA_skip, ↓ldelK_nil, ↓ldelK_hit, ↓ldelK_skipI, ↓ldelK_skipA, ↓ldelK_skipL, qP2_J6_bitCount_0f7a4, qP2_X4_isSteady, ↓bI_b, bI_0, nnot, lget_hit, lget_skip, ldel_nil, ldel_hit, ldel_skipI, ldel_skipA, ldel_skipL, ldel2_nil, ldel2_hit, ldel2_hit2, ldel2_skipI, ldel2_skipA, ldel2_skipL, vc_0, mCat_nil, mCat_I, mCat_L, mCat_A, mRcv_A, mArg_nil, mArg_I, mArg_L, mArg_A, tsg, swt_nil, swt_cons, lkw_nil, lkw_cons, ↓reduceIte, Nat.reduceAdd, Nat.reduceEqDiff, Nat.reduceLeDiff, Nat.reduceMul, true_and, and_true, and_self, List.mem_cons, List.not_mem_nil, or_false, or_self, false_or, true_implies, false_implies, not_true_eq_false, not_false_eq_true, nI00, nI10, nI01, nI11, forall_const, implies_true])
      (try simp (disch := omega) only [ixq, ixz, sb_in, sb_in0, upI_sb, upI_sb0, sb_out, nI_add, nI_mul, nI_subq, Nat.zero_add, forall_eq, u2_at, u2_row, upd_at, upd_ne, nI0b, nI1b, nI00, nI10, nI01, nI11, true_implies, false_implies, not_true_eq_false, not_false_eq_true, and_true, true_and, implies_true, nI_ltq, nI_lq])
      exact ⟨fun _ => hK μ1 f1, fun z => absurd (show s < s + 1 by omega) z⟩
    | succ n ih =>
      intro s μ1 f1 hs
      have gle := grF_le (bf := bf) (a := a) s
      have nxt : ∀ y μ2 b, frZ x μ μ2 → b = grF bf a (s + 1) → mAt X m_X8_greatestOf (h + 2) K 57 [(4, .inl y), (3, .inl (nI (s + 1))), (2, .inl (nI b)), (0, .inr (.inr (7, 0, x))), (1, .inl (nI a))] [] μ2 := by
        intro y μ2 b f2 hb
        have i2 := ih (s + 1) μ2 f2 (by omega)
        rw [← hb] at i2
        (refine vc_from P2_ok ok_X8_greatestOf [4,57] 8 ?_; rw [t_X8_greatestOf_57])
        (try simp only [↓w_X8_greatestOf_0, ↓w_X8_greatestOf_4, ↓w_X8_greatestOf_21, ↓w_X8_greatestOf_22, ↓w_X8_greatestOf_57, ↓w_X8_greatestOf_63, ↓v_X8_greatestOf_4, ↓v_X8_greatestOf_21, ↓v_X8_greatestOf_22, ↓v_X8_greatestOf_57, ↓v_X8_greatestOf_63, ↓b_aload_n, ↓b_callS1_1, ↓b_callV3_1, ↓b_getA, ↓b_goto, ↓b_iand, ↓b_ic_gt, ↓b_ic_le, ↓b_iconst, ↓b_if_eq, ↓b_if_ne, ↓n_iinc, ↓b_iload, ↓b_iload_n, ↓b_iret, ↓n_istore, ↓n_istore_n, ↓b_ixor, ↓ldI_hit, ↓ldI_skip, ↓ldL_hit, ↓ldL_skip, ↓ldA_hit, ↓ldA_skip, ↓ldelK_nil, ↓ldelK_hit, ↓ldelK_skipI, ↓ldelK_skipA, ↓ldelK_skipL, qP2_J6_bitCount_0f7a4, qP2_X4_isSteady, ↓bI_b, bI_0, nnot, lget_hit, lget_skip, ldel_nil, ldel_hit, ldel_skipI, ldel_skipA, ldel_skipL, ldel2_nil, ldel2_hit, ldel2_hit2, ldel2_skipI, ldel2_skipA, ldel2_skipL, vc_0, mCat_nil, mCat_I, mCat_L, mCat_A, mRcv_A, mArg_nil, mArg_I, mArg_L, mArg_A, tsg, swt_nil, swt_cons, lkw_nil, lkw_cons, ↓reduceIte, Nat.reduceAdd, Nat.reduceEqDiff, Nat.reduceLeDiff, Nat.reduceMul, true_and, and_true, and_self, List.mem_cons, List.not_mem_nil, or_false, or_self, false_or, true_implies, false_implies, not_true_eq_false, not_false_eq_true, nI00, nI10, nI01, nI11, forall_const, implies_true])
        (try simp (disch := omega) only [ixq, ixz, sb_in, sb_in0, upI_sb, upI_sb0, sb_out, nI_add, nI_mul, nI_subq, Nat.zero_add, forall_eq, u2_at, u2_row, upd_at, upd_ne, nI0b, nI1b, nI00, nI10, nI01, nI11, true_implies, false_implies, not_true_eq_false, not_false_eq_true, and_true, true_and, implies_true])
        exact vc_back P2_ok ok_X8_greatestOf [4,57] 8 t_X8_greatestOf_4 (i2) (by simp) (rfl)
      have es : grF bf a (s + 1) = if nI (s + 1) &&& (nI a ^^^ -1) = 0 ∧ pcN (grF bf a s) < pcN (s + 1) ∧ bf (s + 1) = 1 then s + 1 else grF bf a s := rfl
      have pl1 := pcN_le (s := s + 1)
      have pl2 := pcN_le (s := grF bf a s)
      by_cases hw : nI (s + 1) &&& (nI a ^^^ -1) = 0
      · have hw' := eq_true hw
        (try simp only [↓w_X8_greatestOf_0, ↓w_X8_greatestOf_4, ↓w_X8_greatestOf_21, ↓w_X8_greatestOf_22, ↓w_X8_greatestOf_63, ↓v_X8_greatestOf_4, ↓v_X8_greatestOf_21, ↓v_X8_greatestOf_22, ↓v_X8_greatestOf_57, ↓v_X8_greatestOf_63, ↓b_aload_n, ↓b_callS1_1, ↓b_callV3_1, ↓b_getA, ↓b_goto, ↓b_iand, ↓b_ic_gt, ↓b_ic_le, ↓b_iconst, ↓b_if_eq, ↓b_if_ne, ↓n_iinc, ↓b_iload, ↓b_iload_n, ↓b_iret, ↓n_istore, ↓n_istore_n, ↓b_ixor, ↓ldI_hit, ↓ldI_skip, ↓ldL_hit, ↓ldL_skip, ↓ldA_hit, ↓ldA_skip, ↓ldelK_nil, ↓ldelK_hit, ↓ldelK_skipI, ↓ldelK_skipA, ↓ldelK_skipL, qP2_J6_bitCount_0f7a4, qP2_X4_isSteady, ↓bI_b, bI_0, nnot, lget_hit, lget_skip, ldel_nil, ldel_hit, ldel_skipI, ldel_skipA, ldel_skipL, ldel2_nil, ldel2_hit, ldel2_hit2, ldel2_skipI, ldel2_skipA, ldel2_skipL, vc_0, mCat_nil, mCat_I, mCat_L, mCat_A, mRcv_A, mArg_nil, mArg_I, mArg_L, mArg_A, tsg, swt_nil, swt_cons, lkw_nil, lkw_cons, ↓reduceIte, Nat.reduceAdd, Nat.reduceEqDiff, Nat.reduceLeDiff, Nat.reduceMul, true_and, and_true, and_self, List.mem_cons, List.not_mem_nil, or_false, or_self, false_or, true_implies, false_implies, not_true_eq_false, not_false_eq_true, nI00, nI10, nI01, nI11, forall_const, implies_true, hw'])
        (try simp (disch := omega) only [ixq, ixz, sb_in, sb_in0, upI_sb, upI_sb0, sb_out, nI_add, nI_mul, nI_subq, Nat.zero_add, forall_eq, u2_at, u2_row, upd_at, upd_ne, nI0b, nI1b, nI00, nI10, nI01, nI11, true_implies, false_implies, not_true_eq_false, not_false_eq_true, and_true, true_and, implies_true, nI_ltq, nI_lq])
        refine ⟨fun z => by omega, fun _ => ?_⟩
        refine c_bitCount (by omega) ?_
        (try simp only [↓w_X8_greatestOf_0, ↓w_X8_greatestOf_4, ↓w_X8_greatestOf_21, ↓w_X8_greatestOf_22, ↓w_X8_greatestOf_63, ↓v_X8_greatestOf_4, ↓v_X8_greatestOf_21, ↓v_X8_greatestOf_22, ↓v_X8_greatestOf_57, ↓v_X8_greatestOf_63, ↓b_aload_n, ↓b_callS1_1, ↓b_callV3_1, ↓b_getA, ↓b_goto, ↓b_iand, ↓b_ic_gt, ↓b_ic_le, ↓b_iconst, ↓b_if_eq, ↓b_if_ne, ↓n_iinc, ↓b_iload, ↓b_iload_n, ↓b_iret, ↓n_istore, ↓n_istore_n, ↓b_ixor, ↓ldI_hit, ↓ldI_skip, ↓ldL_hit, ↓ldL_skip, ↓ldA_hit, ↓ldA_skip, ↓ldelK_nil, ↓ldelK_hit, ↓ldelK_skipI, ↓ldelK_skipA, ↓ldelK_skipL, qP2_J6_bitCount_0f7a4, qP2_X4_isSteady, ↓bI_b, bI_0, nnot, lget_hit, lget_skip, ldel_nil, ldel_hit, ldel_skipI, ldel_skipA, ldel_skipL, ldel2_nil, ldel2_hit, ldel2_hit2, ldel2_skipI, ldel2_skipA, ldel2_skipL, vc_0, mCat_nil, mCat_I, mCat_L, mCat_A, mRcv_A, mArg_nil, mArg_I, mArg_L, mArg_A, tsg, swt_nil, swt_cons, lkw_nil, lkw_cons, ↓reduceIte, Nat.reduceAdd, Nat.reduceEqDiff, Nat.reduceLeDiff, Nat.reduceMul, true_and, and_true, and_self, List.mem_cons, List.not_mem_nil, or_false, or_self, false_or, true_implies, false_implies, not_true_eq_false, not_false_eq_true, nI00, nI10, nI01, nI11, forall_const, implies_true])
        refine c_bitCount (by omega) ?_
        (try simp only [↓w_X8_greatestOf_0, ↓w_X8_greatestOf_4, ↓w_X8_greatestOf_21, ↓w_X8_greatestOf_22, ↓w_X8_greatestOf_63, ↓v_X8_greatestOf_4, ↓v_X8_greatestOf_21, ↓v_X8_greatestOf_22, ↓v_X8_greatestOf_57, ↓v_X8_greatestOf_63, ↓b_aload_n, ↓b_callS1_1, ↓b_callV3_1, ↓b_getA, ↓b_goto, ↓b_iand, ↓b_ic_gt, ↓b_ic_le, ↓b_iconst, ↓b_if_eq, ↓b_if_ne, ↓n_iinc, ↓b_iload, ↓b_iload_n, ↓b_iret, ↓n_istore, ↓n_istore_n, ↓b_ixor, ↓ldI_hit, ↓ldI_skip, ↓ldL_hit, ↓ldL_skip, ↓ldA_hit, ↓ldA_skip, ↓ldelK_nil, ↓ldelK_hit, ↓ldelK_skipI, ↓ldelK_skipA, ↓ldelK_skipL, qP2_J6_bitCount_0f7a4, qP2_X4_isSteady, ↓bI_b, bI_0, nnot, lget_hit, lget_skip, ldel_nil, ldel_hit, ldel_skipI, ldel_skipA, ldel_skipL, ldel2_nil, ldel2_hit, ldel2_hit2, ldel2_skipI, ldel2_skipA, ldel2_skipL, vc_0, mCat_nil, mCat_I, mCat_L, mCat_A, mRcv_A, mArg_nil, mArg_I, mArg_L, mArg_A, tsg, swt_nil, swt_cons, lkw_nil, lkw_cons, ↓reduceIte, Nat.reduceAdd, Nat.reduceEqDiff, Nat.reduceLeDiff, Nat.reduceMul, true_and, and_true, and_self, List.mem_cons, List.not_mem_nil, or_false, or_self, false_or, true_implies, false_implies, not_true_eq_false, not_false_eq_true, nI00, nI10, nI01, nI11, forall_const, implies_true])
        (try simp (disch := omega) only [ixq, ixz, sb_in, sb_in0, upI_sb, upI_sb0, sb_out, nI_add, nI_mul, nI_subq, Nat.zero_add, forall_eq, u2_at, u2_row, upd_at, upd_ne, nI0b, nI1b, nI00, nI10, nI01, nI11, true_implies, false_implies, not_true_eq_false, not_false_eq_true, and_true, true_and, implies_true, nI_lq])
        refine ⟨fun z => nxt _ _ _ f1 (by rw [es, if_neg (fun c => by omega)]), fun z => ?_⟩
        rcases hbf (s + 1) with ⟨e, hp⟩ | ⟨e, hp⟩
        · refine d_isSteady (B := bk μ (x + 4)) f1 (fun j hj => by rw [Nat.add_assoc, f1.2 _ (by omega), ← Nat.add_assoc]; rfl) (by omega) rb.b0 g6 rb.b1 w8 (fun _ μ2 f2 _ => ?_) (fun z => absurd hp z)
          (try simp only [↓w_X8_greatestOf_0, ↓w_X8_greatestOf_4, ↓w_X8_greatestOf_21, ↓w_X8_greatestOf_22, ↓w_X8_greatestOf_57, ↓w_X8_greatestOf_63, ↓v_X8_greatestOf_4, ↓v_X8_greatestOf_21, ↓v_X8_greatestOf_22, ↓v_X8_greatestOf_57, ↓v_X8_greatestOf_63, ↓b_aload_n, ↓b_callS1_1, ↓b_callV3_1, ↓b_getA, ↓b_goto, ↓b_iand, ↓b_ic_gt, ↓b_ic_le, ↓b_iconst, ↓b_if_eq, ↓b_if_ne, ↓n_iinc, ↓b_iload, ↓b_iload_n, ↓b_iret, ↓n_istore, ↓n_istore_n, ↓b_ixor, ↓ldI_hit, ↓ldI_skip, ↓ldL_hit, ↓ldL_skip, ↓ldA_hit, ↓ldA_skip, ↓ldelK_nil, ↓ldelK_hit, ↓ldelK_skipI, ↓ldelK_skipA, ↓ldelK_skipL, qP2_J6_bitCount_0f7a4, qP2_X4_isSteady, ↓bI_b, bI_0, nnot, lget_hit, lget_skip, ldel_nil, ldel_hit, ldel_skipI, ldel_skipA, ldel_skipL, ldel2_nil, ldel2_hit, ldel2_hit2, ldel2_skipI, ldel2_skipA, ldel2_skipL, vc_0, mCat_nil, mCat_I, mCat_L, mCat_A, mRcv_A, mArg_nil, mArg_I, mArg_L, mArg_A, tsg, swt_nil, swt_cons, lkw_nil, lkw_cons, ↓reduceIte, Nat.reduceAdd, Nat.reduceEqDiff, Nat.reduceLeDiff, Nat.reduceMul, true_and, and_true, and_self, List.mem_cons, List.not_mem_nil, or_false, or_self, false_or, true_implies, false_implies, not_true_eq_false, not_false_eq_true, nI00, nI10, nI01, nI11, forall_const, implies_true])
          (try simp (disch := omega) only [ixq, ixz, sb_in, sb_in0, upI_sb, upI_sb0, sb_out, nI_add, nI_mul, nI_subq, Nat.zero_add, forall_eq, u2_at, u2_row, upd_at, upd_ne, nI0b, nI1b, nI00, nI10, nI01, nI11, true_implies, false_implies, not_true_eq_false, not_false_eq_true, and_true, true_and, implies_true])
          have i2 := ih (s + 1) μ2 f2 (by omega)
          rw [es, if_pos ⟨hw, by omega, e⟩] at i2
          exact vc_back P2_ok ok_X8_greatestOf [4,57] 8 t_X8_greatestOf_4 (i2) (by simp) (rfl)
        · refine d_isSteady (B := bk μ (x + 4)) f1 (fun j hj => by rw [Nat.add_assoc, f1.2 _ (by omega), ← Nat.add_assoc]; rfl) (by omega) rb.b0 g6 rb.b1 w8 (fun z => absurd z hp) (fun _ μ2 f2 _ => ?_)
          (try simp only [↓w_X8_greatestOf_0, ↓w_X8_greatestOf_4, ↓w_X8_greatestOf_21, ↓w_X8_greatestOf_22, ↓w_X8_greatestOf_63, ↓v_X8_greatestOf_4, ↓v_X8_greatestOf_21, ↓v_X8_greatestOf_22, ↓v_X8_greatestOf_57, ↓v_X8_greatestOf_63, ↓b_aload_n, ↓b_callS1_1, ↓b_callV3_1, ↓b_getA, ↓b_goto, ↓b_iand, ↓b_ic_gt, ↓b_ic_le, ↓b_iconst, ↓b_if_eq, ↓b_if_ne, ↓n_iinc, ↓b_iload, ↓b_iload_n, ↓b_iret, ↓n_istore, ↓n_istore_n, ↓b_ixor, ↓ldI_hit, ↓ldI_skip, ↓ldL_hit, ↓ldL_skip, ↓ldA_hit, ↓ldA_skip, ↓ldelK_nil, ↓ldelK_hit, ↓ldelK_skipI, ↓ldelK_skipA, ↓ldelK_skipL, qP2_J6_bitCount_0f7a4, qP2_X4_isSteady, ↓bI_b, bI_0, nnot, lget_hit, lget_skip, ldel_nil, ldel_hit, ldel_skipI, ldel_skipA, ldel_skipL, ldel2_nil, ldel2_hit, ldel2_hit2, ldel2_skipI, ldel2_skipA, ldel2_skipL, vc_0, mCat_nil, mCat_I, mCat_L, mCat_A, mRcv_A, mArg_nil, mArg_I, mArg_L, mArg_A, tsg, swt_nil, swt_cons, lkw_nil, lkw_cons, ↓reduceIte, Nat.reduceAdd, Nat.reduceEqDiff, Nat.reduceLeDiff, Nat.reduceMul, true_and, and_true, and_self, List.mem_cons, List.not_mem_nil, or_false, or_self, false_or, true_implies, false_implies, not_true_eq_false, not_false_eq_true, nI00, nI10, nI01, nI11, forall_const, implies_true])
          (try simp (disch := omega) only [ixq, ixz, sb_in, sb_in0, upI_sb, upI_sb0, sb_out, nI_add, nI_mul, nI_subq, Nat.zero_add, forall_eq, u2_at, u2_row, upd_at, upd_ne, nI0b, nI1b, nI00, nI10, nI01, nI11, true_implies, false_implies, not_true_eq_false, not_false_eq_true, and_true, true_and, implies_true])
          exact nxt _ _ _ f2 (by rw [es, if_neg (fun c => by omega)])
      · have hw' := eq_false hw
        (try simp only [↓w_X8_greatestOf_0, ↓w_X8_greatestOf_4, ↓w_X8_greatestOf_21, ↓w_X8_greatestOf_22, ↓w_X8_greatestOf_63, ↓v_X8_greatestOf_4, ↓v_X8_greatestOf_21, ↓v_X8_greatestOf_22, ↓v_X8_greatestOf_57, ↓v_X8_greatestOf_63, ↓b_aload_n, ↓b_callS1_1, ↓b_callV3_1, ↓b_getA, ↓b_goto, ↓b_iand, ↓b_ic_gt, ↓b_ic_le, ↓b_iconst, ↓b_if_eq, ↓b_if_ne, ↓n_iinc, ↓b_iload, ↓b_iload_n, ↓b_iret, ↓n_istore, ↓n_istore_n, ↓b_ixor, ↓ldI_hit, ↓ldI_skip, ↓ldL_hit, ↓ldL_skip, ↓ldA_hit, ↓ldA_skip, ↓ldelK_nil, ↓ldelK_hit, ↓ldelK_skipI, ↓ldelK_skipA, ↓ldelK_skipL, qP2_J6_bitCount_0f7a4, qP2_X4_isSteady, ↓bI_b, bI_0, nnot, lget_hit, lget_skip, ldel_nil, ldel_hit, ldel_skipI, ldel_skipA, ldel_skipL, ldel2_nil, ldel2_hit, ldel2_hit2, ldel2_skipI, ldel2_skipA, ldel2_skipL, vc_0, mCat_nil, mCat_I, mCat_L, mCat_A, mRcv_A, mArg_nil, mArg_I, mArg_L, mArg_A, tsg, swt_nil, swt_cons, lkw_nil, lkw_cons, ↓reduceIte, Nat.reduceAdd, Nat.reduceEqDiff, Nat.reduceLeDiff, Nat.reduceMul, true_and, and_true, and_self, List.mem_cons, List.not_mem_nil, or_false, or_self, false_or, true_implies, false_implies, not_true_eq_false, not_false_eq_true, nI00, nI10, nI01, nI11, forall_const, implies_true, hw'])
        (try simp (disch := omega) only [ixq, ixz, sb_in, sb_in0, upI_sb, upI_sb0, sb_out, nI_add, nI_mul, nI_subq, Nat.zero_add, forall_eq, u2_at, u2_row, upd_at, upd_ne, nI0b, nI1b, nI00, nI10, nI01, nI11, true_implies, false_implies, not_true_eq_false, not_false_eq_true, and_true, true_and, implies_true, nI_ltq, nI_lq])
        refine ⟨fun z => by omega, fun _ => ?_⟩
        exact nxt _ _ _ f1 (by rw [es, if_neg (fun c => hw c.1)])
  (try simp only [↓w_X8_greatestOf_0, ↓w_X8_greatestOf_21, ↓w_X8_greatestOf_22, ↓w_X8_greatestOf_57, ↓w_X8_greatestOf_63, ↓v_X8_greatestOf_4, ↓v_X8_greatestOf_21, ↓v_X8_greatestOf_22, ↓v_X8_greatestOf_57, ↓v_X8_greatestOf_63, ↓b_aload_n, ↓b_callS1_1, ↓b_callV3_1, ↓b_getA, ↓b_goto, ↓b_iand, ↓b_ic_gt, ↓b_ic_le, ↓b_iconst, ↓b_if_eq, ↓b_if_ne, ↓n_iinc, ↓b_iload, ↓b_iload_n, ↓b_iret, ↓n_istore, ↓n_istore_n, ↓b_ixor, ↓ldI_hit, ↓ldI_skip, ↓ldL_hit, ↓ldL_skip, ↓ldA_hit, ↓ldA_skip, ↓ldelK_nil, ↓ldelK_hit, ↓ldelK_skipI, ↓ldelK_skipA, ↓ldelK_skipL, qP2_J6_bitCount_0f7a4, qP2_X4_isSteady, ↓bI_b, bI_0, nnot, lget_hit, lget_skip, ldel_nil, ldel_hit, ldel_skipI, ldel_skipA, ldel_skipL, ldel2_nil, ldel2_hit, ldel2_hit2, ldel2_skipI, ldel2_skipA, ldel2_skipL, vc_0, mCat_nil, mCat_I, mCat_L, mCat_A, mRcv_A, mArg_nil, mArg_I, mArg_L, mArg_A, tsg, swt_nil, swt_cons, lkw_nil, lkw_cons, ↓reduceIte, Nat.reduceAdd, Nat.reduceEqDiff, Nat.reduceLeDiff, Nat.reduceMul, true_and, and_true, and_self, List.mem_cons, List.not_mem_nil, or_false, or_self, false_or, true_implies, false_implies, not_true_eq_false, not_false_eq_true, nI00, nI10, nI01, nI11, forall_const, implies_true])
  (try simp (disch := omega) only [ixq, ixz, sb_in, sb_in0, upI_sb, upI_sb0, sb_out, nI_add, nI_mul, nI_subq, Nat.zero_add, forall_eq, u2_at, u2_row, upd_at, upd_ne, nI0b, nI1b, nI00, nI10, nI01, nI11, true_implies, false_implies, not_true_eq_false, not_false_eq_true, and_true, true_and, implies_true])
  exact main a 0 μ1 hf (by omega)
theorem c_greatestR {a T : Nat} (ha : a < T) (T256 : T ≤ 256) (eT : nI 1 <<< (nI W &&& 31) = nI T) (rb : RBB G W (Q 2) N B) (hbf : ∀ s, (bf s = 1 ∧ steadyP G W B (nI s)) ∨ (bf s = 0 ∧ ¬ steadyP G W B (nI s))) (hK : K (.inl (nI (grF bf a a))) (sb μ m 21 Q)) : mMet X (h + 4) m_X9_greatestOf [.inr (.inr (8, 0, m)), .inl (nI a)] (sb μ m 21 Q) K := by
  have g6 := rb.g6
  have w8 := rb.w8
  have q1 := rb.q1
  have hK : K (.inl (nI (grF bf a (T - 1)))) (sb μ m 21 Q) := by
    have e := grF_hi (bf := bf) (a := a) (T - 1 - a) (by omega)
    rw [show a + (T - 1 - a) = T - 1 by omega] at e
    rw [e]
    exact hK
  (refine vc_met2 P2_ok ok_X9_greatestOf cm_X9_greatestOf [4,41] 8 t_X9_greatestOf_0 (Nat.le_of_ble_eq_true rfl) ?_; simp only [mArg_nil, mArg_I, mArg_L, mArg_A, Nat.reduceAdd])
  have main : ∀ n s, s + n + 1 = T → bb X P2 m_X9_greatestOf (h + 3) K (vc X P2 m_X9_greatestOf (h + 3) K k_X9_greatestOf [4,41] 8) s_X9_greatestOf_4 [(3, .inl (nI (s + 1))), (2, .inl (nI (grF bf a s))), (0, .inr (.inr (8, 0, m))), (1, .inl (nI a))] [] (sb μ m 21 Q) := by
    intro n
    induction n with
    | zero =>
      intro s hs
      have nw : ¬ (nI (s + 1) < nI T) := by rw [nI_ltq (by omega) (by omega)]; omega
      have hs' : T - 1 = s := by omega
      rw [hs'] at hK
      (try simp only [↓w_X9_greatestOf_0, ↓w_X9_greatestOf_4, ↓w_X9_greatestOf_47, ↓v_X9_greatestOf_4, ↓v_X9_greatestOf_41, ↓v_X9_greatestOf_47, ↓b_aload_n, ↓b_callS1_1, ↓b_callV2_1, ↓b_goto, ↓b_iand, ↓b_ic_le, ↓b_iconst, ↓b_if_eq, ↓b_if_ne, ↓n_iinc, ↓b_iload_n, ↓b_iret, ↓n_istore_n, ↓b_ixor, ↓ldI_hit, ↓ldI_skip, ↓ldL_hit, ↓ldL_skip, ↓ldA_hit, ↓ldA_skip, ↓ldelK_nil, ↓ldelK_hit, ↓ldelK_skipI, ↓ldelK_skipA, ↓ldelK_skipL, qP2_X9_bits, qP2_X9_isSet, qP2_X9_isSteady_, ↓bI_b, bI_0, nnot, lget_hit, lget_skip, ldel_nil, ldel_hit, ldel_skipI, ldel_skipA, ldel_skipL, ldel2_nil, ldel2_hit, ldel2_hit2, ldel2_skipI, ldel2_skipA, ldel2_skipL, vc_0, mCat_nil, mCat_I, mCat_L, mCat_A, mRcv_A, mArg_nil, mArg_I, mArg_L, mArg_A, tsg, swt_nil, swt_cons, lkw_nil, lkw_cons, ↓reduceIte, Nat.reduceAdd, Nat.reduceEqDiff, Nat.reduceLeDiff, Nat.reduceMul, true_and, and_true, and_self, List.mem_cons, List.not_mem_nil, or_false, or_self, false_or, true_implies, false_implies, not_true_eq_false, not_false_eq_true, nI00, nI10, nI01, nI11, forall_const, implies_true])
      (try simp (disch := omega) only [ixq, ixz, sb_in, sb_in0, upI_sb, upI_sb0, sb_out, nI_add, nI_mul, nI_subq, Nat.zero_add, forall_eq, u2_at, u2_row, upd_at, upd_ne, nI0b, nI1b, nI00, nI10, nI01, nI11, true_implies, false_implies, not_true_eq_false, not_false_eq_true, and_true, true_and, implies_true, q1, eT, nw, and_false])
      exact hK
    | succ n ih =>
      intro s hs
      have nw : (nI (s + 1) < nI T) = True := by rw [nI_ltq (by omega) (by omega)]; exact eq_true (by omega)
      have nz : (0 ≤ nI (s + 1)) = True := nI_zl (by omega)
      have gle := grF_le (bf := bf) (a := a) s
      have nxt : ∀ b, b = grF bf a (s + 1) → mAt X m_X9_greatestOf (h + 3) K 41 [(3, .inl (nI (s + 1))), (2, .inl (nI b)), (0, .inr (.inr (8, 0, m))), (1, .inl (nI a))] [] (sb μ m 21 Q) := by
        intro b hb
        have i2 := ih (s + 1) (by omega)
        rw [← hb] at i2
        (refine vc_from P2_ok ok_X9_greatestOf [4,41] 8 ?_; rw [t_X9_greatestOf_41])
        (try simp only [↓w_X9_greatestOf_0, ↓w_X9_greatestOf_4, ↓w_X9_greatestOf_41, ↓w_X9_greatestOf_47, ↓v_X9_greatestOf_4, ↓v_X9_greatestOf_41, ↓v_X9_greatestOf_47, ↓b_aload_n, ↓b_callS1_1, ↓b_callV2_1, ↓b_goto, ↓b_iand, ↓b_ic_le, ↓b_iconst, ↓b_if_eq, ↓b_if_ne, ↓n_iinc, ↓b_iload_n, ↓b_iret, ↓n_istore_n, ↓b_ixor, ↓ldI_hit, ↓ldI_skip, ↓ldL_hit, ↓ldL_skip, ↓ldA_hit, ↓ldA_skip, ↓ldelK_nil, ↓ldelK_hit, ↓ldelK_skipI, ↓ldelK_skipA, ↓ldelK_skipL, qP2_X9_bits, qP2_X9_isSet, qP2_X9_isSteady_, ↓bI_b, bI_0, nnot, lget_hit, lget_skip, ldel_nil, ldel_hit, ldel_skipI, ldel_skipA, ldel_skipL, ldel2_nil, ldel2_hit, ldel2_hit2, ldel2_skipI, ldel2_skipA, ldel2_skipL, vc_0, mCat_nil, mCat_I, mCat_L, mCat_A, mRcv_A, mArg_nil, mArg_I, mArg_L, mArg_A, tsg, swt_nil, swt_cons, lkw_nil, lkw_cons, ↓reduceIte, Nat.reduceAdd, Nat.reduceEqDiff, Nat.reduceLeDiff, Nat.reduceMul, true_and, and_true, and_self, List.mem_cons, List.not_mem_nil, or_false, or_self, false_or, true_implies, false_implies, not_true_eq_false, not_false_eq_true, nI00, nI10, nI01, nI11, forall_const, implies_true])
        (try simp (disch := omega) only [ixq, ixz, sb_in, sb_in0, upI_sb, upI_sb0, sb_out, nI_add, nI_mul, nI_subq, Nat.zero_add, forall_eq, u2_at, u2_row, upd_at, upd_ne, nI0b, nI1b, nI00, nI10, nI01, nI11, true_implies, false_implies, not_true_eq_false, not_false_eq_true, and_true, true_and, implies_true])
        exact vc_back P2_ok ok_X9_greatestOf [4,41] 8 t_X9_greatestOf_4 (i2) (by simp) (rfl)
      have es : grF bf a (s + 1) = if nI (s + 1) &&& (nI a ^^^ -1) = 0 ∧ pcN (grF bf a s) < pcN (s + 1) ∧ bf (s + 1) = 1 then s + 1 else grF bf a s := rfl
      have pl1 := pcN_le (s := s + 1)
      have pl2 := pcN_le (s := grF bf a s)
      by_cases hw : nI (s + 1) &&& (nI a ^^^ -1) = 0
      · have hw' := eq_true hw
        (try simp only [↓w_X9_greatestOf_0, ↓w_X9_greatestOf_4, ↓w_X9_greatestOf_47, ↓v_X9_greatestOf_4, ↓v_X9_greatestOf_41, ↓v_X9_greatestOf_47, ↓b_aload_n, ↓b_callS1_1, ↓b_callV2_1, ↓b_goto, ↓b_iand, ↓b_ic_le, ↓b_iconst, ↓b_if_eq, ↓b_if_ne, ↓n_iinc, ↓b_iload_n, ↓b_iret, ↓n_istore_n, ↓b_ixor, ↓ldI_hit, ↓ldI_skip, ↓ldL_hit, ↓ldL_skip, ↓ldA_hit, ↓ldA_skip, ↓ldelK_nil, ↓ldelK_hit, ↓ldelK_skipI, ↓ldelK_skipA, ↓ldelK_skipL, qP2_X9_bits, qP2_X9_isSet, qP2_X9_isSteady_, ↓bI_b, bI_0, nnot, lget_hit, lget_skip, ldel_nil, ldel_hit, ldel_skipI, ldel_skipA, ldel_skipL, ldel2_nil, ldel2_hit, ldel2_hit2, ldel2_skipI, ldel2_skipA, ldel2_skipL, vc_0, mCat_nil, mCat_I, mCat_L, mCat_A, mRcv_A, mArg_nil, mArg_I, mArg_L, mArg_A, tsg, swt_nil, swt_cons, lkw_nil, lkw_cons, ↓reduceIte, Nat.reduceAdd, Nat.reduceEqDiff, Nat.reduceLeDiff, Nat.reduceMul, true_and, and_true, and_self, List.mem_cons, List.not_mem_nil, or_false, or_self, false_or, true_implies, false_implies, not_true_eq_false, not_false_eq_true, nI00, nI10, nI01, nI11, forall_const, implies_true, hw'])
        (try simp (disch := omega) only [ixq, ixz, sb_in, sb_in0, upI_sb, upI_sb0, sb_out, nI_add, nI_mul, nI_subq, Nat.zero_add, forall_eq, u2_at, u2_row, upd_at, upd_ne, nI0b, nI1b, nI00, nI10, nI01, nI11, true_implies, false_implies, not_true_eq_false, not_false_eq_true, and_true, true_and, implies_true, q1, eT, nw, nz])
        refine c_bits (by omega) ?_
        (try simp only [↓w_X9_greatestOf_0, ↓w_X9_greatestOf_4, ↓w_X9_greatestOf_47, ↓v_X9_greatestOf_4, ↓v_X9_greatestOf_41, ↓v_X9_greatestOf_47, ↓b_aload_n, ↓b_callS1_1, ↓b_callV2_1, ↓b_goto, ↓b_iand, ↓b_ic_le, ↓b_iconst, ↓b_if_eq, ↓b_if_ne, ↓n_iinc, ↓b_iload_n, ↓b_iret, ↓n_istore_n, ↓b_ixor, ↓ldI_hit, ↓ldI_skip, ↓ldL_hit, ↓ldL_skip, ↓ldA_hit, ↓ldA_skip, ↓ldelK_nil, ↓ldelK_hit, ↓ldelK_skipI, ↓ldelK_skipA, ↓ldelK_skipL, qP2_X9_bits, qP2_X9_isSet, qP2_X9_isSteady_, ↓bI_b, bI_0, nnot, lget_hit, lget_skip, ldel_nil, ldel_hit, ldel_skipI, ldel_skipA, ldel_skipL, ldel2_nil, ldel2_hit, ldel2_hit2, ldel2_skipI, ldel2_skipA, ldel2_skipL, vc_0, mCat_nil, mCat_I, mCat_L, mCat_A, mRcv_A, mArg_nil, mArg_I, mArg_L, mArg_A, tsg, swt_nil, swt_cons, lkw_nil, lkw_cons, ↓reduceIte, Nat.reduceAdd, Nat.reduceEqDiff, Nat.reduceLeDiff, Nat.reduceMul, true_and, and_true, and_self, List.mem_cons, List.not_mem_nil, or_false, or_self, false_or, true_implies, false_implies, not_true_eq_false, not_false_eq_true, nI00, nI10, nI01, nI11, forall_const, implies_true])
        refine c_bits (by omega) ?_
        (try simp only [↓w_X9_greatestOf_0, ↓w_X9_greatestOf_4, ↓w_X9_greatestOf_47, ↓v_X9_greatestOf_4, ↓v_X9_greatestOf_41, ↓v_X9_greatestOf_47, ↓b_aload_n, ↓b_callS1_1, ↓b_callV2_1, ↓b_goto, ↓b_iand, ↓b_ic_le, ↓b_iconst, ↓b_if_eq, ↓b_if_ne, ↓n_iinc, ↓b_iload_n, ↓b_iret, ↓n_istore_n, ↓b_ixor, ↓ldI_hit, ↓ldI_skip, ↓ldL_hit, ↓ldL_skip, ↓ldA_hit, ↓ldA_skip, ↓ldelK_nil, ↓ldelK_hit, ↓ldelK_skipI, ↓ldelK_skipA, ↓ldelK_skipL, qP2_X9_bits, qP2_X9_isSet, qP2_X9_isSteady_, ↓bI_b, bI_0, nnot, lget_hit, lget_skip, ldel_nil, ldel_hit, ldel_skipI, ldel_skipA, ldel_skipL, ldel2_nil, ldel2_hit, ldel2_hit2, ldel2_skipI, ldel2_skipA, ldel2_skipL, vc_0, mCat_nil, mCat_I, mCat_L, mCat_A, mRcv_A, mArg_nil, mArg_I, mArg_L, mArg_A, tsg, swt_nil, swt_cons, lkw_nil, lkw_cons, ↓reduceIte, Nat.reduceAdd, Nat.reduceEqDiff, Nat.reduceLeDiff, Nat.reduceMul, true_and, and_true, and_self, List.mem_cons, List.not_mem_nil, or_false, or_self, false_or, true_implies, false_implies, not_true_eq_false, not_false_eq_true, nI00, nI10, nI01, nI11, forall_const, implies_true])
        (try simp (disch := omega) only [ixq, ixz, sb_in, sb_in0, upI_sb, upI_sb0, sb_out, nI_add, nI_mul, nI_subq, Nat.zero_add, forall_eq, u2_at, u2_row, upd_at, upd_ne, nI0b, nI1b, nI00, nI10, nI01, nI11, true_implies, false_implies, not_true_eq_false, not_false_eq_true, and_true, true_and, implies_true, nI_lq])
        refine ⟨fun z => nxt _ (by rw [es, if_neg (fun c => by omega)]), fun z => ?_⟩
        rcases hbf (s + 1) with ⟨e, hp⟩ | ⟨e, hp⟩
        · refine c_isSteadyN (B := B) (N := N) (G := G) (W := W) rb (fun _ => ?_) (fun z => absurd hp z)
          have i2 := ih (s + 1) (by omega)
          rw [es, if_pos ⟨hw, by omega, e⟩] at i2
          (try simp only [↓w_X9_greatestOf_0, ↓w_X9_greatestOf_4, ↓w_X9_greatestOf_41, ↓w_X9_greatestOf_47, ↓v_X9_greatestOf_4, ↓v_X9_greatestOf_41, ↓v_X9_greatestOf_47, ↓b_aload_n, ↓b_callS1_1, ↓b_callV2_1, ↓b_goto, ↓b_iand, ↓b_ic_le, ↓b_iconst, ↓b_if_eq, ↓b_if_ne, ↓n_iinc, ↓b_iload_n, ↓b_iret, ↓n_istore_n, ↓b_ixor, ↓ldI_hit, ↓ldI_skip, ↓ldL_hit, ↓ldL_skip, ↓ldA_hit, ↓ldA_skip, ↓ldelK_nil, ↓ldelK_hit, ↓ldelK_skipI, ↓ldelK_skipA, ↓ldelK_skipL, qP2_X9_bits, qP2_X9_isSet, qP2_X9_isSteady_, ↓bI_b, bI_0, nnot, lget_hit, lget_skip, ldel_nil, ldel_hit, ldel_skipI, ldel_skipA, ldel_skipL, ldel2_nil, ldel2_hit, ldel2_hit2, ldel2_skipI, ldel2_skipA, ldel2_skipL, vc_0, mCat_nil, mCat_I, mCat_L, mCat_A, mRcv_A, mArg_nil, mArg_I, mArg_L, mArg_A, tsg, swt_nil, swt_cons, lkw_nil, lkw_cons, ↓reduceIte, Nat.reduceAdd, Nat.reduceEqDiff, Nat.reduceLeDiff, Nat.reduceMul, true_and, and_true, and_self, List.mem_cons, List.not_mem_nil, or_false, or_self, false_or, true_implies, false_implies, not_true_eq_false, not_false_eq_true, nI00, nI10, nI01, nI11, forall_const, implies_true])
          (try simp (disch := omega) only [ixq, ixz, sb_in, sb_in0, upI_sb, upI_sb0, sb_out, nI_add, nI_mul, nI_subq, Nat.zero_add, forall_eq, u2_at, u2_row, upd_at, upd_ne, nI0b, nI1b, nI00, nI10, nI01, nI11, true_implies, false_implies, not_true_eq_false, not_false_eq_true, and_true, true_and, implies_true])
          exact vc_back P2_ok ok_X9_greatestOf [4,41] 8 t_X9_greatestOf_4 (i2) (by simp) (rfl)
        · refine c_isSteadyN (B := B) (N := N) (G := G) (W := W) rb (fun z => absurd z hp) (fun _ => ?_)
          (try simp only [↓w_X9_greatestOf_0, ↓w_X9_greatestOf_4, ↓w_X9_greatestOf_47, ↓v_X9_greatestOf_4, ↓v_X9_greatestOf_41, ↓v_X9_greatestOf_47, ↓b_aload_n, ↓b_callS1_1, ↓b_callV2_1, ↓b_goto, ↓b_iand, ↓b_ic_le, ↓b_iconst, ↓b_if_eq, ↓b_if_ne, ↓n_iinc, ↓b_iload_n, ↓b_iret, ↓n_istore_n, ↓b_ixor, ↓ldI_hit, ↓ldI_skip, ↓ldL_hit, ↓ldL_skip, ↓ldA_hit, ↓ldA_skip, ↓ldelK_nil, ↓ldelK_hit, ↓ldelK_skipI, ↓ldelK_skipA, ↓ldelK_skipL, qP2_X9_bits, qP2_X9_isSet, qP2_X9_isSteady_, ↓bI_b, bI_0, nnot, lget_hit, lget_skip, ldel_nil, ldel_hit, ldel_skipI, ldel_skipA, ldel_skipL, ldel2_nil, ldel2_hit, ldel2_hit2, ldel2_skipI, ldel2_skipA, ldel2_skipL, vc_0, mCat_nil, mCat_I, mCat_L, mCat_A, mRcv_A, mArg_nil, mArg_I, mArg_L, mArg_A, tsg, swt_nil, swt_cons, lkw_nil, lkw_cons, ↓reduceIte, Nat.reduceAdd, Nat.reduceEqDiff, Nat.reduceLeDiff, Nat.reduceMul, true_and, and_true, and_self, List.mem_cons, List.not_mem_nil, or_false, or_self, false_or, true_implies, false_implies, not_true_eq_false, not_false_eq_true, nI00, nI10, nI01, nI11, forall_const, implies_true])
          (try simp (disch := omega) only [ixq, ixz, sb_in, sb_in0, upI_sb, upI_sb0, sb_out, nI_add, nI_mul, nI_subq, Nat.zero_add, forall_eq, u2_at, u2_row, upd_at, upd_ne, nI0b, nI1b, nI00, nI10, nI01, nI11, true_implies, false_implies, not_true_eq_false, not_false_eq_true, and_true, true_and, implies_true])
          exact nxt _ (by rw [es, if_neg (fun c => by omega)])
      · have hw' := eq_false hw
        (try simp only [↓w_X9_greatestOf_0, ↓w_X9_greatestOf_4, ↓w_X9_greatestOf_47, ↓v_X9_greatestOf_4, ↓v_X9_greatestOf_41, ↓v_X9_greatestOf_47, ↓b_aload_n, ↓b_callS1_1, ↓b_callV2_1, ↓b_goto, ↓b_iand, ↓b_ic_le, ↓b_iconst, ↓b_if_eq, ↓b_if_ne, ↓n_iinc, ↓b_iload_n, ↓b_iret, ↓n_istore_n, ↓b_ixor, ↓ldI_hit, ↓ldI_skip, ↓ldL_hit, ↓ldL_skip, ↓ldA_hit, ↓ldA_skip, ↓ldelK_nil, ↓ldelK_hit, ↓ldelK_skipI, ↓ldelK_skipA, ↓ldelK_skipL, qP2_X9_bits, qP2_X9_isSet, qP2_X9_isSteady_, ↓bI_b, bI_0, nnot, lget_hit, lget_skip, ldel_nil, ldel_hit, ldel_skipI, ldel_skipA, ldel_skipL, ldel2_nil, ldel2_hit, ldel2_hit2, ldel2_skipI, ldel2_skipA, ldel2_skipL, vc_0, mCat_nil, mCat_I, mCat_L, mCat_A, mRcv_A, mArg_nil, mArg_I, mArg_L, mArg_A, tsg, swt_nil, swt_cons, lkw_nil, lkw_cons, ↓reduceIte, Nat.reduceAdd, Nat.reduceEqDiff, Nat.reduceLeDiff, Nat.reduceMul, true_and, and_true, and_self, List.mem_cons, List.not_mem_nil, or_false, or_self, false_or, true_implies, false_implies, not_true_eq_false, not_false_eq_true, nI00, nI10, nI01, nI11, forall_const, implies_true, hw'])
        (try simp (disch := omega) only [ixq, ixz, sb_in, sb_in0, upI_sb, upI_sb0, sb_out, nI_add, nI_mul, nI_subq, Nat.zero_add, forall_eq, u2_at, u2_row, upd_at, upd_ne, nI0b, nI1b, nI00, nI10, nI01, nI11, true_implies, false_implies, not_true_eq_false, not_false_eq_true, and_true, true_and, implies_true, q1, eT, nw, nz])
        exact nxt _ (by rw [es, if_neg (fun c => hw c.1)])
  (try simp only [↓w_X9_greatestOf_0, ↓w_X9_greatestOf_41, ↓w_X9_greatestOf_47, ↓v_X9_greatestOf_4, ↓v_X9_greatestOf_41, ↓v_X9_greatestOf_47, ↓b_aload_n, ↓b_callS1_1, ↓b_callV2_1, ↓b_goto, ↓b_iand, ↓b_ic_le, ↓b_iconst, ↓b_if_eq, ↓b_if_ne, ↓n_iinc, ↓b_iload_n, ↓b_iret, ↓n_istore_n, ↓b_ixor, ↓ldI_hit, ↓ldI_skip, ↓ldL_hit, ↓ldL_skip, ↓ldA_hit, ↓ldA_skip, ↓ldelK_nil, ↓ldelK_hit, ↓ldelK_skipI, ↓ldelK_skipA, ↓ldelK_skipL, qP2_X9_bits, qP2_X9_isSet, qP2_X9_isSteady_, ↓bI_b, bI_0, nnot, lget_hit, lget_skip, ldel_nil, ldel_hit, ldel_skipI, ldel_skipA, ldel_skipL, ldel2_nil, ldel2_hit, ldel2_hit2, ldel2_skipI, ldel2_skipA, ldel2_skipL, vc_0, mCat_nil, mCat_I, mCat_L, mCat_A, mRcv_A, mArg_nil, mArg_I, mArg_L, mArg_A, tsg, swt_nil, swt_cons, lkw_nil, lkw_cons, ↓reduceIte, Nat.reduceAdd, Nat.reduceEqDiff, Nat.reduceLeDiff, Nat.reduceMul, true_and, and_true, and_self, List.mem_cons, List.not_mem_nil, or_false, or_self, false_or, true_implies, false_implies, not_true_eq_false, not_false_eq_true, nI00, nI10, nI01, nI11, forall_const, implies_true])
  (try simp (disch := omega) only [ixq, ixz, sb_in, sb_in0, upI_sb, upI_sb0, sb_out, nI_add, nI_mul, nI_subq, Nat.zero_add, forall_eq, u2_at, u2_row, upd_at, upd_ne, nI0b, nI1b, nI00, nI10, nI01, nI11, true_implies, false_implies, not_true_eq_false, not_false_eq_true, and_true, true_and, implies_true])
  exact main (T - 1) 0 (by omega)
theorem f_greatest {s : Int32} (hx : x + 164 = m) (hr : Rel x m μ) : PAIR X (h + 8) m_X8_greatest m_X9_greatest x m [.inl s] μ := by
  obtain ⟨G, W, rb, pl, sn, rn⟩ := id hr.2.2.1
  have b1 : μ.1 (x + 4) 1 = nI W := rb.b1
  have q1 : bk μ m 2 1 = nI W := rb.q1
  have g6 := rb.g6
  have w8 := rb.w8
  obtain ⟨T, T1, T256, eT, _⟩ := sets_n w8
  obtain ⟨bf, hbf⟩ : ∃ bf : Nat → Nat, ∀ s, (bf s = 1 ∧ steadyP G W (bk μ (x + 4)) (nI s)) ∨ (bf s = 0 ∧ ¬ steadyP G W (bk μ (x + 4)) (nI s)) :=
    ⟨fun s => @ite _ (steadyP G W (bk μ (x + 4)) (nI s)) (Classical.propDecidable _) 1 0, fun s => by
      by_cases z : steadyP G W (bk μ (x + 4)) (nI s)
      · exact Or.inl ⟨if_pos z, z⟩
      · exact Or.inr ⟨if_neg z, z⟩⟩
  by_cases hs : 0 ≤ s ∧ s < nI 1 <<< (nI W &&& 31)
  · have hs' := hs
    rw [eT, setP T256] at hs'
    obtain ⟨a, ha, rfl⟩ := hs'
    refine pairC (.inl (nI (grF bf a a))) hx hr (fun K hK => ?_) (fun μ1 Q e K hK => ?_)
    · (refine vc_met2 P2_ok ok_X8_greatest cm_X8_greatest [] 6 t_X8_greatest_0 (Nat.le_of_ble_eq_true rfl) ?_; simp only [mArg_nil, mArg_I, mArg_L, mArg_A, Nat.reduceAdd])
      (try simp only [↓w_X8_greatest_0, ↓w_X8_greatest_16, ↓w_X8_greatest_17, ↓v_X8_greatest_16, ↓v_X8_greatest_17, ↓b_aload_n, ↓b_callV2_1, ↓b_goto, ↓b_iconst, ↓b_if_eq, ↓b_iload_n, ↓b_iret, ↓ldI_hit, ↓ldI_skip, ↓ldL_hit, ↓ldL_skip, ↓ldA_hit, ↓ldA_skip, ↓ldelK_nil, ↓ldelK_hit, ↓ldelK_skipI, ↓ldelK_skipA, ↓ldelK_skipL, qP2_X8_greatestOf, qP2_X8_isSet, ↓bI_b, bI_0, nnot, lget_hit, lget_skip, ldel_nil, ldel_hit, ldel_skipI, ldel_skipA, ldel_skipL, ldel2_nil, ldel2_hit, ldel2_hit2, ldel2_skipI, ldel2_skipA, ldel2_skipL, vc_0, mCat_nil, mCat_I, mCat_L, mCat_A, mRcv_A, mArg_nil, mArg_I, mArg_L, mArg_A, tsg, swt_nil, swt_cons, lkw_nil, lkw_cons, ↓reduceIte, Nat.reduceAdd, Nat.reduceEqDiff, Nat.reduceLeDiff, Nat.reduceMul, true_and, and_true, and_self, List.mem_cons, List.not_mem_nil, or_false, or_self, false_or, true_implies, false_implies, not_true_eq_false, not_false_eq_true, nI00, nI10, nI01, nI11, forall_const, implies_true])
      (try simp (disch := omega) only [ixq, ixz, sb_in, sb_in0, upI_sb, upI_sb0, sb_out, nI_add, nI_mul, nI_subq, Nat.zero_add, forall_eq, u2_at, u2_row, upd_at, upd_ne, nI0b, nI1b, nI00, nI10, nI01, nI11, true_implies, false_implies, not_true_eq_false, not_false_eq_true, and_true, true_and, implies_true, b1, set_iff, hs])
      refine d_greatestOf (by omega) rb hbf frZ_r (fun μ2 f2 => ?_)
      (try simp only [↓w_X8_greatest_0, ↓w_X8_greatest_16, ↓w_X8_greatest_17, ↓v_X8_greatest_16, ↓v_X8_greatest_17, ↓b_aload_n, ↓b_callV2_1, ↓b_goto, ↓b_iconst, ↓b_if_eq, ↓b_iload_n, ↓b_iret, ↓ldI_hit, ↓ldI_skip, ↓ldL_hit, ↓ldL_skip, ↓ldA_hit, ↓ldA_skip, ↓ldelK_nil, ↓ldelK_hit, ↓ldelK_skipI, ↓ldelK_skipA, ↓ldelK_skipL, qP2_X8_greatestOf, qP2_X8_isSet, ↓bI_b, bI_0, nnot, lget_hit, lget_skip, ldel_nil, ldel_hit, ldel_skipI, ldel_skipA, ldel_skipL, ldel2_nil, ldel2_hit, ldel2_hit2, ldel2_skipI, ldel2_skipA, ldel2_skipL, vc_0, mCat_nil, mCat_I, mCat_L, mCat_A, mRcv_A, mArg_nil, mArg_I, mArg_L, mArg_A, tsg, swt_nil, swt_cons, lkw_nil, lkw_cons, ↓reduceIte, Nat.reduceAdd, Nat.reduceEqDiff, Nat.reduceLeDiff, Nat.reduceMul, true_and, and_true, and_self, List.mem_cons, List.not_mem_nil, or_false, or_self, false_or, true_implies, false_implies, not_true_eq_false, not_false_eq_true, nI00, nI10, nI01, nI11, forall_const, implies_true]); (try simp (disch := omega) only [ixq, ixz, sb_in, sb_in0, upI_sb, upI_sb0, sb_out, nI_add, nI_mul, nI_subq, Nat.zero_add, forall_eq, u2_at, u2_row, upd_at, upd_ne, nI0b, nI1b, nI00, nI10, nI01, nI11, true_implies, false_implies, not_true_eq_false, not_false_eq_true, and_true, true_and, implies_true])
      exact hK μ2 f2
    · have q1' : Q 2 1 = nI W := by rw [e]; exact rb.q1
      (refine vc_met2 P2_ok ok_X9_greatest cm_X9_greatest [] 6 t_X9_greatest_0 (Nat.le_of_ble_eq_true rfl) ?_; simp only [mArg_nil, mArg_I, mArg_L, mArg_A, Nat.reduceAdd])
      (try simp only [↓w_X9_greatest_0, ↓w_X9_greatest_21, ↓w_X9_greatest_22, ↓v_X9_greatest_21, ↓v_X9_greatest_22, ↓b_aload_n, ↓b_callV2_1, ↓b_goto, ↓b_iconst, ↓b_if_eq, ↓b_iload_n, ↓b_iret, ↓n_putI, ↓ldI_hit, ↓ldI_skip, ↓ldL_hit, ↓ldL_skip, ↓ldA_hit, ↓ldA_skip, ↓ldelK_nil, ↓ldelK_hit, ↓ldelK_skipI, ↓ldelK_skipA, ↓ldelK_skipL, qP2_X9_greatestOf, qP2_X9_isSet, ↓bI_b, bI_0, nnot, lget_hit, lget_skip, ldel_nil, ldel_hit, ldel_skipI, ldel_skipA, ldel_skipL, ldel2_nil, ldel2_hit, ldel2_hit2, ldel2_skipI, ldel2_skipA, ldel2_skipL, vc_0, mCat_nil, mCat_I, mCat_L, mCat_A, mRcv_A, mArg_nil, mArg_I, mArg_L, mArg_A, tsg, swt_nil, swt_cons, lkw_nil, lkw_cons, ↓reduceIte, Nat.reduceAdd, Nat.reduceEqDiff, Nat.reduceLeDiff, Nat.reduceMul, true_and, and_true, and_self, List.mem_cons, List.not_mem_nil, or_false, or_self, false_or, true_implies, false_implies, not_true_eq_false, not_false_eq_true, nI00, nI10, nI01, nI11, forall_const, implies_true])
      (try simp (disch := omega) only [ixq, ixz, sb_in, sb_in0, upI_sb, upI_sb0, sb_out, nI_add, nI_mul, nI_subq, Nat.zero_add, forall_eq, u2_at, u2_row, upd_at, upd_ne, nI0b, nI1b, nI00, nI10, nI01, nI11, true_implies, false_implies, not_true_eq_false, not_false_eq_true, and_true, true_and, implies_true, q1', hs])
      refine c_greatestR ha T256 eT (B := bk μ (x + 4)) (N := μ.2 (m + 6)) (G := G) (by rw [u2_row (by decide), e]; exact rb) hbf ?_
      (try simp only [↓w_X9_greatest_0, ↓w_X9_greatest_21, ↓w_X9_greatest_22, ↓v_X9_greatest_21, ↓v_X9_greatest_22, ↓b_aload_n, ↓b_callV2_1, ↓b_goto, ↓b_iconst, ↓b_if_eq, ↓b_iload_n, ↓b_iret, ↓n_putI, ↓ldI_hit, ↓ldI_skip, ↓ldL_hit, ↓ldL_skip, ↓ldA_hit, ↓ldA_skip, ↓ldelK_nil, ↓ldelK_hit, ↓ldelK_skipI, ↓ldelK_skipA, ↓ldelK_skipL, qP2_X9_greatestOf, qP2_X9_isSet, ↓bI_b, bI_0, nnot, lget_hit, lget_skip, ldel_nil, ldel_hit, ldel_skipI, ldel_skipA, ldel_skipL, ldel2_nil, ldel2_hit, ldel2_hit2, ldel2_skipI, ldel2_skipA, ldel2_skipL, vc_0, mCat_nil, mCat_I, mCat_L, mCat_A, mRcv_A, mArg_nil, mArg_I, mArg_L, mArg_A, tsg, swt_nil, swt_cons, lkw_nil, lkw_cons, ↓reduceIte, Nat.reduceAdd, Nat.reduceEqDiff, Nat.reduceLeDiff, Nat.reduceMul, true_and, and_true, and_self, List.mem_cons, List.not_mem_nil, or_false, or_self, false_or, true_implies, false_implies, not_true_eq_false, not_false_eq_true, nI00, nI10, nI01, nI11, forall_const, implies_true]); (try simp (disch := omega) only [ixq, ixz, sb_in, sb_in0, upI_sb, upI_sb0, sb_out, nI_add, nI_mul, nI_subq, Nat.zero_add, forall_eq, u2_at, u2_row, upd_at, upd_ne, nI0b, nI1b, nI00, nI10, nI01, nI11, true_implies, false_implies, not_true_eq_false, not_false_eq_true, and_true, true_and, implies_true])
      exact hK _ frK_r
  · refine get (.inl (-1)) hx hr (fun K hK => ?_) (fun K hK => ?_)
    · (refine vc_met2 P2_ok ok_X8_greatest cm_X8_greatest [] 6 t_X8_greatest_0 (Nat.le_of_ble_eq_true rfl) ?_; simp only [mArg_nil, mArg_I, mArg_L, mArg_A, Nat.reduceAdd])
      (try simp only [↓w_X8_greatest_0, ↓w_X8_greatest_16, ↓w_X8_greatest_17, ↓v_X8_greatest_16, ↓v_X8_greatest_17, ↓b_aload_n, ↓b_callV2_1, ↓b_goto, ↓b_iconst, ↓b_if_eq, ↓b_iload_n, ↓b_iret, ↓ldI_hit, ↓ldI_skip, ↓ldL_hit, ↓ldL_skip, ↓ldA_hit, ↓ldA_skip, ↓ldelK_nil, ↓ldelK_hit, ↓ldelK_skipI, ↓ldelK_skipA, ↓ldelK_skipL, qP2_X8_greatestOf, qP2_X8_isSet, ↓bI_b, bI_0, nnot, lget_hit, lget_skip, ldel_nil, ldel_hit, ldel_skipI, ldel_skipA, ldel_skipL, ldel2_nil, ldel2_hit, ldel2_hit2, ldel2_skipI, ldel2_skipA, ldel2_skipL, vc_0, mCat_nil, mCat_I, mCat_L, mCat_A, mRcv_A, mArg_nil, mArg_I, mArg_L, mArg_A, tsg, swt_nil, swt_cons, lkw_nil, lkw_cons, ↓reduceIte, Nat.reduceAdd, Nat.reduceEqDiff, Nat.reduceLeDiff, Nat.reduceMul, true_and, and_true, and_self, List.mem_cons, List.not_mem_nil, or_false, or_self, false_or, true_implies, false_implies, not_true_eq_false, not_false_eq_true, nI00, nI10, nI01, nI11, forall_const, implies_true])
      (try simp (disch := omega) only [ixq, ixz, sb_in, sb_in0, upI_sb, upI_sb0, sb_out, nI_add, nI_mul, nI_subq, Nat.zero_add, forall_eq, u2_at, u2_row, upd_at, upd_ne, nI0b, nI1b, nI00, nI10, nI01, nI11, true_implies, false_implies, not_true_eq_false, not_false_eq_true, and_true, true_and, implies_true, b1, set_iff, hs])
      exact hK
    · (refine vc_met2 P2_ok ok_X9_greatest cm_X9_greatest [] 6 t_X9_greatest_0 (Nat.le_of_ble_eq_true rfl) ?_; simp only [mArg_nil, mArg_I, mArg_L, mArg_A, Nat.reduceAdd])
      (try simp only [↓w_X9_greatest_0, ↓w_X9_greatest_21, ↓w_X9_greatest_22, ↓v_X9_greatest_21, ↓v_X9_greatest_22, ↓b_aload_n, ↓b_callV2_1, ↓b_goto, ↓b_iconst, ↓b_if_eq, ↓b_iload_n, ↓b_iret, ↓n_putI, ↓ldI_hit, ↓ldI_skip, ↓ldL_hit, ↓ldL_skip, ↓ldA_hit, ↓ldA_skip, ↓ldelK_nil, ↓ldelK_hit, ↓ldelK_skipI, ↓ldelK_skipA, ↓ldelK_skipL, qP2_X9_greatestOf, qP2_X9_isSet, ↓bI_b, bI_0, nnot, lget_hit, lget_skip, ldel_nil, ldel_hit, ldel_skipI, ldel_skipA, ldel_skipL, ldel2_nil, ldel2_hit, ldel2_hit2, ldel2_skipI, ldel2_skipA, ldel2_skipL, vc_0, mCat_nil, mCat_I, mCat_L, mCat_A, mRcv_A, mArg_nil, mArg_I, mArg_L, mArg_A, tsg, swt_nil, swt_cons, lkw_nil, lkw_cons, ↓reduceIte, Nat.reduceAdd, Nat.reduceEqDiff, Nat.reduceLeDiff, Nat.reduceMul, true_and, and_true, and_self, List.mem_cons, List.not_mem_nil, or_false, or_self, false_or, true_implies, false_implies, not_true_eq_false, not_false_eq_true, nI00, nI10, nI01, nI11, forall_const, implies_true])
      (try simp (disch := omega) only [ixq, ixz, sb_in, sb_in0, upI_sb, upI_sb0, sb_out, nI_add, nI_mul, nI_subq, Nat.zero_add, forall_eq, u2_at, u2_row, upd_at, upd_ne, nI0b, nI1b, nI00, nI10, nI01, nI11, true_implies, false_implies, not_true_eq_false, not_false_eq_true, and_true, true_and, implies_true, q1, hs])
      exact hK
theorem f_falls {w : Int32} (hx : x + 164 = m) (hr : Rel x m μ) : PAIR X (h + 8) m_X8_falls m_X9_falls x m [.inl w] μ := by
  obtain ⟨G, W, rb, pl, sn, rn⟩ := id hr.2.2.1
  have b1 : μ.1 (x + 4) 1 = nI W := rb.b1
  have q1 : bk μ m 2 1 = nI W := rb.q1
  have g6 := rb.g6
  have w8 := rb.w8
  obtain ⟨T, T1, T256, eT, eT2⟩ := sets_n w8
  obtain ⟨bf, hbf⟩ : ∃ bf : Nat → Nat, ∀ s, (bf s = 1 ∧ steadyP G W (bk μ (x + 4)) (nI s)) ∨ (bf s = 0 ∧ ¬ steadyP G W (bk μ (x + 4)) (nI s)) :=
    ⟨fun s => @ite _ (steadyP G W (bk μ (x + 4)) (nI s)) (Classical.propDecidable _) 1 0, fun s => by
      by_cases z : steadyP G W (bk μ (x + 4)) (nI s)
      · exact Or.inl ⟨if_pos z, z⟩
      · exact Or.inr ⟨if_neg z, z⟩⟩
  by_cases hw : ∃ i, i < W ∧ w = nI i
  · obtain ⟨i, hi, rfl⟩ := hw
    obtain ⟨a, ha, ea⟩ := sets_but w8 hi
    rw [← eT2] at ha ea
    by_cases hb : nI (grF bf (T - 1) (T - 1)) >>> (nI i &&& 31) &&& nI 1 = nI 1
    · have hb1 := eq_true hb
      have hb0 : (nI (grF bf (T - 1) (T - 1)) >>> (nI i &&& 31) &&& nI 1 = 0) = False := by rw [hb]; exact nI10
      refine pairC (.inl (nI (grF bf (T - 1) (T - 1)) &&& (nI 1 <<< (nI i &&& 31) ^^^ -1) &&& (nI (grF bf a a) ^^^ -1))) hx hr (fun K hK => ?_) (fun μ1 Q e K hK => ?_)
      · (refine vc_met2 P2_ok ok_X8_falls cm_X8_falls [] 6 t_X8_falls_0 (Nat.le_of_ble_eq_true rfl) ?_; simp only [mArg_nil, mArg_I, mArg_L, mArg_A, Nat.reduceAdd])
        (try simp only [↓w_X8_falls_0, ↓w_X8_falls_10, ↓w_X8_falls_34, ↓v_X8_falls_10, ↓v_X8_falls_34, ↓b_aload_n, ↓b_callV1_1, ↓b_callV2_1, ↓b_getA, ↓b_iand, ↓b_iconst, ↓b_if_ne, ↓b_iload, ↓b_iload_n, ↓b_iret, ↓b_ishl, ↓b_ishr, ↓n_istore, ↓n_istore_n, ↓b_ixor, ↓ldI_hit, ↓ldI_skip, ↓ldL_hit, ↓ldL_skip, ↓ldA_hit, ↓ldA_skip, ↓ldelK_nil, ↓ldelK_hit, ↓ldelK_skipI, ↓ldelK_skipA, ↓ldelK_skipL, qP2_X0_allWorks, qP2_X8_greatestOf, qP2_X8_isWork, ↓bI_b, bI_0, nnot, lget_hit, lget_skip, ldel_nil, ldel_hit, ldel_skipI, ldel_skipA, ldel_skipL, ldel2_nil, ldel2_hit, ldel2_hit2, ldel2_skipI, ldel2_skipA, ldel2_skipL, vc_0, mCat_nil, mCat_I, mCat_L, mCat_A, mRcv_A, mArg_nil, mArg_I, mArg_L, mArg_A, tsg, swt_nil, swt_cons, lkw_nil, lkw_cons, ↓reduceIte, Nat.reduceAdd, Nat.reduceEqDiff, Nat.reduceLeDiff, Nat.reduceMul, true_and, and_true, and_self, List.mem_cons, List.not_mem_nil, or_false, or_self, false_or, true_implies, false_implies, not_true_eq_false, not_false_eq_true, nI00, nI10, nI01, nI11, forall_const, implies_true])
        (try simp (disch := omega) only [ixq, ixz, sb_in, sb_in0, upI_sb, upI_sb0, sb_out, nI_add, nI_mul, nI_subq, Nat.zero_add, forall_eq, u2_at, u2_row, upd_at, upd_ne, nI0b, nI1b, nI00, nI10, nI01, nI11, true_implies, false_implies, not_true_eq_false, not_false_eq_true, and_true, true_and, implies_true, b1, ixP, exn, eT])
        refine d_greatestOf (a := T - 1) (by omega) rb hbf frZ_r (fun μ2 f2 => ?_)
        (try simp only [↓w_X8_falls_0, ↓w_X8_falls_10, ↓w_X8_falls_34, ↓v_X8_falls_10, ↓v_X8_falls_34, ↓b_aload_n, ↓b_callV1_1, ↓b_callV2_1, ↓b_getA, ↓b_iand, ↓b_iconst, ↓b_if_ne, ↓b_iload, ↓b_iload_n, ↓b_iret, ↓b_ishl, ↓b_ishr, ↓n_istore, ↓n_istore_n, ↓b_ixor, ↓ldI_hit, ↓ldI_skip, ↓ldL_hit, ↓ldL_skip, ↓ldA_hit, ↓ldA_skip, ↓ldelK_nil, ↓ldelK_hit, ↓ldelK_skipI, ↓ldelK_skipA, ↓ldelK_skipL, qP2_X0_allWorks, qP2_X8_greatestOf, qP2_X8_isWork, ↓bI_b, bI_0, nnot, lget_hit, lget_skip, ldel_nil, ldel_hit, ldel_skipI, ldel_skipA, ldel_skipL, ldel2_nil, ldel2_hit, ldel2_hit2, ldel2_skipI, ldel2_skipA, ldel2_skipL, vc_0, mCat_nil, mCat_I, mCat_L, mCat_A, mRcv_A, mArg_nil, mArg_I, mArg_L, mArg_A, tsg, swt_nil, swt_cons, lkw_nil, lkw_cons, ↓reduceIte, Nat.reduceAdd, Nat.reduceEqDiff, Nat.reduceLeDiff, Nat.reduceMul, true_and, and_true, and_self, List.mem_cons, List.not_mem_nil, or_false, or_self, false_or, true_implies, false_implies, not_true_eq_false, not_false_eq_true, nI00, nI10, nI01, nI11, forall_const, implies_true])
        (try simp (disch := omega) only [ixq, ixz, sb_in, sb_in0, upI_sb, upI_sb0, sb_out, nI_add, nI_mul, nI_subq, Nat.zero_add, forall_eq, u2_at, u2_row, upd_at, upd_ne, nI0b, nI1b, nI00, nI10, nI01, nI11, true_implies, false_implies, not_true_eq_false, not_false_eq_true, and_true, true_and, implies_true, hb0, ea])
        refine d_greatestOf (a := a) (by omega) rb hbf f2 (fun μ3 f3 => ?_)
        (try simp only [↓w_X8_falls_0, ↓w_X8_falls_10, ↓w_X8_falls_34, ↓v_X8_falls_10, ↓v_X8_falls_34, ↓b_aload_n, ↓b_callV1_1, ↓b_callV2_1, ↓b_getA, ↓b_iand, ↓b_iconst, ↓b_if_ne, ↓b_iload, ↓b_iload_n, ↓b_iret, ↓b_ishl, ↓b_ishr, ↓n_istore, ↓n_istore_n, ↓b_ixor, ↓ldI_hit, ↓ldI_skip, ↓ldL_hit, ↓ldL_skip, ↓ldA_hit, ↓ldA_skip, ↓ldelK_nil, ↓ldelK_hit, ↓ldelK_skipI, ↓ldelK_skipA, ↓ldelK_skipL, qP2_X0_allWorks, qP2_X8_greatestOf, qP2_X8_isWork, ↓bI_b, bI_0, nnot, lget_hit, lget_skip, ldel_nil, ldel_hit, ldel_skipI, ldel_skipA, ldel_skipL, ldel2_nil, ldel2_hit, ldel2_hit2, ldel2_skipI, ldel2_skipA, ldel2_skipL, vc_0, mCat_nil, mCat_I, mCat_L, mCat_A, mRcv_A, mArg_nil, mArg_I, mArg_L, mArg_A, tsg, swt_nil, swt_cons, lkw_nil, lkw_cons, ↓reduceIte, Nat.reduceAdd, Nat.reduceEqDiff, Nat.reduceLeDiff, Nat.reduceMul, true_and, and_true, and_self, List.mem_cons, List.not_mem_nil, or_false, or_self, false_or, true_implies, false_implies, not_true_eq_false, not_false_eq_true, nI00, nI10, nI01, nI11, forall_const, implies_true]); (try simp (disch := omega) only [ixq, ixz, sb_in, sb_in0, upI_sb, upI_sb0, sb_out, nI_add, nI_mul, nI_subq, Nat.zero_add, forall_eq, u2_at, u2_row, upd_at, upd_ne, nI0b, nI1b, nI00, nI10, nI01, nI11, true_implies, false_implies, not_true_eq_false, not_false_eq_true, and_true, true_and, implies_true])
        exact hK μ3 f3
      · have q1' : (u2 Q 0 0 (nI 0)) 2 1 = nI W := by rw [u2_row (by decide), e]; exact rb.q1
        have e2 : (u2 Q 0 0 (nI 0)) 2 = μ.1 (m + 2) := by rw [u2_row (by decide), e]
        have hK := hK _ frK_r
        (refine vc_met2 P2_ok ok_X9_falls cm_X9_falls [] 6 t_X9_falls_0 (Nat.le_of_ble_eq_true rfl) ?_; simp only [mArg_nil, mArg_I, mArg_L, mArg_A, Nat.reduceAdd])
        (try simp only [↓w_X9_falls_0, ↓w_X9_falls_15, ↓w_X9_falls_34, ↓v_X9_falls_15, ↓v_X9_falls_34, ↓b_aload_n, ↓b_callS2_1, ↓b_callV1_1, ↓b_callV2_1, ↓b_iand, ↓b_iconst, ↓b_if_ne, ↓b_iload_n, ↓b_iret, ↓b_ishl, ↓n_istore_n, ↓b_ixor, ↓n_putI, ↓ldI_hit, ↓ldI_skip, ↓ldL_hit, ↓ldL_skip, ↓ldA_hit, ↓ldA_skip, ↓ldelK_nil, ↓ldelK_hit, ↓ldelK_skipI, ↓ldelK_skipA, ↓ldelK_skipL, qP2_X9_all, qP2_X9_greatestOf, qP2_X9_has, qP2_X9_isWork, ↓bI_b, bI_0, nnot, lget_hit, lget_skip, ldel_nil, ldel_hit, ldel_skipI, ldel_skipA, ldel_skipL, ldel2_nil, ldel2_hit, ldel2_hit2, ldel2_skipI, ldel2_skipA, ldel2_skipL, vc_0, mCat_nil, mCat_I, mCat_L, mCat_A, mRcv_A, mArg_nil, mArg_I, mArg_L, mArg_A, tsg, swt_nil, swt_cons, lkw_nil, lkw_cons, ↓reduceIte, Nat.reduceAdd, Nat.reduceEqDiff, Nat.reduceLeDiff, Nat.reduceMul, true_and, and_true, and_self, List.mem_cons, List.not_mem_nil, or_false, or_self, false_or, true_implies, false_implies, not_true_eq_false, not_false_eq_true, nI00, nI10, nI01, nI11, forall_const, implies_true])
        (try simp (disch := omega) only [ixq, ixz, sb_in, sb_in0, upI_sb, upI_sb0, sb_out, nI_add, nI_mul, nI_subq, Nat.zero_add, forall_eq, u2_at, upd_at, upd_ne, nI0b, nI1b, nI00, nI10, nI01, nI11, true_implies, false_implies, not_true_eq_false, not_false_eq_true, and_true, true_and, implies_true, q1', ixP, exn, eT])
        generalize u2 Q 0 0 (nI 0) = Q0 at hK q1' e2 ⊢
        refine c_greatestR (a := T - 1) (by omega) T256 eT (B := bk μ (x + 4)) (N := μ.2 (m + 6)) (G := G) (by rw [e2]; exact rb) hbf ?_
        (try simp only [↓w_X9_falls_0, ↓w_X9_falls_15, ↓w_X9_falls_34, ↓v_X9_falls_15, ↓v_X9_falls_34, ↓b_aload_n, ↓b_callS2_1, ↓b_callV1_1, ↓b_callV2_1, ↓b_iand, ↓b_iconst, ↓b_if_ne, ↓b_iload_n, ↓b_iret, ↓b_ishl, ↓n_istore_n, ↓b_ixor, ↓n_putI, ↓ldI_hit, ↓ldI_skip, ↓ldL_hit, ↓ldL_skip, ↓ldA_hit, ↓ldA_skip, ↓ldelK_nil, ↓ldelK_hit, ↓ldelK_skipI, ↓ldelK_skipA, ↓ldelK_skipL, qP2_X9_all, qP2_X9_greatestOf, qP2_X9_has, qP2_X9_isWork, ↓bI_b, bI_0, nnot, lget_hit, lget_skip, ldel_nil, ldel_hit, ldel_skipI, ldel_skipA, ldel_skipL, ldel2_nil, ldel2_hit, ldel2_hit2, ldel2_skipI, ldel2_skipA, ldel2_skipL, vc_0, mCat_nil, mCat_I, mCat_L, mCat_A, mRcv_A, mArg_nil, mArg_I, mArg_L, mArg_A, tsg, swt_nil, swt_cons, lkw_nil, lkw_cons, ↓reduceIte, Nat.reduceAdd, Nat.reduceEqDiff, Nat.reduceLeDiff, Nat.reduceMul, true_and, and_true, and_self, List.mem_cons, List.not_mem_nil, or_false, or_self, false_or, true_implies, false_implies, not_true_eq_false, not_false_eq_true, nI00, nI10, nI01, nI11, forall_const, implies_true])
        (try simp (disch := omega) only [ixq, ixz, sb_in, sb_in0, upI_sb, upI_sb0, sb_out, nI_add, nI_mul, nI_subq, Nat.zero_add, forall_eq, u2_at, u2_row, upd_at, upd_ne, nI0b, nI1b, nI00, nI10, nI01, nI11, true_implies, false_implies, not_true_eq_false, not_false_eq_true, and_true, true_and, implies_true, q1', eT, hb1, ea])
        refine c_greatestR (a := a) ha T256 eT (B := bk μ (x + 4)) (N := μ.2 (m + 6)) (G := G) (by rw [e2]; exact rb) hbf ?_
        (try simp only [↓w_X9_falls_0, ↓w_X9_falls_15, ↓w_X9_falls_34, ↓v_X9_falls_15, ↓v_X9_falls_34, ↓b_aload_n, ↓b_callS2_1, ↓b_callV1_1, ↓b_callV2_1, ↓b_iand, ↓b_iconst, ↓b_if_ne, ↓b_iload_n, ↓b_iret, ↓b_ishl, ↓n_istore_n, ↓b_ixor, ↓n_putI, ↓ldI_hit, ↓ldI_skip, ↓ldL_hit, ↓ldL_skip, ↓ldA_hit, ↓ldA_skip, ↓ldelK_nil, ↓ldelK_hit, ↓ldelK_skipI, ↓ldelK_skipA, ↓ldelK_skipL, qP2_X9_all, qP2_X9_greatestOf, qP2_X9_has, qP2_X9_isWork, ↓bI_b, bI_0, nnot, lget_hit, lget_skip, ldel_nil, ldel_hit, ldel_skipI, ldel_skipA, ldel_skipL, ldel2_nil, ldel2_hit, ldel2_hit2, ldel2_skipI, ldel2_skipA, ldel2_skipL, vc_0, mCat_nil, mCat_I, mCat_L, mCat_A, mRcv_A, mArg_nil, mArg_I, mArg_L, mArg_A, tsg, swt_nil, swt_cons, lkw_nil, lkw_cons, ↓reduceIte, Nat.reduceAdd, Nat.reduceEqDiff, Nat.reduceLeDiff, Nat.reduceMul, true_and, and_true, and_self, List.mem_cons, List.not_mem_nil, or_false, or_self, false_or, true_implies, false_implies, not_true_eq_false, not_false_eq_true, nI00, nI10, nI01, nI11, forall_const, implies_true]); (try simp (disch := omega) only [ixq, ixz, sb_in, sb_in0, upI_sb, upI_sb0, sb_out, nI_add, nI_mul, nI_subq, Nat.zero_add, forall_eq, u2_at, u2_row, upd_at, upd_ne, nI0b, nI1b, nI00, nI10, nI01, nI11, true_implies, false_implies, not_true_eq_false, not_false_eq_true, and_true, true_and, implies_true])
        exact hK
    · have hb1 := eq_false hb
      have hb0 : (nI (grF bf (T - 1) (T - 1)) >>> (nI i &&& 31) &&& nI 1 = 0) = True := by
        rcases and_1 (y := nI (grF bf (T - 1) (T - 1)) >>> (nI i &&& 31)) with z | z
        · rw [z]; exact nI00
        · exact absurd z hb
      refine pairC (.inl (-1)) hx hr (fun K hK => ?_) (fun μ1 Q e K hK => ?_)
      · (refine vc_met2 P2_ok ok_X8_falls cm_X8_falls [] 6 t_X8_falls_0 (Nat.le_of_ble_eq_true rfl) ?_; simp only [mArg_nil, mArg_I, mArg_L, mArg_A, Nat.reduceAdd])
        (try simp only [↓w_X8_falls_0, ↓w_X8_falls_10, ↓w_X8_falls_34, ↓v_X8_falls_10, ↓v_X8_falls_34, ↓b_aload_n, ↓b_callV1_1, ↓b_callV2_1, ↓b_getA, ↓b_iand, ↓b_iconst, ↓b_if_ne, ↓b_iload, ↓b_iload_n, ↓b_iret, ↓b_ishl, ↓b_ishr, ↓n_istore, ↓n_istore_n, ↓b_ixor, ↓ldI_hit, ↓ldI_skip, ↓ldL_hit, ↓ldL_skip, ↓ldA_hit, ↓ldA_skip, ↓ldelK_nil, ↓ldelK_hit, ↓ldelK_skipI, ↓ldelK_skipA, ↓ldelK_skipL, qP2_X0_allWorks, qP2_X8_greatestOf, qP2_X8_isWork, ↓bI_b, bI_0, nnot, lget_hit, lget_skip, ldel_nil, ldel_hit, ldel_skipI, ldel_skipA, ldel_skipL, ldel2_nil, ldel2_hit, ldel2_hit2, ldel2_skipI, ldel2_skipA, ldel2_skipL, vc_0, mCat_nil, mCat_I, mCat_L, mCat_A, mRcv_A, mArg_nil, mArg_I, mArg_L, mArg_A, tsg, swt_nil, swt_cons, lkw_nil, lkw_cons, ↓reduceIte, Nat.reduceAdd, Nat.reduceEqDiff, Nat.reduceLeDiff, Nat.reduceMul, true_and, and_true, and_self, List.mem_cons, List.not_mem_nil, or_false, or_self, false_or, true_implies, false_implies, not_true_eq_false, not_false_eq_true, nI00, nI10, nI01, nI11, forall_const, implies_true])
        (try simp (disch := omega) only [ixq, ixz, sb_in, sb_in0, upI_sb, upI_sb0, sb_out, nI_add, nI_mul, nI_subq, Nat.zero_add, forall_eq, u2_at, u2_row, upd_at, upd_ne, nI0b, nI1b, nI00, nI10, nI01, nI11, true_implies, false_implies, not_true_eq_false, not_false_eq_true, and_true, true_and, implies_true, b1, ixP, exn, eT])
        refine d_greatestOf (a := T - 1) (by omega) rb hbf frZ_r (fun μ2 f2 => ?_)
        (try simp only [↓w_X8_falls_0, ↓w_X8_falls_10, ↓w_X8_falls_34, ↓v_X8_falls_10, ↓v_X8_falls_34, ↓b_aload_n, ↓b_callV1_1, ↓b_callV2_1, ↓b_getA, ↓b_iand, ↓b_iconst, ↓b_if_ne, ↓b_iload, ↓b_iload_n, ↓b_iret, ↓b_ishl, ↓b_ishr, ↓n_istore, ↓n_istore_n, ↓b_ixor, ↓ldI_hit, ↓ldI_skip, ↓ldL_hit, ↓ldL_skip, ↓ldA_hit, ↓ldA_skip, ↓ldelK_nil, ↓ldelK_hit, ↓ldelK_skipI, ↓ldelK_skipA, ↓ldelK_skipL, qP2_X0_allWorks, qP2_X8_greatestOf, qP2_X8_isWork, ↓bI_b, bI_0, nnot, lget_hit, lget_skip, ldel_nil, ldel_hit, ldel_skipI, ldel_skipA, ldel_skipL, ldel2_nil, ldel2_hit, ldel2_hit2, ldel2_skipI, ldel2_skipA, ldel2_skipL, vc_0, mCat_nil, mCat_I, mCat_L, mCat_A, mRcv_A, mArg_nil, mArg_I, mArg_L, mArg_A, tsg, swt_nil, swt_cons, lkw_nil, lkw_cons, ↓reduceIte, Nat.reduceAdd, Nat.reduceEqDiff, Nat.reduceLeDiff, Nat.reduceMul, true_and, and_true, and_self, List.mem_cons, List.not_mem_nil, or_false, or_self, false_or, true_implies, false_implies, not_true_eq_false, not_false_eq_true, nI00, nI10, nI01, nI11, forall_const, implies_true])
        (try simp (disch := omega) only [ixq, ixz, sb_in, sb_in0, upI_sb, upI_sb0, sb_out, nI_add, nI_mul, nI_subq, Nat.zero_add, forall_eq, u2_at, u2_row, upd_at, upd_ne, nI0b, nI1b, nI00, nI10, nI01, nI11, true_implies, false_implies, not_true_eq_false, not_false_eq_true, and_true, true_and, implies_true, hb0])
        exact hK μ2 f2
      · have q1' : (u2 Q 0 0 (nI 0)) 2 1 = nI W := by rw [u2_row (by decide), e]; exact rb.q1
        have e2 : (u2 Q 0 0 (nI 0)) 2 = μ.1 (m + 2) := by rw [u2_row (by decide), e]
        have hK := hK _ frK_r
        (refine vc_met2 P2_ok ok_X9_falls cm_X9_falls [] 6 t_X9_falls_0 (Nat.le_of_ble_eq_true rfl) ?_; simp only [mArg_nil, mArg_I, mArg_L, mArg_A, Nat.reduceAdd])
        (try simp only [↓w_X9_falls_0, ↓w_X9_falls_15, ↓w_X9_falls_34, ↓v_X9_falls_15, ↓v_X9_falls_34, ↓b_aload_n, ↓b_callS2_1, ↓b_callV1_1, ↓b_callV2_1, ↓b_iand, ↓b_iconst, ↓b_if_ne, ↓b_iload_n, ↓b_iret, ↓b_ishl, ↓n_istore_n, ↓b_ixor, ↓n_putI, ↓ldI_hit, ↓ldI_skip, ↓ldL_hit, ↓ldL_skip, ↓ldA_hit, ↓ldA_skip, ↓ldelK_nil, ↓ldelK_hit, ↓ldelK_skipI, ↓ldelK_skipA, ↓ldelK_skipL, qP2_X9_all, qP2_X9_greatestOf, qP2_X9_has, qP2_X9_isWork, ↓bI_b, bI_0, nnot, lget_hit, lget_skip, ldel_nil, ldel_hit, ldel_skipI, ldel_skipA, ldel_skipL, ldel2_nil, ldel2_hit, ldel2_hit2, ldel2_skipI, ldel2_skipA, ldel2_skipL, vc_0, mCat_nil, mCat_I, mCat_L, mCat_A, mRcv_A, mArg_nil, mArg_I, mArg_L, mArg_A, tsg, swt_nil, swt_cons, lkw_nil, lkw_cons, ↓reduceIte, Nat.reduceAdd, Nat.reduceEqDiff, Nat.reduceLeDiff, Nat.reduceMul, true_and, and_true, and_self, List.mem_cons, List.not_mem_nil, or_false, or_self, false_or, true_implies, false_implies, not_true_eq_false, not_false_eq_true, nI00, nI10, nI01, nI11, forall_const, implies_true])
        (try simp (disch := omega) only [ixq, ixz, sb_in, sb_in0, upI_sb, upI_sb0, sb_out, nI_add, nI_mul, nI_subq, Nat.zero_add, forall_eq, u2_at, upd_at, upd_ne, nI0b, nI1b, nI00, nI10, nI01, nI11, true_implies, false_implies, not_true_eq_false, not_false_eq_true, and_true, true_and, implies_true, q1', ixP, exn, eT])
        generalize u2 Q 0 0 (nI 0) = Q0 at hK q1' e2 ⊢
        refine c_greatestR (a := T - 1) (by omega) T256 eT (B := bk μ (x + 4)) (N := μ.2 (m + 6)) (G := G) (by rw [e2]; exact rb) hbf ?_
        (try simp only [↓w_X9_falls_0, ↓w_X9_falls_15, ↓w_X9_falls_34, ↓v_X9_falls_15, ↓v_X9_falls_34, ↓b_aload_n, ↓b_callS2_1, ↓b_callV1_1, ↓b_callV2_1, ↓b_iand, ↓b_iconst, ↓b_if_ne, ↓b_iload_n, ↓b_iret, ↓b_ishl, ↓n_istore_n, ↓b_ixor, ↓n_putI, ↓ldI_hit, ↓ldI_skip, ↓ldL_hit, ↓ldL_skip, ↓ldA_hit, ↓ldA_skip, ↓ldelK_nil, ↓ldelK_hit, ↓ldelK_skipI, ↓ldelK_skipA, ↓ldelK_skipL, qP2_X9_all, qP2_X9_greatestOf, qP2_X9_has, qP2_X9_isWork, ↓bI_b, bI_0, nnot, lget_hit, lget_skip, ldel_nil, ldel_hit, ldel_skipI, ldel_skipA, ldel_skipL, ldel2_nil, ldel2_hit, ldel2_hit2, ldel2_skipI, ldel2_skipA, ldel2_skipL, vc_0, mCat_nil, mCat_I, mCat_L, mCat_A, mRcv_A, mArg_nil, mArg_I, mArg_L, mArg_A, tsg, swt_nil, swt_cons, lkw_nil, lkw_cons, ↓reduceIte, Nat.reduceAdd, Nat.reduceEqDiff, Nat.reduceLeDiff, Nat.reduceMul, true_and, and_true, and_self, List.mem_cons, List.not_mem_nil, or_false, or_self, false_or, true_implies, false_implies, not_true_eq_false, not_false_eq_true, nI00, nI10, nI01, nI11, forall_const, implies_true])
        (try simp (disch := omega) only [ixq, ixz, sb_in, sb_in0, upI_sb, upI_sb0, sb_out, nI_add, nI_mul, nI_subq, Nat.zero_add, forall_eq, u2_at, u2_row, upd_at, upd_ne, nI0b, nI1b, nI00, nI10, nI01, nI11, true_implies, false_implies, not_true_eq_false, not_false_eq_true, and_true, true_and, implies_true, q1', eT, hb1])
        exact hK
  · refine get (.inl (-1)) hx hr (fun K hK => ?_) (fun K hK => ?_)
    · (refine vc_met2 P2_ok ok_X8_falls cm_X8_falls [] 6 t_X8_falls_0 (Nat.le_of_ble_eq_true rfl) ?_; simp only [mArg_nil, mArg_I, mArg_L, mArg_A, Nat.reduceAdd])
      (try simp only [↓w_X8_falls_0, ↓w_X8_falls_10, ↓w_X8_falls_34, ↓v_X8_falls_10, ↓v_X8_falls_34, ↓b_aload_n, ↓b_callV1_1, ↓b_callV2_1, ↓b_getA, ↓b_iand, ↓b_iconst, ↓b_if_ne, ↓b_iload, ↓b_iload_n, ↓b_iret, ↓b_ishl, ↓b_ishr, ↓n_istore, ↓n_istore_n, ↓b_ixor, ↓ldI_hit, ↓ldI_skip, ↓ldL_hit, ↓ldL_skip, ↓ldA_hit, ↓ldA_skip, ↓ldelK_nil, ↓ldelK_hit, ↓ldelK_skipI, ↓ldelK_skipA, ↓ldelK_skipL, qP2_X0_allWorks, qP2_X8_greatestOf, qP2_X8_isWork, ↓bI_b, bI_0, nnot, lget_hit, lget_skip, ldel_nil, ldel_hit, ldel_skipI, ldel_skipA, ldel_skipL, ldel2_nil, ldel2_hit, ldel2_hit2, ldel2_skipI, ldel2_skipA, ldel2_skipL, vc_0, mCat_nil, mCat_I, mCat_L, mCat_A, mRcv_A, mArg_nil, mArg_I, mArg_L, mArg_A, tsg, swt_nil, swt_cons, lkw_nil, lkw_cons, ↓reduceIte, Nat.reduceAdd, Nat.reduceEqDiff, Nat.reduceLeDiff, Nat.reduceMul, true_and, and_true, and_self, List.mem_cons, List.not_mem_nil, or_false, or_self, false_or, true_implies, false_implies, not_true_eq_false, not_false_eq_true, nI00, nI10, nI01, nI11, forall_const, implies_true])
      (try simp (disch := omega) only [ixq, ixz, sb_in, sb_in0, upI_sb, upI_sb0, sb_out, nI_add, nI_mul, nI_subq, Nat.zero_add, forall_eq, u2_at, u2_row, upd_at, upd_ne, nI0b, nI1b, nI00, nI10, nI01, nI11, true_implies, false_implies, not_true_eq_false, not_false_eq_true, and_true, true_and, implies_true, b1, ixP, hw])
      exact hK
    · (refine vc_met2 P2_ok ok_X9_falls cm_X9_falls [] 6 t_X9_falls_0 (Nat.le_of_ble_eq_true rfl) ?_; simp only [mArg_nil, mArg_I, mArg_L, mArg_A, Nat.reduceAdd])
      (try simp only [↓w_X9_falls_0, ↓w_X9_falls_15, ↓w_X9_falls_34, ↓v_X9_falls_15, ↓v_X9_falls_34, ↓b_aload_n, ↓b_callS2_1, ↓b_callV1_1, ↓b_callV2_1, ↓b_iand, ↓b_iconst, ↓b_if_ne, ↓b_iload_n, ↓b_iret, ↓b_ishl, ↓n_istore_n, ↓b_ixor, ↓n_putI, ↓ldI_hit, ↓ldI_skip, ↓ldL_hit, ↓ldL_skip, ↓ldA_hit, ↓ldA_skip, ↓ldelK_nil, ↓ldelK_hit, ↓ldelK_skipI, ↓ldelK_skipA, ↓ldelK_skipL, qP2_X9_all, qP2_X9_greatestOf, qP2_X9_has, qP2_X9_isWork, ↓bI_b, bI_0, nnot, lget_hit, lget_skip, ldel_nil, ldel_hit, ldel_skipI, ldel_skipA, ldel_skipL, ldel2_nil, ldel2_hit, ldel2_hit2, ldel2_skipI, ldel2_skipA, ldel2_skipL, vc_0, mCat_nil, mCat_I, mCat_L, mCat_A, mRcv_A, mArg_nil, mArg_I, mArg_L, mArg_A, tsg, swt_nil, swt_cons, lkw_nil, lkw_cons, ↓reduceIte, Nat.reduceAdd, Nat.reduceEqDiff, Nat.reduceLeDiff, Nat.reduceMul, true_and, and_true, and_self, List.mem_cons, List.not_mem_nil, or_false, or_self, false_or, true_implies, false_implies, not_true_eq_false, not_false_eq_true, nI00, nI10, nI01, nI11, forall_const, implies_true])
      (try simp (disch := omega) only [ixq, ixz, sb_in, sb_in0, upI_sb, upI_sb0, sb_out, nI_add, nI_mul, nI_subq, Nat.zero_add, forall_eq, u2_at, u2_row, upd_at, upd_ne, nI0b, nI1b, nI00, nI10, nI01, nI11, true_implies, false_implies, not_true_eq_false, not_false_eq_true, and_true, true_and, implies_true, q1, ixP, hw])
      exact hK
end MGr
