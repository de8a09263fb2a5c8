def sdF (b : Nat → Nat) (k : Int32) : Nat → Nat → Nat → Int32
  | 0, _, c => if k = -1 then nI c else -1
  | n + 1, w, c => if b w = 0 then sdF b k n (w + 1) c else if nI c = k then nI w else sdF b k n (w + 1) (c + 1)
theorem sdF_lo {b : Nat → Nat} {k : Int32} (hk : k < -1) : ∀ n w c, c + n < 2 ^ 31 → sdF b k n w c = -1 := by
  have hk1 : ¬ k = -1 := fun e => by rw [e] at hk; exact absurd hk (by decide)
  intro n
  induction n with
  | zero => intro w c _; exact if_neg hk1
  | succ n ih =>
    intro w c hc
    unfold sdF
    have hne : ¬ nI c = k := fun e => by
      have h1 := Int32.lt_iff_toInt_lt.mp hk
      rw [← e, nI_toInt (by omega)] at h1
      have h2 : (-1 : Int32).toInt = -1 := by decide
      omega
    by_cases h0 : b w = 0
    · rw [if_pos h0]; exact ih (w + 1) c (by omega)
    · rw [if_neg h0, if_neg hne]; exact ih (w + 1) (c + 1) (by omega)
section MSa
variable {X : mC} {h x m : Nat} {μ : Mem} {K : MV → Mem → Prop}
theorem ND_v {f : Nat → Int32} {S : Bk} : ∀ d k s t l, ND f S d k s t l → ∀ i, s ≤ i → i < t → S 1 i = nI 12 ∨ S 1 i = nI 13 → ∃ g, g < 6 ∧ S 2 i = nI g := by
  intro d
  induction d with
  | zero => intro k s t l h; exact absurd h id
  | succ d ih =>
    intro k s t l h i h1 h2 h3
    rcases h with ⟨kw, y, a1, a2, a3, a4, a5, a6, a7, a8, a9⟩ | ⟨kw, a1, a2, a3, a4, a5, a6, a7, a8⟩ | ⟨y, t', a1, a2, a3, a4, a5, a6⟩ | ⟨o, c, y, z, t', u, l1, l2, a1, a2, a3, a4, a5, a6, a7, a8, a9, a10, a11⟩
    · have hi : i = s := by omega
      rw [hi] at h3 ⊢
      rw [a6] at h3
      refine ⟨y, a3 (fun e => ?_), a7⟩
      rw [e] at h3
      exact h3.elim (fun z => absurd z (by decide)) (fun z => absurd z (by decide))
    · have hi : i = s := by omega
      rw [hi, a6, nI_eqq (by omega) (by omega), nI_eqq (by omega) (by omega)] at h3
      omega
    · by_cases hi : i = t'
      · rw [hi, a5] at h3
        exact h3.elim (fun z => absurd z (by decide)) (fun z => absurd z (by decide))
      · exact ih _ _ _ _ a4 i h1 (by omega) h3
    · by_cases hi : i = u
      · rw [hi, a9, nI_eqq (by omega) (by omega), nI_eqq (by omega) (by omega)] at h3
        omega
      · by_cases ht : i < t'
        · exact ih _ _ _ _ a7 i h1 ht h3
        · exact ih _ _ _ _ a8 i (by omega) (by omega) h3
theorem f_said {k : Int32} (hx : x + 164 = m) (hr : Rel x m μ) : PAIR X (h + 50) m_X8_said m_X9_said x m [.inl k] μ := by
  obtain ⟨G, W, rb, pl, sn, rn⟩ := id hr.2.2.1
  have b0 : μ.1 (x + 4) 0 = nI G := rb.b0
  have b1 : μ.1 (x + 4) 1 = nI W := rb.b1
  have q0 : bk μ m 2 0 = nI G := rb.q0
  have q1 : bk μ m 2 1 = nI W := rb.q1
  have g6 := rb.g6
  have w8 := rb.w8
  rcases sn with ⟨s1, s2⟩ | ⟨o, s, kn, l, o1, o2, s40, ks, l20, so, ss, s379, s380, nd⟩
  · have s1' : μ.1 (x + 42) 0 = 0 := s1
    have s2' : bk μ m 2 379 = 0 := s2
    refine get (.inl (-1)) hx hr (fun K hK => ?_) (fun K hK => ?_)
    · (refine vc_met2 P2_ok ok_X8_said cm_X8_said [24,28] 8 t_X8_said_0 (Nat.le_of_ble_eq_true rfl) ?_; simp only [mArg_nil, mArg_I, mArg_L, mArg_A, Nat.reduceAdd])
      simp only [↓w_X8_said_0, ↓w_X8_said_22, ↓w_X8_said_24, ↓w_X8_said_65, ↓w_X8_said_68, ↓w_X8_said_74, ↓w_X8_said_83, ↓w_X8_said_84, ↓v_X8_said_22, ↓v_X8_said_24, ↓v_X8_said_28, ↓v_X8_said_65, ↓v_X8_said_68, ↓v_X8_said_74, ↓v_X8_said_83, ↓v_X8_said_84, ↓b_aload_n, ↓b_callV1_1, ↓b_callV4_1, ↓b_getA, ↓b_getI, ↓b_goto, ↓b_ic_ge, ↓b_ic_ne, ↓b_iconst, ↓b_if_eq, ↓n_iinc, ↓b_iload_n, ↓b_iret, ↓n_istore_n, ↓ldI_hit, ↓ldI_skip, ↓ldL_hit, ↓ldL_skip, ↓ldA_hit, ↓ldA_skip, ↓ldelK_nil, ↓ldelK_hit, ↓ldelK_skipI, ↓ldelK_skipA, ↓ldelK_skipL, qP2_X5_isTrueOf, qP2_X8_isRunning, ↓bI_b, bI_0, nnot, lget_hit, lget_skip, ldel_nil, ldel_hit, ldel_skipI, ldel_skipA, ldel_skipL, ldel2_nil, ldel2_hit, ldel2_hit2, ldel2_skipI, ldel2_skipA, ldel2_skipL, vc_0, mCat_nil, mCat_I, mCat_L, mCat_A, mRcv_A, mArg_nil, mArg_I, mArg_L, mArg_A, tsg, swt_nil, swt_cons, lkw_nil, lkw_cons, ↓reduceIte, Nat.reduceAdd, Nat.reduceEqDiff, Nat.reduceLeDiff, Nat.reduceMul, true_and, and_true, and_self, List.mem_cons, List.not_mem_nil, or_false, or_self, false_or, true_implies, false_implies, not_true_eq_false, not_false_eq_true, nI00, nI10, nI01, nI11, forall_const, implies_true]
      simp (disch := omega) only [ixq, ixz, sb_in, sb_in0, upI_sb, upI_sb0, sb_out, nI_add, nI_mul, nI_subq, Nat.zero_add, forall_eq, u2_at, u2_row, upd_at, upd_ne, nI0b, nI1b, nI00, nI10, nI01, nI11, true_implies, false_implies, not_true_eq_false, not_false_eq_true, and_true, true_and, implies_true, s1']
      exact hK
    · (refine vc_met2 P2_ok ok_X9_said cm_X9_said [25,29] 8 t_X9_said_0 (Nat.le_of_ble_eq_true rfl) ?_; simp only [mArg_nil, mArg_I, mArg_L, mArg_A, Nat.reduceAdd])
      simp only [↓w_X9_said_0, ↓w_X9_said_23, ↓w_X9_said_25, ↓w_X9_said_56, ↓w_X9_said_63, ↓w_X9_said_66, ↓w_X9_said_72, ↓w_X9_said_81, ↓w_X9_said_82, ↓v_X9_said_23, ↓v_X9_said_25, ↓v_X9_said_29, ↓v_X9_said_56, ↓v_X9_said_63, ↓v_X9_said_66, ↓v_X9_said_72, ↓v_X9_said_81, ↓v_X9_said_82, ↓b_aload_n, ↓b_callV1_1, ↓b_callV3_1, ↓b_getA, ↓b_goto, ↓b_iaload, ↓b_ic_ge, ↓b_ic_ne, ↓b_iconst, ↓b_if_eq, ↓b_if_ne, ↓n_iinc, ↓b_iload_n, ↓b_iret, ↓n_istore_n, ↓n_putI, ↓b_sipush, ↓ldI_hit, ↓ldI_skip, ↓ldL_hit, ↓ldL_skip, ↓ldA_hit, ↓ldA_skip, ↓ldelK_nil, ↓ldelK_hit, ↓ldelK_skipI, ↓ldelK_skipA, ↓ldelK_skipL, qP2_X9_holds, qP2_X9_isRun, qP2_X9_works, ↓bI_b, bI_0, nnot, lget_hit, lget_skip, ldel_nil, ldel_hit, ldel_skipI, ldel_skipA, ldel_skipL, ldel2_nil, ldel2_hit, ldel2_hit2, ldel2_skipI, ldel2_skipA, ldel2_skipL, vc_0, mCat_nil, mCat_I, mCat_L, mCat_A, mRcv_A, mArg_nil, mArg_I, mArg_L, mArg_A, tsg, swt_nil, swt_cons, lkw_nil, lkw_cons, ↓reduceIte, Nat.reduceAdd, Nat.reduceEqDiff, Nat.reduceLeDiff, Nat.reduceMul, true_and, and_true, and_self, List.mem_cons, List.not_mem_nil, or_false, or_self, false_or, true_implies, false_implies, not_true_eq_false, not_false_eq_true, nI00, nI10, nI01, nI11, forall_const, implies_true]
      simp (disch := omega) only [ixq, ixz, sb_in, sb_in0, upI_sb, upI_sb0, sb_out, nI_add, nI_mul, nI_subq, Nat.zero_add, forall_eq, u2_at, u2_row, upd_at, upd_ne, nI0b, nI1b, nI00, nI10, nI01, nI11, true_implies, false_implies, not_true_eq_false, not_false_eq_true, and_true, true_and, implies_true, s2']
      exact hK
  · have so' : (μ.1 (x + 42) 0 = 0) = False := by
      have e : μ.1 (x + 42) 0 = nI o := so
      rw [e, nI_ez (by omega)]
      exact propext ⟨fun z => by omega, False.elim⟩
    have s379' : bk μ m 2 379 = nI 1 := s379
    have s380' : bk μ m 2 380 = nI kn := s380
    rcases rn with ⟨e1, e2⟩ | ⟨n, n1, n2, n3, n4⟩
    · have e1' : μ.1 (x + 50) 0 = -1 := e1
      have e2' : bk μ m 2 621 = nI 0 := e2
      refine get (.inl (-1)) hx hr (fun K hK => ?_) (fun K hK => ?_)
      · (refine vc_met2 P2_ok ok_X8_said cm_X8_said [24,28] 8 t_X8_said_0 (Nat.le_of_ble_eq_true rfl) ?_; simp only [mArg_nil, mArg_I, mArg_L, mArg_A, Nat.reduceAdd])
        simp only [↓w_X8_said_0, ↓w_X8_said_22, ↓w_X8_said_24, ↓w_X8_said_65, ↓w_X8_said_68, ↓w_X8_said_74, ↓w_X8_said_83, ↓w_X8_said_84, ↓v_X8_said_22, ↓v_X8_said_24, ↓v_X8_said_28, ↓v_X8_said_65, ↓v_X8_said_68, ↓v_X8_said_74, ↓v_X8_said_83, ↓v_X8_said_84, ↓b_aload_n, ↓b_callV1_1, ↓b_callV4_1, ↓b_getA, ↓b_getI, ↓b_goto, ↓b_ic_ge, ↓b_ic_ne, ↓b_iconst, ↓b_if_eq, ↓n_iinc, ↓b_iload_n, ↓b_iret, ↓n_istore_n, ↓ldI_hit, ↓ldI_skip, ↓ldL_hit, ↓ldL_skip, ↓ldA_hit, ↓ldA_skip, ↓ldelK_nil, ↓ldelK_hit, ↓ldelK_skipI, ↓ldelK_skipA, ↓ldelK_skipL, qP2_X5_isTrueOf, qP2_X8_isRunning, ↓bI_b, bI_0, nnot, lget_hit, lget_skip, ldel_nil, ldel_hit, ldel_skipI, ldel_skipA, ldel_skipL, ldel2_nil, ldel2_hit, ldel2_hit2, ldel2_skipI, ldel2_skipA, ldel2_skipL, vc_0, mCat_nil, mCat_I, mCat_L, mCat_A, mRcv_A, mArg_nil, mArg_I, mArg_L, mArg_A, tsg, swt_nil, swt_cons, lkw_nil, lkw_cons, ↓reduceIte, Nat.reduceAdd, Nat.reduceEqDiff, Nat.reduceLeDiff, Nat.reduceMul, true_and, and_true, and_self, List.mem_cons, List.not_mem_nil, or_false, or_self, false_or, true_implies, false_implies, not_true_eq_false, not_false_eq_true, nI00, nI10, nI01, nI11, forall_const, implies_true]
        simp (disch := omega) only [ixq, ixz, sb_in, sb_in0, upI_sb, upI_sb0, sb_out, nI_add, nI_mul, nI_subq, Nat.zero_add, forall_eq, u2_at, u2_row, upd_at, upd_ne, nI0b, nI1b, nI00, nI10, nI01, nI11, true_implies, false_implies, not_true_eq_false, not_false_eq_true, and_true, true_and, implies_true, so', e1']
        exact hK
      · (refine vc_met2 P2_ok ok_X9_said cm_X9_said [25,29] 8 t_X9_said_0 (Nat.le_of_ble_eq_true rfl) ?_; simp only [mArg_nil, mArg_I, mArg_L, mArg_A, Nat.reduceAdd])
        simp only [↓w_X9_said_0, ↓w_X9_said_23, ↓w_X9_said_25, ↓w_X9_said_56, ↓w_X9_said_63, ↓w_X9_said_66, ↓w_X9_said_72, ↓w_X9_said_81, ↓w_X9_said_82, ↓v_X9_said_23, ↓v_X9_said_25, ↓v_X9_said_29, ↓v_X9_said_56, ↓v_X9_said_63, ↓v_X9_said_66, ↓v_X9_said_72, ↓v_X9_said_81, ↓v_X9_said_82, ↓b_aload_n, ↓b_callV1_1, ↓b_callV3_1, ↓b_getA, ↓b_goto, ↓b_iaload, ↓b_ic_ge, ↓b_ic_ne, ↓b_iconst, ↓b_if_eq, ↓b_if_ne, ↓n_iinc, ↓b_iload_n, ↓b_iret, ↓n_istore_n, ↓n_putI, ↓b_sipush, ↓ldI_hit, ↓ldI_skip, ↓ldL_hit, ↓ldL_skip, ↓ldA_hit, ↓ldA_skip, ↓ldelK_nil, ↓ldelK_hit, ↓ldelK_skipI, ↓ldelK_skipA, ↓ldelK_skipL, qP2_X9_holds, qP2_X9_isRun, qP2_X9_works, ↓bI_b, bI_0, nnot, lget_hit, lget_skip, ldel_nil, ldel_hit, ldel_skipI, ldel_skipA, ldel_skipL, ldel2_nil, ldel2_hit, ldel2_hit2, ldel2_skipI, ldel2_skipA, ldel2_skipL, vc_0, mCat_nil, mCat_I, mCat_L, mCat_A, mRcv_A, mArg_nil, mArg_I, mArg_L, mArg_A, tsg, swt_nil, swt_cons, lkw_nil, lkw_cons, ↓reduceIte, Nat.reduceAdd, Nat.reduceEqDiff, Nat.reduceLeDiff, Nat.reduceMul, true_and, and_true, and_self, List.mem_cons, List.not_mem_nil, or_false, or_self, false_or, true_implies, false_implies, not_true_eq_false, not_false_eq_true, nI00, nI10, nI01, nI11, forall_const, implies_true]
        simp (disch := omega) only [ixq, ixz, sb_in, sb_in0, upI_sb, upI_sb0, sb_out, nI_add, nI_mul, nI_subq, Nat.zero_add, forall_eq, u2_at, u2_row, upd_at, upd_ne, nI0b, nI1b, nI00, nI10, nI01, nI11, true_implies, false_implies, not_true_eq_false, not_false_eq_true, and_true, true_and, implies_true, s379', e2', z0]
        exact hK
    · have e1' : μ.1 (x + 50) 0 = nI n := n4.2.2.2.2.1
      have e1n : (μ.1 (x + 50) 0 = -1) = False := by rw [e1', nI_m1 (by omega)]
      have e2' : bk μ m 2 621 = nI 1 := n3
      have qt : (u2 (bk μ m) 0 0 (nI 0)) 2 = μ.1 (m + 2) := u2_row (by decide)
      have hb : ∀ w, w < W → ∃ b, b ≤ 1 ∧ bI (fo s (truthF (bk μ (x + 4)) (bk μ (x + 50)) (bk μ (x + 42)) w) (nI 0) &&& nI 1 = nI 1) = nI b ∧ ∀ H (K : MV → Mem → Prop), 41 < H → K (.inl (nI b)) (sb μ m 21 (u2 (bk μ m) 0 0 (nI 0))) → mMet X H m_X9_holds [.inr (.inr (8, 0, m)), .inl (nI kn), .inl (nI w)] (sb μ m 21 (u2 (bk μ m) 0 0 (nI 0))) K := by
        intro w hw
        obtain ⟨hb1, kk, k1, k2, k3, k4, k5⟩ := n4.2.2.2.2.2.2.2.2 w hw
        have hq : HWq ((u2 (bk μ m) 0 0 (nI 0)) 2) (bk μ (x + 4)) (bk μ (x + 50)) w := by
          rw [qt]
          refine ⟨fun g hg => (rb.ce _ (by omega)).1, fun g hg => (rb.ce _ (by omega)).2.2.2.1, ?_, ?_, ?_, ?_⟩
          · rw [show 857 + w = 621 + (236 + w) by omega]
            exact n4.1 10 w (by omega) (by rw [show szR 6 10 = 8 by decide]; omega)
          · rw [show 833 + w = 621 + (212 + w) by omega]
            exact n4.1 8 w (by omega) (by rw [show szR 6 8 = 8 by decide]; omega)
          · rw [show 841 + w = 621 + (220 + w) by omega]
            have e : μ.1 (m + 2) (621 + (220 + w)) = nI (n - kk) := k3
            rw [e, n4.2.2.2.2.1, k2, nI_subq k1]
          · rw [show 849 + w = 621 + (228 + w) by omega]
            exact hb1
        obtain ⟨b, b1, b2, b3⟩ := c_holds (X := X) (m := m) (μ := μ) (S := bk μ (x + 42)) (by omega) hq 40 kn 0 s l (by rw [qt]; exact nd) (by omega)
        refine ⟨b, b1, ?_, fun H K hH hK => b3 H K hH hK⟩
        have pl2 : 2 ^ l ≤ 2 ^ 20 := Nat.pow_le_pow_right (by decide) l20
        have f := b2 0 (by omega) rfl
        rw [f, Nat.mul_zero, Nat.zero_add]
        have hb2 : b = 0 ∨ b = 1 := by omega
        rcases hb2 with rfl | rfl <;> decide
      obtain ⟨bf, hbf⟩ : ∃ bf : Nat → Nat, ∀ w, w < W → bf w ≤ 1 ∧ bI (fo s (truthF (bk μ (x + 4)) (bk μ (x + 50)) (bk μ (x + 42)) w) (nI 0) &&& nI 1 = nI 1) = nI (bf w) ∧ ∀ H (K : MV → Mem → Prop), 41 < H → K (.inl (nI (bf w))) (sb μ m 21 (u2 (bk μ m) 0 0 (nI 0))) → mMet X H m_X9_holds [.inr (.inr (8, 0, m)), .inl (nI kn), .inl (nI w)] (sb μ m 21 (u2 (bk μ m) 0 0 (nI 0))) K :=
        ⟨fun w => if hw : w < W then Classical.choose (hb w hw) else 0, fun w hw => by
          dsimp only
          rw [dif_pos hw]
          exact Classical.choose_spec (hb w hw)⟩
      clear hb
      refine get (.inl (sdF bf k W 0 0)) hx hr (fun K hK => ?_) (fun K hK => ?_)
      · by_cases hk : k < -1
        · rw [sdF_lo hk W 0 0 (by omega)] at hK
          (refine vc_met2 P2_ok ok_X8_said cm_X8_said [24,28] 8 t_X8_said_0 (Nat.le_of_ble_eq_true rfl) ?_; simp only [mArg_nil, mArg_I, mArg_L, mArg_A, Nat.reduceAdd])
          simp only [↓w_X8_said_0, ↓w_X8_said_22, ↓w_X8_said_24, ↓w_X8_said_65, ↓w_X8_said_68, ↓w_X8_said_74, ↓w_X8_said_83, ↓w_X8_said_84, ↓v_X8_said_22, ↓v_X8_said_24, ↓v_X8_said_28, ↓v_X8_said_65, ↓v_X8_said_68, ↓v_X8_said_74, ↓v_X8_said_83, ↓v_X8_said_84, ↓b_aload_n, ↓b_callV1_1, ↓b_callV4_1, ↓b_getA, ↓b_getI, ↓b_goto, ↓b_ic_ge, ↓b_ic_ne, ↓b_iconst, ↓b_if_eq, ↓n_iinc, ↓b_iload_n, ↓b_iret, ↓n_istore_n, ↓ldI_hit, ↓ldI_skip, ↓ldL_hit, ↓ldL_skip, ↓ldA_hit, ↓ldA_skip, ↓ldelK_nil, ↓ldelK_hit, ↓ldelK_skipI, ↓ldelK_skipA, ↓ldelK_skipL, qP2_X5_isTrueOf, qP2_X8_isRunning, ↓bI_b, bI_0, nnot, lget_hit, lget_skip, ldel_nil, ldel_hit, ldel_skipI, ldel_skipA, ldel_skipL, ldel2_nil, ldel2_hit, ldel2_hit2, ldel2_skipI, ldel2_skipA, ldel2_skipL, vc_0, mCat_nil, mCat_I, mCat_L, mCat_A, mRcv_A, mArg_nil, mArg_I, mArg_L, mArg_A, tsg, swt_nil, swt_cons, lkw_nil, lkw_cons, ↓reduceIte, Nat.reduceAdd, Nat.reduceEqDiff, Nat.reduceLeDiff, Nat.reduceMul, true_and, and_true, and_self, List.mem_cons, List.not_mem_nil, or_false, or_self, false_or, true_implies, false_implies, not_true_eq_false, not_false_eq_true, nI00, nI10, nI01, nI11, forall_const, implies_true]
          simp (disch := omega) only [ixq, ixz, sb_in, sb_in0, upI_sb, upI_sb0, sb_out, nI_add, nI_mul, nI_subq, Nat.zero_add, forall_eq, u2_at, u2_row, upd_at, upd_ne, nI0b, nI1b, nI00, nI10, nI01, nI11, true_implies, false_implies, not_true_eq_false, not_false_eq_true, and_true, true_and, implies_true, so', e1n]
          exact ⟨fun z => absurd hk (Int32.not_lt.mpr z), fun _ => hK⟩
        · (refine vc_met2 P2_ok ok_X8_said cm_X8_said [24,28] 8 t_X8_said_0 (Nat.le_of_ble_eq_true rfl) ?_; simp only [mArg_nil, mArg_I, mArg_L, mArg_A, Nat.reduceAdd])
          have main : ∀ n w c, w + n = W → c ≤ w → K (.inl (sdF bf k n w c)) μ → bb X P2 m_X8_said (h + 49) K (vc X P2 m_X8_said (h + 49) K k_X8_said [24,28] 8) s_X8_said_28 [(3, .inl (nI w)), (2, .inl (nI c)), (0, .inr (.inr (7, 0, x))), (1, .inl k)] [] μ := by
            intro n
            induction n with
            | zero =>
              intro w c hw hc hK
              unfold sdF at hK
              simp only [↓w_X8_said_0, ↓w_X8_said_22, ↓w_X8_said_24, ↓w_X8_said_28, ↓w_X8_said_65, ↓w_X8_said_68, ↓w_X8_said_74, ↓w_X8_said_83, ↓w_X8_said_84, ↓v_X8_said_22, ↓v_X8_said_24, ↓v_X8_said_28, ↓v_X8_said_65, ↓v_X8_said_68, ↓v_X8_said_74, ↓v_X8_said_83, ↓v_X8_said_84, ↓b_aload_n, ↓b_callV1_1, ↓b_callV4_1, ↓b_getA, ↓b_getI, ↓b_goto, ↓b_ic_ge, ↓b_ic_ne, ↓b_iconst, ↓b_if_eq, ↓n_iinc, ↓b_iload_n, ↓b_iret, ↓n_istore_n, ↓ldI_hit, ↓ldI_skip, ↓ldL_hit, ↓ldL_skip, ↓ldA_hit, ↓ldA_skip, ↓ldelK_nil, ↓ldelK_hit, ↓ldelK_skipI, ↓ldelK_skipA, ↓ldelK_skipL, qP2_X5_isTrueOf, qP2_X8_isRunning, ↓bI_b, bI_0, nnot, lget_hit, lget_skip, ldel_nil, ldel_hit, ldel_skipI, ldel_skipA, ldel_skipL, ldel2_nil, ldel2_hit, ldel2_hit2, ldel2_skipI, ldel2_skipA, ldel2_skipL, vc_0, mCat_nil, mCat_I, mCat_L, mCat_A, mRcv_A, mArg_nil, mArg_I, mArg_L, mArg_A, tsg, swt_nil, swt_cons, lkw_nil, lkw_cons, ↓reduceIte, Nat.reduceAdd, Nat.reduceEqDiff, Nat.reduceLeDiff, Nat.reduceMul, true_and, and_true, and_self, List.mem_cons, List.not_mem_nil, or_false, or_self, false_or, true_implies, false_implies, not_true_eq_false, not_false_eq_true, nI00, nI10, nI01, nI11, forall_const, implies_true]
              simp (disch := omega) only [ixq, ixz, sb_in, sb_in0, upI_sb, upI_sb0, sb_out, nI_add, nI_mul, nI_subq, Nat.zero_add, forall_eq, u2_at, u2_row, upd_at, upd_ne, nI0b, nI1b, nI00, nI10, nI01, nI11, true_implies, false_implies, not_true_eq_false, not_false_eq_true, and_true, true_and, implies_true, b1, nI_lq]
              exact ⟨fun _ => ⟨fun e => by rw [if_neg e] at hK; exact hK, fun e => by rw [if_pos e] at hK; exact hK⟩, fun z => absurd (show W ≤ w by omega) z⟩
            | succ n ih =>
              intro w c hw hc hK
              unfold sdF at hK
              have hw' := hbf w (by omega)
              simp only [↓w_X8_said_0, ↓w_X8_said_22, ↓w_X8_said_24, ↓w_X8_said_28, ↓w_X8_said_65, ↓w_X8_said_68, ↓w_X8_said_74, ↓w_X8_said_83, ↓w_X8_said_84, ↓v_X8_said_22, ↓v_X8_said_24, ↓v_X8_said_28, ↓v_X8_said_65, ↓v_X8_said_68, ↓v_X8_said_74, ↓v_X8_said_83, ↓v_X8_said_84, ↓b_aload_n, ↓b_callV1_1, ↓b_callV4_1, ↓b_getA, ↓b_getI, ↓b_goto, ↓b_ic_ge, ↓b_ic_ne, ↓b_iconst, ↓b_if_eq, ↓n_iinc, ↓b_iload_n, ↓b_iret, ↓n_istore_n, ↓ldI_hit, ↓ldI_skip, ↓ldL_hit, ↓ldL_skip, ↓ldA_hit, ↓ldA_skip, ↓ldelK_nil, ↓ldelK_hit, ↓ldelK_skipI, ↓ldelK_skipA, ↓ldelK_skipL, qP2_X5_isTrueOf, qP2_X8_isRunning, ↓bI_b, bI_0, nnot, lget_hit, lget_skip, ldel_nil, ldel_hit, ldel_skipI, ldel_skipA, ldel_skipL, ldel2_nil, ldel2_hit, ldel2_hit2, ldel2_skipI, ldel2_skipA, ldel2_skipL, vc_0, mCat_nil, mCat_I, mCat_L, mCat_A, mRcv_A, mArg_nil, mArg_I, mArg_L, mArg_A, tsg, swt_nil, swt_cons, lkw_nil, lkw_cons, ↓reduceIte, Nat.reduceAdd, Nat.reduceEqDiff, Nat.reduceLeDiff, Nat.reduceMul, true_and, and_true, and_self, List.mem_cons, List.not_mem_nil, or_false, or_self, false_or, true_implies, false_implies, not_true_eq_false, not_false_eq_true, nI00, nI10, nI01, nI11, forall_const, implies_true]
              simp (disch := omega) only [ixq, ixz, sb_in, sb_in0, upI_sb, upI_sb0, sb_out, nI_add, nI_mul, nI_subq, Nat.zero_add, forall_eq, u2_at, u2_row, upd_at, upd_ne, nI0b, nI1b, nI00, nI10, nI01, nI11, true_implies, false_implies, not_true_eq_false, not_false_eq_true, and_true, true_and, implies_true, b1, nI_lq]
              refine ⟨fun z => by omega, fun _ => ?_⟩
              refine c_isTrueOf (S := bk μ (x + 42)) (B := bk μ (x + 4)) (R := bk μ (x + 50)) (n := s) s40 (by omega) (fun _ _ => rfl) (fun _ _ => rfl) (fun _ _ => rfl) ss (fun i hi hv => ND_v _ _ _ _ _ nd i (Nat.zero_le i) hi hv) ?_
              rw [hw'.2.1]
              have hb2 : bf w = 0 ∨ bf w = 1 := by omega
              rcases hb2 with e | e
              · rw [if_pos e] at hK
                rw [e]
                have i2 := ih (w + 1) c (by omega) (by omega) hK
                (try simp only [↓w_X8_said_0, ↓w_X8_said_22, ↓w_X8_said_24, ↓w_X8_said_28, ↓w_X8_said_65, ↓w_X8_said_68, ↓w_X8_said_74, ↓w_X8_said_83, ↓w_X8_said_84, ↓v_X8_said_22, ↓v_X8_said_24, ↓v_X8_said_28, ↓v_X8_said_65, ↓v_X8_said_68, ↓v_X8_said_74, ↓v_X8_said_83, ↓v_X8_said_84, ↓b_aload_n, ↓b_callV1_1, ↓b_callV4_1, ↓b_getA, ↓b_getI, ↓b_goto, ↓b_ic_ge, ↓b_ic_ne, ↓b_iconst, ↓b_if_eq, ↓n_iinc, ↓b_iload_n, ↓b_iret, ↓n_istore_n, ↓ldI_hit, ↓ldI_skip, ↓ldL_hit, ↓ldL_skip, ↓ldA_hit, ↓ldA_skip, ↓ldelK_nil, ↓ldelK_hit, ↓ldelK_skipI, ↓ldelK_skipA, ↓ldelK_skipL, qP2_X5_isTrueOf, qP2_X8_isRunning, ↓bI_b, bI_0, nnot, lget_hit, lget_skip, ldel_nil, ldel_hit, ldel_skipI, ldel_skipA, ldel_skipL, ldel2_nil, ldel2_hit, ldel2_hit2, ldel2_skipI, ldel2_skipA, ldel2_skipL, vc_0, mCat_nil, mCat_I, mCat_L, mCat_A, mRcv_A, mArg_nil, mArg_I, mArg_L, mArg_A, tsg, swt_nil, swt_cons, lkw_nil, lkw_cons, ↓reduceIte, Nat.reduceAdd, Nat.reduceEqDiff, Nat.reduceLeDiff, Nat.reduceMul, true_and, and_true, and_self, List.mem_cons, List.not_mem_nil, or_false, or_self, false_or, true_implies, false_implies, not_true_eq_false, not_false_eq_true, nI00, nI10, nI01, nI11, forall_const, implies_true]); (try simp (disch := omega) only [ixq, ixz, sb_in, sb_in0, upI_sb, upI_sb0, sb_out, nI_add, nI_mul, nI_subq, Nat.zero_add, forall_eq, u2_at, u2_row, upd_at, upd_ne, nI0b, nI1b, nI00, nI10, nI01, nI11, true_implies, false_implies, not_true_eq_false, not_false_eq_true, and_true, true_and, implies_true])
                exact vc_back P2_ok ok_X8_said [24,28] 8 t_X8_said_28 (i2) (by simp) (rfl)
              · rw [if_neg (by omega)] at hK
                rw [e]
                (try simp only [↓w_X8_said_0, ↓w_X8_said_22, ↓w_X8_said_24, ↓w_X8_said_28, ↓w_X8_said_65, ↓w_X8_said_68, ↓w_X8_said_74, ↓w_X8_said_83, ↓w_X8_said_84, ↓v_X8_said_22, ↓v_X8_said_24, ↓v_X8_said_28, ↓v_X8_said_65, ↓v_X8_said_68, ↓v_X8_said_74, ↓v_X8_said_83, ↓v_X8_said_84, ↓b_aload_n, ↓b_callV1_1, ↓b_callV4_1, ↓b_getA, ↓b_getI, ↓b_goto, ↓b_ic_ge, ↓b_ic_ne, ↓b_iconst, ↓b_if_eq, ↓n_iinc, ↓b_iload_n, ↓b_iret, ↓n_istore_n, ↓ldI_hit, ↓ldI_skip, ↓ldL_hit, ↓ldL_skip, ↓ldA_hit, ↓ldA_skip, ↓ldelK_nil, ↓ldelK_hit, ↓ldelK_skipI, ↓ldelK_skipA, ↓ldelK_skipL, qP2_X5_isTrueOf, qP2_X8_isRunning, ↓bI_b, bI_0, nnot, lget_hit, lget_skip, ldel_nil, ldel_hit, ldel_skipI, ldel_skipA, ldel_skipL, ldel2_nil, ldel2_hit, ldel2_hit2, ldel2_skipI, ldel2_skipA, ldel2_skipL, vc_0, mCat_nil, mCat_I, mCat_L, mCat_A, mRcv_A, mArg_nil, mArg_I, mArg_L, mArg_A, tsg, swt_nil, swt_cons, lkw_nil, lkw_cons, ↓reduceIte, Nat.reduceAdd, Nat.reduceEqDiff, Nat.reduceLeDiff, Nat.reduceMul, true_and, and_true, and_self, List.mem_cons, List.not_mem_nil, or_false, or_self, false_or, true_implies, false_implies, not_true_eq_false, not_false_eq_true, nI00, nI10, nI01, nI11, forall_const, implies_true]); (try simp (disch := omega) only [ixq, ixz, sb_in, sb_in0, upI_sb, upI_sb0, sb_out, nI_add, nI_mul, nI_subq, Nat.zero_add, forall_eq, u2_at, u2_row, upd_at, upd_ne, nI0b, nI1b, nI00, nI10, nI01, nI11, true_implies, false_implies, not_true_eq_false, not_false_eq_true, and_true, true_and, implies_true])
                refine ⟨fun ne => ?_, fun eq => ?_⟩
                · rw [if_neg ne] at hK
                  have i2 := ih (w + 1) (c + 1) (by omega) (by omega) hK
                  exact vc_back P2_ok ok_X8_said [24,28] 8 t_X8_said_28 (i2) (by simp) (rfl)
                · rw [if_pos eq] at hK
                  exact hK
          have i2 := main W 0 0 (by omega) (by omega) hK
          clear main
          simp only [↓w_X8_said_0, ↓w_X8_said_22, ↓w_X8_said_24, ↓w_X8_said_65, ↓w_X8_said_68, ↓w_X8_said_74, ↓w_X8_said_83, ↓w_X8_said_84, ↓v_X8_said_22, ↓v_X8_said_24, ↓v_X8_said_28, ↓v_X8_said_65, ↓v_X8_said_68, ↓v_X8_said_74, ↓v_X8_said_83, ↓v_X8_said_84, ↓b_aload_n, ↓b_callV1_1, ↓b_callV4_1, ↓b_getA, ↓b_getI, ↓b_goto, ↓b_ic_ge, ↓b_ic_ne, ↓b_iconst, ↓b_if_eq, ↓n_iinc, ↓b_iload_n, ↓b_iret, ↓n_istore_n, ↓ldI_hit, ↓ldI_skip, ↓ldL_hit, ↓ldL_skip, ↓ldA_hit, ↓ldA_skip, ↓ldelK_nil, ↓ldelK_hit, ↓ldelK_skipI, ↓ldelK_skipA, ↓ldelK_skipL, qP2_X5_isTrueOf, qP2_X8_isRunning, ↓bI_b, bI_0, nnot, lget_hit, lget_skip, ldel_nil, ldel_hit, ldel_skipI, ldel_skipA, ldel_skipL, ldel2_nil, ldel2_hit, ldel2_hit2, ldel2_skipI, ldel2_skipA, ldel2_skipL, vc_0, mCat_nil, mCat_I, mCat_L, mCat_A, mRcv_A, mArg_nil, mArg_I, mArg_L, mArg_A, tsg, swt_nil, swt_cons, lkw_nil, lkw_cons, ↓reduceIte, Nat.reduceAdd, Nat.reduceEqDiff, Nat.reduceLeDiff, Nat.reduceMul, true_and, and_true, and_self, List.mem_cons, List.not_mem_nil, or_false, or_self, false_or, true_implies, false_implies, not_true_eq_false, not_false_eq_true, nI00, nI10, nI01, nI11, forall_const, implies_true]
          simp (disch := omega) only [ixq, ixz, sb_in, sb_in0, upI_sb, upI_sb0, sb_out, nI_add, nI_mul, nI_subq, Nat.zero_add, forall_eq, u2_at, u2_row, upd_at, upd_ne, nI0b, nI1b, nI00, nI10, nI01, nI11, true_implies, false_implies, not_true_eq_false, not_false_eq_true, and_true, true_and, implies_true, so', e1n]
          refine ⟨fun _ => ?_, fun z => absurd (Int32.not_lt.mp hk) z⟩
          (refine vc_from P2_ok ok_X8_said [24,28] 8 ?_; rw [t_X8_said_24])
          simp only [↓w_X8_said_0, ↓w_X8_said_22, ↓w_X8_said_24, ↓w_X8_said_65, ↓w_X8_said_68, ↓w_X8_said_74, ↓w_X8_said_83, ↓w_X8_said_84, ↓v_X8_said_22, ↓v_X8_said_24, ↓v_X8_said_28, ↓v_X8_said_65, ↓v_X8_said_68, ↓v_X8_said_74, ↓v_X8_said_83, ↓v_X8_said_84, ↓b_aload_n, ↓b_callV1_1, ↓b_callV4_1, ↓b_getA, ↓b_getI, ↓b_goto, ↓b_ic_ge, ↓b_ic_ne, ↓b_iconst, ↓b_if_eq, ↓n_iinc, ↓b_iload_n, ↓b_iret, ↓n_istore_n, ↓ldI_hit, ↓ldI_skip, ↓ldL_hit, ↓ldL_skip, ↓ldA_hit, ↓ldA_skip, ↓ldelK_nil, ↓ldelK_hit, ↓ldelK_skipI, ↓ldelK_skipA, ↓ldelK_skipL, qP2_X5_isTrueOf, qP2_X8_isRunning, ↓bI_b, bI_0, nnot, lget_hit, lget_skip, ldel_nil, ldel_hit, ldel_skipI, ldel_skipA, ldel_skipL, ldel2_nil, ldel2_hit, ldel2_hit2, ldel2_skipI, ldel2_skipA, ldel2_skipL, vc_0, mCat_nil, mCat_I, mCat_L, mCat_A, mRcv_A, mArg_nil, mArg_I, mArg_L, mArg_A, tsg, swt_nil, swt_cons, lkw_nil, lkw_cons, ↓reduceIte, Nat.reduceAdd, Nat.reduceEqDiff, Nat.reduceLeDiff, Nat.reduceMul, true_and, and_true, and_self, List.mem_cons, List.not_mem_nil, or_false, or_self, false_or, true_implies, false_implies, not_true_eq_false, not_false_eq_true, nI00, nI10, nI01, nI11, forall_const, implies_true]
          rintro _ rfl _ rfl
          exact i2
      · (refine vc_met2 P2_ok ok_X9_said cm_X9_said [25,29] 8 t_X9_said_0 (Nat.le_of_ble_eq_true rfl) ?_; simp only [mArg_nil, mArg_I, mArg_L, mArg_A, Nat.reduceAdd])
        have main : ∀ n w c, w + n = W → c ≤ w → K (.inl (sdF bf k n w c)) (sb μ m 21 (u2 (bk μ m) 0 0 (nI 0))) → bb X P2 m_X9_said (h + 49) K (vc X P2 m_X9_said (h + 49) K k_X9_said [25,29] 8) s_X9_said_29 [(3, .inl (nI w)), (2, .inl (nI c)), (0, .inr (.inr (8, 0, m))), (1, .inl k)] [] (sb μ m 21 (u2 (bk μ m) 0 0 (nI 0))) := by
          intro n
          induction n with
          | zero =>
            intro w c hw hc hK
            unfold sdF at hK
            simp only [↓w_X9_said_0, ↓w_X9_said_23, ↓w_X9_said_25, ↓w_X9_said_29, ↓w_X9_said_56, ↓w_X9_said_63, ↓w_X9_said_66, ↓w_X9_said_72, ↓w_X9_said_81, ↓w_X9_said_82, ↓v_X9_said_23, ↓v_X9_said_25, ↓v_X9_said_29, ↓v_X9_said_56, ↓v_X9_said_63, ↓v_X9_said_66, ↓v_X9_said_72, ↓v_X9_said_81, ↓v_X9_said_82, ↓b_aload_n, ↓b_callV1_1, ↓b_callV3_1, ↓b_getA, ↓b_goto, ↓b_iaload, ↓b_ic_ge, ↓b_ic_ne, ↓b_iconst, ↓b_if_eq, ↓b_if_ne, ↓n_iinc, ↓b_iload_n, ↓b_iret, ↓n_istore_n, ↓n_putI, ↓b_sipush, ↓ldI_hit, ↓ldI_skip, ↓ldL_hit, ↓ldL_skip, ↓ldA_hit, ↓ldA_skip, ↓ldelK_nil, ↓ldelK_hit, ↓ldelK_skipI, ↓ldelK_skipA, ↓ldelK_skipL, qP2_X9_holds, qP2_X9_isRun, qP2_X9_works, ↓bI_b, bI_0, nnot, lget_hit, lget_skip, ldel_nil, ldel_hit, ldel_skipI, ldel_skipA, ldel_skipL, ldel2_nil, ldel2_hit, ldel2_hit2, ldel2_skipI, ldel2_skipA, ldel2_skipL, vc_0, mCat_nil, mCat_I, mCat_L, mCat_A, mRcv_A, mArg_nil, mArg_I, mArg_L, mArg_A, tsg, swt_nil, swt_cons, lkw_nil, lkw_cons, ↓reduceIte, Nat.reduceAdd, Nat.reduceEqDiff, Nat.reduceLeDiff, Nat.reduceMul, true_and, and_true, and_self, List.mem_cons, List.not_mem_nil, or_false, or_self, false_or, true_implies, false_implies, not_true_eq_false, not_false_eq_true, nI00, nI10, nI01, nI11, forall_const, implies_true]
            simp (disch := omega) only [ixq, ixz, sb_in, sb_in0, upI_sb, upI_sb0, sb_out, nI_add, nI_mul, nI_subq, Nat.zero_add, forall_eq, u2_at, u2_row, upd_at, upd_ne, nI0b, nI1b, nI00, nI10, nI01, nI11, true_implies, false_implies, not_true_eq_false, not_false_eq_true, and_true, true_and, implies_true, q1, nI_lq, s380']
            exact ⟨fun _ => ⟨fun e => by rw [if_neg e] at hK; exact hK, fun e => by rw [if_pos e] at hK; exact hK⟩, fun z => absurd (show W ≤ w by omega) z⟩
          | succ n ih =>
            intro w c hw hc hK
            unfold sdF at hK
            have hw' := hbf w (by omega)
            simp only [↓w_X9_said_0, ↓w_X9_said_23, ↓w_X9_said_25, ↓w_X9_said_29, ↓w_X9_said_56, ↓w_X9_said_63, ↓w_X9_said_66, ↓w_X9_said_72, ↓w_X9_said_81, ↓w_X9_said_82, ↓v_X9_said_23, ↓v_X9_said_25, ↓v_X9_said_29, ↓v_X9_said_56, ↓v_X9_said_63, ↓v_X9_said_66, ↓v_X9_said_72, ↓v_X9_said_81, ↓v_X9_said_82, ↓b_aload_n, ↓b_callV1_1, ↓b_callV3_1, ↓b_getA, ↓b_goto, ↓b_iaload, ↓b_ic_ge, ↓b_ic_ne, ↓b_iconst, ↓b_if_eq, ↓b_if_ne, ↓n_iinc, ↓b_iload_n, ↓b_iret, ↓n_istore_n, ↓n_putI, ↓b_sipush, ↓ldI_hit, ↓ldI_skip, ↓ldL_hit, ↓ldL_skip, ↓ldA_hit, ↓ldA_skip, ↓ldelK_nil, ↓ldelK_hit, ↓ldelK_skipI, ↓ldelK_skipA, ↓ldelK_skipL, qP2_X9_holds, qP2_X9_isRun, qP2_X9_works, ↓bI_b, bI_0, nnot, lget_hit, lget_skip, ldel_nil, ldel_hit, ldel_skipI, ldel_skipA, ldel_skipL, ldel2_nil, ldel2_hit, ldel2_hit2, ldel2_skipI, ldel2_skipA, ldel2_skipL, vc_0, mCat_nil, mCat_I, mCat_L, mCat_A, mRcv_A, mArg_nil, mArg_I, mArg_L, mArg_A, tsg, swt_nil, swt_cons, lkw_nil, lkw_cons, ↓reduceIte, Nat.reduceAdd, Nat.reduceEqDiff, Nat.reduceLeDiff, Nat.reduceMul, true_and, and_true, and_self, List.mem_cons, List.not_mem_nil, or_false, or_self, false_or, true_implies, false_implies, not_true_eq_false, not_false_eq_true, nI00, nI10, nI01, nI11, forall_const, implies_true]
            simp (disch := omega) only [ixq, ixz, sb_in, sb_in0, upI_sb, upI_sb0, sb_out, nI_add, nI_mul, nI_subq, Nat.zero_add, forall_eq, u2_at, u2_row, upd_at, upd_ne, nI0b, nI1b, nI00, nI10, nI01, nI11, true_implies, false_implies, not_true_eq_false, not_false_eq_true, and_true, true_and, implies_true, q1, nI_lq, s380']
            refine ⟨fun z => by omega, fun _ => ?_⟩
            refine hw'.2.2 _ _ (by omega) ?_
            have hb2 : bf w = 0 ∨ bf w = 1 := by omega
            rcases hb2 with e | e
            · rw [if_pos e] at hK
              rw [e]
              have i2 := ih (w + 1) c (by omega) (by omega) hK
              (try simp only [↓w_X9_said_0, ↓w_X9_said_23, ↓w_X9_said_25, ↓w_X9_said_29, ↓w_X9_said_56, ↓w_X9_said_63, ↓w_X9_said_66, ↓w_X9_said_72, ↓w_X9_said_81, ↓w_X9_said_82, ↓v_X9_said_23, ↓v_X9_said_25, ↓v_X9_said_29, ↓v_X9_said_56, ↓v_X9_said_63, ↓v_X9_said_66, ↓v_X9_said_72, ↓v_X9_said_81, ↓v_X9_said_82, ↓b_aload_n, ↓b_callV1_1, ↓b_callV3_1, ↓b_getA, ↓b_goto, ↓b_iaload, ↓b_ic_ge, ↓b_ic_ne, ↓b_iconst, ↓b_if_eq, ↓b_if_ne, ↓n_iinc, ↓b_iload_n, ↓b_iret, ↓n_istore_n, ↓n_putI, ↓b_sipush, ↓ldI_hit, ↓ldI_skip, ↓ldL_hit, ↓ldL_skip, ↓ldA_hit, ↓ldA_skip, ↓ldelK_nil, ↓ldelK_hit, ↓ldelK_skipI, ↓ldelK_skipA, ↓ldelK_skipL, qP2_X9_holds, qP2_X9_isRun, qP2_X9_works, ↓bI_b, bI_0, nnot, lget_hit, lget_skip, ldel_nil, ldel_hit, ldel_skipI, ldel_skipA, ldel_skipL, ldel2_nil, ldel2_hit, ldel2_hit2, ldel2_skipI, ldel2_skipA, ldel2_skipL, vc_0, mCat_nil, mCat_I, mCat_L, mCat_A, mRcv_A, mArg_nil, mArg_I, mArg_L, mArg_A, tsg, swt_nil, swt_cons, lkw_nil, lkw_cons, ↓reduceIte, Nat.reduceAdd, Nat.reduceEqDiff, Nat.reduceLeDiff, Nat.reduceMul, true_and, and_true, and_self, List.mem_cons, List.not_mem_nil, or_false, or_self, false_or, true_implies, false_implies, not_true_eq_false, not_false_eq_true, nI00, nI10, nI01, nI11, forall_const, implies_true]); (try simp (disch := omega) only [ixq, ixz, sb_in, sb_in0, upI_sb, upI_sb0, sb_out, nI_add, nI_mul, nI_subq, Nat.zero_add, forall_eq, u2_at, u2_row, upd_at, upd_ne, nI0b, nI1b, nI00, nI10, nI01, nI11, true_implies, false_implies, not_true_eq_false, not_false_eq_true, and_true, true_and, implies_true])
              exact vc_back P2_ok ok_X9_said [25,29] 8 t_X9_said_29 (i2) (by simp) (rfl)
            · rw [if_neg (by omega)] at hK
              rw [e]
              (try simp only [↓w_X9_said_0, ↓w_X9_said_23, ↓w_X9_said_25, ↓w_X9_said_29, ↓w_X9_said_56, ↓w_X9_said_63, ↓w_X9_said_66, ↓w_X9_said_72, ↓w_X9_said_81, ↓w_X9_said_82, ↓v_X9_said_23, ↓v_X9_said_25, ↓v_X9_said_29, ↓v_X9_said_56, ↓v_X9_said_63, ↓v_X9_said_66, ↓v_X9_said_72, ↓v_X9_said_81, ↓v_X9_said_82, ↓b_aload_n, ↓b_callV1_1, ↓b_callV3_1, ↓b_getA, ↓b_goto, ↓b_iaload, ↓b_ic_ge, ↓b_ic_ne, ↓b_iconst, ↓b_if_eq, ↓b_if_ne, ↓n_iinc, ↓b_iload_n, ↓b_iret, ↓n_istore_n, ↓n_putI, ↓b_sipush, ↓ldI_hit, ↓ldI_skip, ↓ldL_hit, ↓ldL_skip, ↓ldA_hit, ↓ldA_skip, ↓ldelK_nil, ↓ldelK_hit, ↓ldelK_skipI, ↓ldelK_skipA, ↓ldelK_skipL, qP2_X9_holds, qP2_X9_isRun, qP2_X9_works, ↓bI_b, bI_0, nnot, lget_hit, lget_skip, ldel_nil, ldel_hit, ldel_skipI, ldel_skipA, ldel_skipL, ldel2_nil, ldel2_hit, ldel2_hit2, ldel2_skipI, ldel2_skipA, ldel2_skipL, vc_0, mCat_nil, mCat_I, mCat_L, mCat_A, mRcv_A, mArg_nil, mArg_I, mArg_L, mArg_A, tsg, swt_nil, swt_cons, lkw_nil, lkw_cons, ↓reduceIte, Nat.reduceAdd, Nat.reduceEqDiff, Nat.reduceLeDiff, Nat.reduceMul, true_and, and_true, and_self, List.mem_cons, List.not_mem_nil, or_false, or_self, false_or, true_implies, false_implies, not_true_eq_false, not_false_eq_true, nI00, nI10, nI01, nI11, forall_const, implies_true]); (try simp (disch := omega) only [ixq, ixz, sb_in, sb_in0, upI_sb, upI_sb0, sb_out, nI_add, nI_mul, nI_subq, Nat.zero_add, forall_eq, u2_at, u2_row, upd_at, upd_ne, nI0b, nI1b, nI00, nI10, nI01, nI11, true_implies, false_implies, not_true_eq_false, not_false_eq_true, and_true, true_and, implies_true])
              refine ⟨fun ne => ?_, fun eq => ?_⟩
              · rw [if_neg ne] at hK
                have i2 := ih (w + 1) (c + 1) (by omega) (by omega) hK
                exact vc_back P2_ok ok_X9_said [25,29] 8 t_X9_said_29 (i2) (by simp) (rfl)
              · rw [if_pos eq] at hK
                exact hK
        have i2 := main W 0 0 (by omega) (by omega) hK
        clear main
        simp only [↓w_X9_said_0, ↓w_X9_said_23, ↓w_X9_said_25, ↓w_X9_said_56, ↓w_X9_said_63, ↓w_X9_said_66, ↓w_X9_said_72, ↓w_X9_said_81, ↓w_X9_said_82, ↓v_X9_said_23, ↓v_X9_said_25, ↓v_X9_said_29, ↓v_X9_said_56, ↓v_X9_said_63, ↓v_X9_said_66, ↓v_X9_said_72, ↓v_X9_said_81, ↓v_X9_said_82, ↓b_aload_n, ↓b_callV1_1, ↓b_callV3_1, ↓b_getA, ↓b_goto, ↓b_iaload, ↓b_ic_ge, ↓b_ic_ne, ↓b_iconst, ↓b_if_eq, ↓b_if_ne, ↓n_iinc, ↓b_iload_n, ↓b_iret, ↓n_istore_n, ↓n_putI, ↓b_sipush, ↓ldI_hit, ↓ldI_skip, ↓ldL_hit, ↓ldL_skip, ↓ldA_hit, ↓ldA_skip, ↓ldelK_nil, ↓ldelK_hit, ↓ldelK_skipI, ↓ldelK_skipA, ↓ldelK_skipL, qP2_X9_holds, qP2_X9_isRun, qP2_X9_works, ↓bI_b, bI_0, nnot, lget_hit, lget_skip, ldel_nil, ldel_hit, ldel_skipI, ldel_skipA, ldel_skipL, ldel2_nil, ldel2_hit, ldel2_hit2, ldel2_skipI, ldel2_skipA, ldel2_skipL, vc_0, mCat_nil, mCat_I, mCat_L, mCat_A, mRcv_A, mArg_nil, mArg_I, mArg_L, mArg_A, tsg, swt_nil, swt_cons, lkw_nil, lkw_cons, ↓reduceIte, Nat.reduceAdd, Nat.reduceEqDiff, Nat.reduceLeDiff, Nat.reduceMul, true_and, and_true, and_self, List.mem_cons, List.not_mem_nil, or_false, or_self, false_or, true_implies, false_implies, not_true_eq_false, not_false_eq_true, nI00, nI10, nI01, nI11, forall_const, implies_true]
        simp (disch := omega) only [ixq, ixz, sb_in, sb_in0, upI_sb, upI_sb0, sb_out, nI_add, nI_mul, nI_subq, Nat.zero_add, forall_eq, u2_at, u2_row, upd_at, upd_ne, nI0b, nI1b, nI00, nI10, nI01, nI11, true_implies, false_implies, not_true_eq_false, not_false_eq_true, and_true, true_and, implies_true, s379', e2', z1]
        (refine vc_from P2_ok ok_X9_said [25,29] 8 ?_; rw [t_X9_said_25])
        simp only [↓w_X9_said_0, ↓w_X9_said_23, ↓w_X9_said_25, ↓w_X9_said_56, ↓w_X9_said_63, ↓w_X9_said_66, ↓w_X9_said_72, ↓w_X9_said_81, ↓w_X9_said_82, ↓v_X9_said_23, ↓v_X9_said_25, ↓v_X9_said_29, ↓v_X9_said_56, ↓v_X9_said_63, ↓v_X9_said_66, ↓v_X9_said_72, ↓v_X9_said_81, ↓v_X9_said_82, ↓b_aload_n, ↓b_callV1_1, ↓b_callV3_1, ↓b_getA, ↓b_goto, ↓b_iaload, ↓b_ic_ge, ↓b_ic_ne, ↓b_iconst, ↓b_if_eq, ↓b_if_ne, ↓n_iinc, ↓b_iload_n, ↓b_iret, ↓n_istore_n, ↓n_putI, ↓b_sipush, ↓ldI_hit, ↓ldI_skip, ↓ldL_hit, ↓ldL_skip, ↓ldA_hit, ↓ldA_skip, ↓ldelK_nil, ↓ldelK_hit, ↓ldelK_skipI, ↓ldelK_skipA, ↓ldelK_skipL, qP2_X9_holds, qP2_X9_isRun, qP2_X9_works, ↓bI_b, bI_0, nnot, lget_hit, lget_skip, ldel_nil, ldel_hit, ldel_skipI, ldel_skipA, ldel_skipL, ldel2_nil, ldel2_hit, ldel2_hit2, ldel2_skipI, ldel2_skipA, ldel2_skipL, vc_0, mCat_nil, mCat_I, mCat_L, mCat_A, mRcv_A, mArg_nil, mArg_I, mArg_L, mArg_A, tsg, swt_nil, swt_cons, lkw_nil, lkw_cons, ↓reduceIte, Nat.reduceAdd, Nat.reduceEqDiff, Nat.reduceLeDiff, Nat.reduceMul, true_and, and_true, and_self, List.mem_cons, List.not_mem_nil, or_false, or_self, false_or, true_implies, false_implies, not_true_eq_false, not_false_eq_true, nI00, nI10, nI01, nI11, forall_const, implies_true]
        rintro _ rfl _ rfl
        exact i2
end MSa
