section MRe
variable {X : mC} {h x m : Nat} {μ μ1 : Mem} {K : MV → Mem → Prop}
theorem RIm_j {j : Nat} (h : RIm x m j μ) : ∃ b, b < 2 ∧ μ.1 (x + 87 + 36 * j) 0 = nI b ∧ μ.1 (m + 9) j = nI b ∧ (b = 1 → ST (bk μ (x + 88 + 36 * j)) (bk μ (x + 100 + 36 * j)) (bk μ (x + 107 + 36 * j)) (bk μ (x + 111 + 36 * j)) (fun i => μ.1 (m + 5) (925 * j + i)) (fun i => μ.2 (m + 8) (14 * j + i))) := by
  rcases h with ⟨a, b⟩ | ⟨a, b, c⟩
  · exact ⟨0, by omega, a, b, fun z => by omega⟩
  · exact ⟨1, by omega, a, b, fun _ => c⟩
theorem f_restore {t : Int32} (hx : x + 164 = m) (hr : Rel x m μ) : PAIR X (h + 9) m_X8_restore m_X9_restore x m [.inl t] μ := by
  by_cases ht : ∃ a, a < 2 ∧ t = nI a
  · obtain ⟨j, hj, rfl⟩ := ht
    have y1 : (nI j < 0) = False := eq_false (nI_pos (by omega))
    have y2 : (nI 2 ≤ nI j) = False := by rw [nI_lq (by omega) (by omega)]; exact eq_false (by omega)
    have y3 : (nI 0 ≤ nI j ∧ nI j ≤ nI 1) = True := by rw [nI_lq (by omega) (by omega), nI_lq (by omega) (by omega)]; exact eq_true ⟨by omega, by omega⟩
    obtain ⟨b, b2, c0, c9, cst⟩ := RIm_j (hr.2.2.2.1 j hj)
    have c0' : μ.1 (x + 86 + 1 + 36 * j) 0 = nI b := by rw [show x + 86 + 1 + 36 * j = x + 87 + 36 * j by omega]; exact c0
    have c9' : bk μ m 9 j = nI b := c9
    by_cases hb : b = 0
    · subst hb
      have n00 : (nI 0 = 0) = True := nI00
      refine get (.inl (nI 0)) hx hr (fun K hK => ?_) (fun K hK => ?_)
      · (refine vc_met2 P2_ok ok_X8_restore cm_X8_restore [23] 8 t_X8_restore_0 (Nat.le_of_ble_eq_true rfl) ?_; simp only [mArg_nil, mArg_I, mArg_L, mArg_A, Nat.reduceAdd])
        (try simp only [↓w_X8_restore_0, ↓w_X8_restore_21, ↓v_X8_restore_21, ↓v_X8_restore_23, ↓b_aaload, ↓b_aload_n, ↓n_astore_n, ↓b_callV2_0, ↓b_getA, ↓b_getZ, ↓b_ic_ge, ↓b_iconst, ↓b_if_lt, ↓b_if_ne, ↓b_iload_n, ↓b_zret, ↓ldI_hit, ↓ldI_skip, ↓ldL_hit, ↓ldL_skip, ↓ldA_hit, ↓ldA_skip, ↓ldelK_nil, ↓ldelK_hit, ↓ldelK_skipI, ↓ldelK_skipA, ↓ldelK_skipL, qP2_X0_copyFrom, qP2_X3_copyFrom, qP2_X4_copyFrom, qP2_X5_copyFrom, ↓bI_b, bI_0, nnot, lget_hit, lget_skip, ldel_nil, ldel_hit, ldel_skipI, ldel_skipA, ldel_skipL, ldel2_nil, ldel2_hit, ldel2_hit2, ldel2_skipI, ldel2_skipA, ldel2_skipL, vc_0, mCat_nil, mCat_I, mCat_L, mCat_A, mRcv_A, mArg_nil, mArg_I, mArg_L, mArg_A, tsg, swt_nil, swt_cons, lkw_nil, lkw_cons, ↓reduceIte, Nat.reduceAdd, Nat.reduceEqDiff, Nat.reduceLeDiff, Nat.reduceMul, true_and, and_true, and_self, List.mem_cons, List.not_mem_nil, or_false, or_self, false_or, true_implies, false_implies, not_true_eq_false, not_false_eq_true, nI00, nI10, nI01, nI11, forall_const, implies_true, y1, y2])
        (try simp (disch := omega) only [ixq, ixz, sb_in, sb_in0, upI_sb, upI_sb0, sb_out, nI_add, nI_mul, nI_subq, Nat.zero_add, forall_eq, u2_at, u2_row, upd_at, upd_ne, nI0b, nI1b, nI00, nI10, nI01, nI11, true_implies, false_implies, not_true_eq_false, not_false_eq_true, and_true, true_and, implies_true, c0'])
        exact hK
      · (refine vc_met2 P2_ok ok_X9_restore cm_X9_restore [25,27,58,60] 8 t_X9_restore_0 (Nat.le_of_ble_eq_true rfl) ?_; simp only [mArg_nil, mArg_I, mArg_L, mArg_A, Nat.reduceAdd])
        (try simp only [↓w_X9_restore_0, ↓w_X9_restore_23, ↓w_X9_restore_58, ↓w_X9_restore_60, ↓w_X9_restore_89, ↓v_X9_restore_23, ↓v_X9_restore_25, ↓v_X9_restore_27, ↓v_X9_restore_58, ↓v_X9_restore_60, ↓v_X9_restore_89, ↓b_aload_n, ↓b_baload, ↓b_bipush, ↓b_callS3_1, ↓b_getA, ↓b_goto, ↓b_iadd, ↓b_iaload, ↓n_iastore, ↓b_ic_ge, ↓b_iconst, ↓b_if_eq, ↓b_if_ne, ↓n_iinc, ↓b_iload_n, ↓b_imul, ↓n_istore_n, ↓b_laload, ↓n_lastore, ↓n_putI, ↓b_sipush, ↓b_zret, ↓ldI_hit, ↓ldI_skip, ↓ldL_hit, ↓ldL_skip, ↓ldA_hit, ↓ldA_skip, ↓ldelK_nil, ↓ldelK_hit, ↓ldelK_skipI, ↓ldelK_skipA, ↓ldelK_skipL, qP2_X9_isIn, ↓bI_b, bI_0, nnot, lget_hit, lget_skip, ldel_nil, ldel_hit, ldel_skipI, ldel_skipA, ldel_skipL, ldel2_nil, ldel2_hit, ldel2_hit2, ldel2_skipI, ldel2_skipA, ldel2_skipL, vc_0, mCat_nil, mCat_I, mCat_L, mCat_A, mRcv_A, mArg_nil, mArg_I, mArg_L, mArg_A, tsg, swt_nil, swt_cons, lkw_nil, lkw_cons, ↓reduceIte, Nat.reduceAdd, Nat.reduceEqDiff, Nat.reduceLeDiff, Nat.reduceMul, true_and, and_true, and_self, List.mem_cons, List.not_mem_nil, or_false, or_self, false_or, true_implies, false_implies, not_true_eq_false, not_false_eq_true, nI00, nI10, nI01, nI11, forall_const, implies_true, y3])
        (try simp (disch := omega) only [ixq, ixz, sb_in, sb_in0, upI_sb, upI_sb0, sb_out, nI_add, nI_mul, nI_subq, Nat.zero_add, forall_eq, u2_at, u2_row, upd_at, upd_ne, nI0b, nI1b, nI00, nI10, nI01, nI11, true_implies, false_implies, not_true_eq_false, not_false_eq_true, and_true, true_and, implies_true, c9'])
        exact hK
    · have hb1 : b = 1 := by omega
      subst hb1
      have st0 := cst rfl
      have end9 : ∀ μ3 : Mem, μ3.2 = μ.2 → (∀ i, (i < 4 ∨ 16 ≤ i) ∧ (i < 28 ∨ 35 ≤ i) ∧ (i < 42 ∨ 46 ≤ i) ∧ (i < 50 ∨ 62 ≤ i) → μ3.1 (x + i) = μ.1 (x + i)) → eqB (bk μ (x + 88 + 36 * j)) (bk μ3 (x + 4)) → eqP (bk μ (x + 100 + 36 * j)) (bk μ3 (x + 28)) → eqS (bk μ (x + 107 + 36 * j)) (bk μ3 (x + 42)) → eqR (bk μ (x + 111 + 36 * j)) (bk μ3 (x + 50)) → mMet X (h + 9) m_X9_restore [.inr (.inr (8, 0, m)), .inl (nI j)] μ3 (fun b μ2 => (.inl (nI 1) : MV) = b ∧ Rel x m μ2) := by
        intro μ3 h2 ho hB hP hS hR
        generalize hK2 : (fun (b' : MV) (μ2 : Mem) => (.inl (nI 1) : MV) = b' ∧ Rel x m μ2) = K2
        refine ref_in (m := m) ?_
        have eq : ∀ k, bk μ3 m k = μ.1 (m + k) := fun k => by
          have z := ho (164 + k) (by omega)
          rw [← Nat.add_assoc, hx] at z
          exact z
        have fin : K2 (.inl (nI 1)) (sb (rL μ3 (m + 6) (cpB' 0 14 (fun i => μ3.2 (m + 8) (14 * j + i)) (μ3.2 (m + 6)))) m 21 (va_up (u2 (bk μ3 m) 0 0 (nI 0)) 2 (cpA 0 925 (fun i => bk μ3 m 5 (925 * j + i)) (bk μ3 m 2)))) := by
          rw [← hK2]
          refine ⟨rfl, ?_⟩
          obtain ⟨r1, r2, r3, r4, r5, r6, r7, r8⟩ := hr
          have l6 : (sb (rL μ3 (m + 6) (cpB' 0 14 (fun i => μ3.2 (m + 8) (14 * j + i)) (μ3.2 (m + 6)))) m 21 (va_up (u2 (bk μ3 m) 0 0 (nI 0)) 2 (cpA 0 925 (fun i => bk μ3 m 5 (925 * j + i)) (bk μ3 m 2)))).2 (m + 6) = cpB' 0 14 (fun i => μ3.2 (m + 8) (14 * j + i)) (μ3.2 (m + 6)) := rL_at
          have lo : ∀ i, i ≠ m + 6 → (sb (rL μ3 (m + 6) (cpB' 0 14 (fun i => μ3.2 (m + 8) (14 * j + i)) (μ3.2 (m + 6)))) m 21 (va_up (u2 (bk μ3 m) 0 0 (nI 0)) 2 (cpA 0 925 (fun i => bk μ3 m 5 (925 * j + i)) (bk μ3 m 2)))).2 i = μ.2 i := fun i hi => by
            have z : (sb (rL μ3 (m + 6) (cpB' 0 14 (fun i => μ3.2 (m + 8) (14 * j + i)) (μ3.2 (m + 6)))) m 21 (va_up (u2 (bk μ3 m) 0 0 (nI 0)) 2 (cpA 0 925 (fun i => bk μ3 m 5 (925 * j + i)) (bk μ3 m 2)))).2 i = μ3.2 i := rL_o hi
            rw [z, h2]
          have e : ∀ k, k < 21 → (sb (rL μ3 (m + 6) (cpB' 0 14 (fun i => μ3.2 (m + 8) (14 * j + i)) (μ3.2 (m + 6)))) m 21 (va_up (u2 (bk μ3 m) 0 0 (nI 0)) 2 (cpA 0 925 (fun i => bk μ3 m 5 (925 * j + i)) (bk μ3 m 2)))).1 (m + k) = (va_up (u2 (bk μ3 m) 0 0 (nI 0)) 2 (cpA 0 925 (fun i => bk μ3 m 5 (925 * j + i)) (bk μ3 m 2))) k := fun k hk => sb_in hk
          have o : ∀ i, i < 164 → (sb (rL μ3 (m + 6) (cpB' 0 14 (fun i => μ3.2 (m + 8) (14 * j + i)) (μ3.2 (m + 6)))) m 21 (va_up (u2 (bk μ3 m) 0 0 (nI 0)) 2 (cpA 0 925 (fun i => bk μ3 m 5 (925 * j + i)) (bk μ3 m 2)))).1 (x + i) = μ3.1 (x + i) := fun i hi => by rw [sb_out (by omega)]; rfl
          generalize sb (rL μ3 (m + 6) (cpB' 0 14 (fun i => μ3.2 (m + 8) (14 * j + i)) (μ3.2 (m + 6)))) m 21 (va_up (u2 (bk μ3 m) 0 0 (nI 0)) 2 (cpA 0 925 (fun i => bk μ3 m 5 (925 * j + i)) (bk μ3 m 2))) = μ4 at l6 lo e o ⊢
          have ek : ∀ k, k < 21 → k ≠ 0 → k ≠ 2 → μ4.1 (m + k) = μ.1 (m + k) := fun k a b c => by
            rw [e k a, up_row c, u2_row b]; exact eq k
          have e0 : ∀ i, i ≠ 0 → μ4.1 m i = μ.1 m i := fun i hi => by
            have e00 : μ4.1 m = va_up (u2 (bk μ3 m) 0 0 (nI 0)) 2 (cpA 0 925 (fun i => bk μ3 m 5 (925 * j + i)) (bk μ3 m 2)) 0 := e 0 (by omega)
            rw [e00, up_row (by decide), u2_at, upd_ne hi]
            exact congrFun (eq 0) i
          have oo : ∀ i, (i < 4 ∨ 16 ≤ i) ∧ (i < 28 ∨ 35 ≤ i) ∧ (i < 42 ∨ 46 ≤ i) ∧ (i < 50 ∨ 62 ≤ i) → i < 164 → μ4.1 (x + i) = μ.1 (x + i) := fun i a b => by rw [o i b]; exact ho i a
          have ox : μ4.1 x = μ.1 x := oo 0 (by omega) (by omega)
          have ob : ∀ a n, a + n ≤ 164 → ∀ k, k < n → bk μ4 (x + a) k = bk μ3 (x + a) k := fun a n h2 k hk => by
            show μ4.1 (x + a + k) = μ3.1 (x + a + k)
            rw [Nat.add_assoc]
            exact o _ (by omega)
          have q2 : ∀ i, i < 925 → μ4.1 (m + 2) i = μ.1 (m + 5) (925 * j + i) := fun i hi => by
            have z := cpA_in (a := 0) (f := fun i => bk μ3 m 5 (925 * j + i)) (g := bk μ3 m 2) hi
            rw [Nat.zero_add] at z
            rw [e 2 (by omega), up_at, z, eq 5]
          have n6 : ∀ i, i < 14 → μ4.2 (m + 6) i = μ.2 (m + 8) (14 * j + i) := fun i hi => by
            have z := cpB_in (a := 0) (f := fun i => μ3.2 (m + 8) (14 * j + i)) (g := μ3.2 (m + 6)) hi
            rw [Nat.zero_add] at z
            rw [l6, z, h2]
          refine ⟨RTp_k r1 (by rw [oo 1 (by omega) (by omega)]) (e0 2 (by decide)) (ek 1 (by omega) (by omega) (by omega)) (oo 2 (by omega) (by omega)), RKw_k r2 (oo 3 (by omega) (by omega)), ST_eq st0 (eqB_t hB (eqB_k (ob 4 12 (by omega)))) (eqP_t hP (eqP_k (ob 28 7 (by omega)))) (eqS_t hS (eqS_k (ob 42 4 (by omega)))) (eqR_t hR (eqR_k (ob 50 12 (by omega)))) q2 n6, fun k hk => RIm_k hk (r4 k hk) (fun i a b => oo i (by omega) (by omega)) (ek 5 (by omega) (by omega) (by omega)) (lo _ (by omega)) (ek 9 (by omega) (by omega) (by omega)), RTx_k r5 (by rw [oo 159 (by omega) (by omega)]) (e0 38 (by decide)) (oo 160 (by omega) (by omega)) (ek 18 (by omega) (by omega) (by omega)), RWo_k r6 (by rw [ox]) (e0 33 (by decide)) (lo _ (by omega)) (lo _ (by omega)) (lo _ (by omega)) (by rw [lo _ (by omega)]), ?_, ?_⟩
          · rw [ox, e0 35 (by decide)]; exact r7
          · rw [ox, e0 10 (by decide)]; exact r8
        have c9'' : bk μ3 m 9 j = nI 1 := by rw [eq 9]; exact c9
        (refine vc_met2 P2_ok ok_X9_restore cm_X9_restore [25,27,58,60] 8 t_X9_restore_0 (Nat.le_of_ble_eq_true rfl) ?_; simp only [mArg_nil, mArg_I, mArg_L, mArg_A, Nat.reduceAdd])
        have l2 : ∀ n i, i + n = 14 → bb X P2 m_X9_restore (h + 8) K2 (vc X P2 m_X9_restore (h + 8) K2 k_X9_restore [25, 27, 58, 60] 8) s_X9_restore_60 [(2, .inl (nI i)), (0, .inr (.inr (8, 0, m))), (1, .inl (nI j))] [] (sb (rL μ3 (m + 6) (cpB' 0 i (fun i => μ3.2 (m + 8) (14 * j + i)) (μ3.2 (m + 6)))) m 21 (va_up (u2 (bk μ3 m) 0 0 (nI 0)) 2 (cpA 0 925 (fun i => bk μ3 m 5 (925 * j + i)) (bk μ3 m 2)))) := by
          intro n
          generalize va_up (u2 (bk μ3 m) 0 0 (nI 0)) 2 (cpA 0 925 (fun i => bk μ3 m 5 (925 * j + i)) (bk μ3 m 2)) = Q5 at fin ⊢
          induction n with
          | zero =>
            intro i hi
            have ei : i = 14 := by omega
            subst ei
            (try simp only [↓w_X9_restore_0, ↓w_X9_restore_23, ↓w_X9_restore_25, ↓w_X9_restore_27, ↓w_X9_restore_58, ↓w_X9_restore_60, ↓w_X9_restore_89, ↓v_X9_restore_23, ↓v_X9_restore_25, ↓v_X9_restore_27, ↓v_X9_restore_58, ↓v_X9_restore_60, ↓v_X9_restore_89, ↓b_aload_n, ↓b_baload, ↓b_bipush, ↓b_callS3_1, ↓b_getA, ↓b_goto, ↓b_iadd, ↓b_iaload, ↓n_iastore, ↓b_ic_ge, ↓b_iconst, ↓b_if_eq, ↓b_if_ne, ↓n_iinc, ↓b_iload_n, ↓b_imul, ↓n_istore_n, ↓b_laload, ↓n_lastore, ↓n_putI, ↓b_sipush, ↓b_zret, ↓ldI_hit, ↓ldI_skip, ↓ldL_hit, ↓ldL_skip, ↓ldA_hit, ↓ldA_skip, ↓ldelK_nil, ↓ldelK_hit, ↓ldelK_skipI, ↓ldelK_skipA, ↓ldelK_skipL, qP2_X9_isIn, ↓bI_b, bI_0, nnot, lget_hit, lget_skip, ldel_nil, ldel_hit, ldel_skipI, ldel_skipA, ldel_skipL, ldel2_nil, ldel2_hit, ldel2_hit2, ldel2_skipI, ldel2_skipA, ldel2_skipL, vc_0, mCat_nil, mCat_I, mCat_L, mCat_A, mRcv_A, mArg_nil, mArg_I, mArg_L, mArg_A, tsg, swt_nil, swt_cons, lkw_nil, lkw_cons, ↓reduceIte, Nat.reduceAdd, Nat.reduceEqDiff, Nat.reduceLeDiff, Nat.reduceMul, true_and, and_true, and_self, List.mem_cons, List.not_mem_nil, or_false, or_self, false_or, true_implies, false_implies, not_true_eq_false, not_false_eq_true, nI00, nI10, nI01, nI11, forall_const, implies_true])
            (try simp (disch := omega) only [ixq, ixz, sb_in, sb_in0, upI_sb, upI_sb0, sb_out, nI_add, nI_mul, nI_subq, Nat.zero_add, forall_eq, u2_at, u2_row, upd_at, upd_ne, nI0b, nI1b, nI00, nI10, nI01, nI11, true_implies, false_implies, not_true_eq_false, not_false_eq_true, and_true, true_and, implies_true, nI_lq])
            exact ⟨fun _ => fin, fun z => absurd (Nat.le_refl 14) z⟩
          | succ n ih =>
            intro i hi
            have i2 := ih (i + 1) (by omega)
            rw [← cpB_s, Nat.zero_add] at i2
            have lk : ∀ F : Nat → Int64, (rL μ3 (m + 6) F).2 (m + 8) = μ3.2 (m + 8) := fun F => rL_o (by omega)
            (try simp only [↓w_X9_restore_0, ↓w_X9_restore_23, ↓w_X9_restore_25, ↓w_X9_restore_27, ↓w_X9_restore_58, ↓w_X9_restore_60, ↓w_X9_restore_89, ↓v_X9_restore_23, ↓v_X9_restore_25, ↓v_X9_restore_27, ↓v_X9_restore_58, ↓v_X9_restore_60, ↓v_X9_restore_89, ↓b_aload_n, ↓b_baload, ↓b_bipush, ↓b_callS3_1, ↓b_getA, ↓b_goto, ↓b_iadd, ↓b_iaload, ↓n_iastore, ↓b_ic_ge, ↓b_iconst, ↓b_if_eq, ↓b_if_ne, ↓n_iinc, ↓b_iload_n, ↓b_imul, ↓n_istore_n, ↓b_laload, ↓n_lastore, ↓n_putI, ↓b_sipush, ↓b_zret, ↓ldI_hit, ↓ldI_skip, ↓ldL_hit, ↓ldL_skip, ↓ldA_hit, ↓ldA_skip, ↓ldelK_nil, ↓ldelK_hit, ↓ldelK_skipI, ↓ldelK_skipA, ↓ldelK_skipL, qP2_X9_isIn, ↓bI_b, bI_0, nnot, lget_hit, lget_skip, ldel_nil, ldel_hit, ldel_skipI, ldel_skipA, ldel_skipL, ldel2_nil, ldel2_hit, ldel2_hit2, ldel2_skipI, ldel2_skipA, ldel2_skipL, vc_0, mCat_nil, mCat_I, mCat_L, mCat_A, mRcv_A, mArg_nil, mArg_I, mArg_L, mArg_A, tsg, swt_nil, swt_cons, lkw_nil, lkw_cons, ↓reduceIte, Nat.reduceAdd, Nat.reduceEqDiff, Nat.reduceLeDiff, Nat.reduceMul, true_and, and_true, and_self, List.mem_cons, List.not_mem_nil, or_false, or_self, false_or, true_implies, false_implies, not_true_eq_false, not_false_eq_true, nI00, nI10, nI01, nI11, forall_const, implies_true])
            (try simp (disch := omega) only [ixq, ixz, sb_in, sb_in0, upI_sb, upI_sb0, sb_out, nI_add, nI_mul, nI_subq, Nat.zero_add, forall_eq, u2_at, u2_row, upd_at, upd_ne, nI0b, nI1b, nI00, nI10, nI01, nI11, true_implies, false_implies, not_true_eq_false, not_false_eq_true, and_true, true_and, implies_true, nI_lq, sb_2, lk, upL_r2])
            refine ⟨fun z => by omega, fun _ => ?_⟩
            exact vc_back P2_ok ok_X9_restore [25,27,58,60] 8 t_X9_restore_60 (i2) (by simp) (rfl)
        have l1 : ∀ n i, i + n = 925 → bb X P2 m_X9_restore (h + 8) K2 (vc X P2 m_X9_restore (h + 8) K2 k_X9_restore [25, 27, 58, 60] 8) s_X9_restore_27 [(2, .inl (nI i)), (0, .inr (.inr (8, 0, m))), (1, .inl (nI j))] [] (sb μ3 m 21 (va_up (u2 (bk μ3 m) 0 0 (nI 0)) 2 (cpA 0 i (fun i => bk μ3 m 5 (925 * j + i)) (bk μ3 m 2)))) := by
          intro n
          induction n with
          | zero =>
            intro i hi
            have ei : i = 925 := by omega
            subst ei
            have i2 := l2 14 0 (by omega)
            rw [cpB_0, rL_self] at i2
            clear l2
            (try simp only [↓w_X9_restore_0, ↓w_X9_restore_23, ↓w_X9_restore_25, ↓w_X9_restore_27, ↓w_X9_restore_89, ↓v_X9_restore_23, ↓v_X9_restore_25, ↓v_X9_restore_27, ↓v_X9_restore_58, ↓v_X9_restore_60, ↓v_X9_restore_89, ↓b_aload_n, ↓b_baload, ↓b_bipush, ↓b_callS3_1, ↓b_getA, ↓b_goto, ↓b_iadd, ↓b_iaload, ↓n_iastore, ↓b_ic_ge, ↓b_iconst, ↓b_if_eq, ↓b_if_ne, ↓n_iinc, ↓b_iload_n, ↓b_imul, ↓n_istore_n, ↓b_laload, ↓n_lastore, ↓n_putI, ↓b_sipush, ↓b_zret, ↓ldI_hit, ↓ldI_skip, ↓ldL_hit, ↓ldL_skip, ↓ldA_hit, ↓ldA_skip, ↓ldelK_nil, ↓ldelK_hit, ↓ldelK_skipI, ↓ldelK_skipA, ↓ldelK_skipL, qP2_X9_isIn, ↓bI_b, bI_0, nnot, lget_hit, lget_skip, ldel_nil, ldel_hit, ldel_skipI, ldel_skipA, ldel_skipL, ldel2_nil, ldel2_hit, ldel2_hit2, ldel2_skipI, ldel2_skipA, ldel2_skipL, vc_0, mCat_nil, mCat_I, mCat_L, mCat_A, mRcv_A, mArg_nil, mArg_I, mArg_L, mArg_A, tsg, swt_nil, swt_cons, lkw_nil, lkw_cons, ↓reduceIte, Nat.reduceAdd, Nat.reduceEqDiff, Nat.reduceLeDiff, Nat.reduceMul, true_and, and_true, and_self, List.mem_cons, List.not_mem_nil, or_false, or_self, false_or, true_implies, false_implies, not_true_eq_false, not_false_eq_true, nI00, nI10, nI01, nI11, forall_const, implies_true])
            (try simp (disch := omega) only [ixq, ixz, sb_in, sb_in0, upI_sb, upI_sb0, sb_out, nI_add, nI_mul, nI_subq, Nat.zero_add, forall_eq, u2_at, u2_row, upd_at, upd_ne, nI0b, nI1b, nI00, nI10, nI01, nI11, true_implies, false_implies, not_true_eq_false, not_false_eq_true, and_true, true_and, implies_true, nI_lq])
            refine ⟨fun _ => ?_, fun z => absurd (Nat.le_refl 925) z⟩
            (refine vc_from P2_ok ok_X9_restore [25,27,58,60] 8 ?_; rw [t_X9_restore_58])
            (try simp only [↓w_X9_restore_0, ↓w_X9_restore_23, ↓w_X9_restore_25, ↓w_X9_restore_27, ↓w_X9_restore_58, ↓w_X9_restore_89, ↓v_X9_restore_23, ↓v_X9_restore_25, ↓v_X9_restore_27, ↓v_X9_restore_58, ↓v_X9_restore_60, ↓v_X9_restore_89, ↓b_aload_n, ↓b_baload, ↓b_bipush, ↓b_callS3_1, ↓b_getA, ↓b_goto, ↓b_iadd, ↓b_iaload, ↓n_iastore, ↓b_ic_ge, ↓b_iconst, ↓b_if_eq, ↓b_if_ne, ↓n_iinc, ↓b_iload_n, ↓b_imul, ↓n_istore_n, ↓b_laload, ↓n_lastore, ↓n_putI, ↓b_sipush, ↓b_zret, ↓ldI_hit, ↓ldI_skip, ↓ldL_hit, ↓ldL_skip, ↓ldA_hit, ↓ldA_skip, ↓ldelK_nil, ↓ldelK_hit, ↓ldelK_skipI, ↓ldelK_skipA, ↓ldelK_skipL, qP2_X9_isIn, ↓bI_b, bI_0, nnot, lget_hit, lget_skip, ldel_nil, ldel_hit, ldel_skipI, ldel_skipA, ldel_skipL, ldel2_nil, ldel2_hit, ldel2_hit2, ldel2_skipI, ldel2_skipA, ldel2_skipL, vc_0, mCat_nil, mCat_I, mCat_L, mCat_A, mRcv_A, mArg_nil, mArg_I, mArg_L, mArg_A, tsg, swt_nil, swt_cons, lkw_nil, lkw_cons, ↓reduceIte, Nat.reduceAdd, Nat.reduceEqDiff, Nat.reduceLeDiff, Nat.reduceMul, true_and, and_true, and_self, List.mem_cons, List.not_mem_nil, or_false, or_self, false_or, true_implies, false_implies, not_true_eq_false, not_false_eq_true, nI00, nI10, nI01, nI11, forall_const, implies_true])
            (try simp (disch := omega) only [ixq, ixz, sb_in, sb_in0, upI_sb, upI_sb0, sb_out, nI_add, nI_mul, nI_subq, Nat.zero_add, forall_eq, u2_at, u2_row, upd_at, upd_ne, nI0b, nI1b, nI00, nI10, nI01, nI11, true_implies, false_implies, not_true_eq_false, not_false_eq_true, and_true, true_and, implies_true])
            exact i2
          | succ n ih =>
            intro i hi
            have i2 := ih (i + 1) (by omega)
            rw [← cpA_s, Nat.zero_add] at i2
            clear l2
            (try simp only [↓w_X9_restore_0, ↓w_X9_restore_23, ↓w_X9_restore_25, ↓w_X9_restore_27, ↓w_X9_restore_60, ↓w_X9_restore_89, ↓v_X9_restore_23, ↓v_X9_restore_25, ↓v_X9_restore_27, ↓v_X9_restore_58, ↓v_X9_restore_60, ↓v_X9_restore_89, ↓b_aload_n, ↓b_baload, ↓b_bipush, ↓b_callS3_1, ↓b_getA, ↓b_goto, ↓b_iadd, ↓b_iaload, ↓n_iastore, ↓b_ic_ge, ↓b_iconst, ↓b_if_eq, ↓b_if_ne, ↓n_iinc, ↓b_iload_n, ↓b_imul, ↓n_istore_n, ↓b_laload, ↓n_lastore, ↓n_putI, ↓b_sipush, ↓b_zret, ↓ldI_hit, ↓ldI_skip, ↓ldL_hit, ↓ldL_skip, ↓ldA_hit, ↓ldA_skip, ↓ldelK_nil, ↓ldelK_hit, ↓ldelK_skipI, ↓ldelK_skipA, ↓ldelK_skipL, qP2_X9_isIn, ↓bI_b, bI_0, nnot, lget_hit, lget_skip, ldel_nil, ldel_hit, ldel_skipI, ldel_skipA, ldel_skipL, ldel2_nil, ldel2_hit, ldel2_hit2, ldel2_skipI, ldel2_skipA, ldel2_skipL, vc_0, mCat_nil, mCat_I, mCat_L, mCat_A, mRcv_A, mArg_nil, mArg_I, mArg_L, mArg_A, tsg, swt_nil, swt_cons, lkw_nil, lkw_cons, ↓reduceIte, Nat.reduceAdd, Nat.reduceEqDiff, Nat.reduceLeDiff, Nat.reduceMul, true_and, and_true, and_self, List.mem_cons, List.not_mem_nil, or_false, or_self, false_or, true_implies, false_implies, not_true_eq_false, not_false_eq_true, nI00, nI10, nI01, nI11, forall_const, implies_true])
            (try simp (disch := omega) only [ixq, ixz, sb_in, sb_in0, upI_sb, upI_sb0, sb_out, nI_add, nI_mul, nI_subq, Nat.zero_add, forall_eq, u2_at, u2_row, upd_at, upd_ne, nI0b, nI1b, nI00, nI10, nI01, nI11, true_implies, false_implies, not_true_eq_false, not_false_eq_true, and_true, true_and, implies_true, nI_lq, u2_vup, up_row])
            refine ⟨fun z => by omega, fun _ => ?_⟩
            exact vc_back P2_ok ok_X9_restore [25,27,58,60] 8 t_X9_restore_27 (i2) (by simp) (rfl)
        have i2 := l1 925 0 (by omega)
        have e5 : va_up (u2 (bk μ3 m) 0 0 (nI 0)) 2 (bk μ3 m 2) = u2 (bk μ3 m) 0 0 (nI 0) := by
          have z : bk μ3 m 2 = u2 (bk μ3 m) 0 0 (nI 0) 2 := (u2_row (by decide)).symm
          rw [z]
          exact vup_id
        rw [cpA_0, e5] at i2
        clear l1 l2
        (try simp only [↓w_X9_restore_0, ↓w_X9_restore_23, ↓w_X9_restore_58, ↓w_X9_restore_60, ↓w_X9_restore_89, ↓v_X9_restore_23, ↓v_X9_restore_25, ↓v_X9_restore_27, ↓v_X9_restore_58, ↓v_X9_restore_60, ↓v_X9_restore_89, ↓b_aload_n, ↓b_baload, ↓b_bipush, ↓b_callS3_1, ↓b_getA, ↓b_goto, ↓b_iadd, ↓b_iaload, ↓n_iastore, ↓b_ic_ge, ↓b_iconst, ↓b_if_eq, ↓b_if_ne, ↓n_iinc, ↓b_iload_n, ↓b_imul, ↓n_istore_n, ↓b_laload, ↓n_lastore, ↓n_putI, ↓b_sipush, ↓b_zret, ↓ldI_hit, ↓ldI_skip, ↓ldL_hit, ↓ldL_skip, ↓ldA_hit, ↓ldA_skip, ↓ldelK_nil, ↓ldelK_hit, ↓ldelK_skipI, ↓ldelK_skipA, ↓ldelK_skipL, qP2_X9_isIn, ↓bI_b, bI_0, nnot, lget_hit, lget_skip, ldel_nil, ldel_hit, ldel_skipI, ldel_skipA, ldel_skipL, ldel2_nil, ldel2_hit, ldel2_hit2, ldel2_skipI, ldel2_skipA, ldel2_skipL, vc_0, mCat_nil, mCat_I, mCat_L, mCat_A, mRcv_A, mArg_nil, mArg_I, mArg_L, mArg_A, tsg, swt_nil, swt_cons, lkw_nil, lkw_cons, ↓reduceIte, Nat.reduceAdd, Nat.reduceEqDiff, Nat.reduceLeDiff, Nat.reduceMul, true_and, and_true, and_self, List.mem_cons, List.not_mem_nil, or_false, or_self, false_or, true_implies, false_implies, not_true_eq_false, not_false_eq_true, nI00, nI10, nI01, nI11, forall_const, implies_true, y3])
        (try simp (disch := omega) only [ixq, ixz, sb_in, sb_in0, upI_sb, upI_sb0, sb_out, nI_add, nI_mul, nI_subq, Nat.zero_add, forall_eq, u2_at, u2_row, upd_at, upd_ne, nI0b, nI1b, nI00, nI10, nI01, nI11, true_implies, false_implies, not_true_eq_false, not_false_eq_true, and_true, true_and, implies_true, c9''])
        (refine vc_from P2_ok ok_X9_restore [25,27,58,60] 8 ?_; rw [t_X9_restore_25])
        (try simp only [↓w_X9_restore_0, ↓w_X9_restore_23, ↓w_X9_restore_25, ↓w_X9_restore_58, ↓w_X9_restore_60, ↓w_X9_restore_89, ↓v_X9_restore_23, ↓v_X9_restore_25, ↓v_X9_restore_27, ↓v_X9_restore_58, ↓v_X9_restore_60, ↓v_X9_restore_89, ↓b_aload_n, ↓b_baload, ↓b_bipush, ↓b_callS3_1, ↓b_getA, ↓b_goto, ↓b_iadd, ↓b_iaload, ↓n_iastore, ↓b_ic_ge, ↓b_iconst, ↓b_if_eq, ↓b_if_ne, ↓n_iinc, ↓b_iload_n, ↓b_imul, ↓n_istore_n, ↓b_laload, ↓n_lastore, ↓n_putI, ↓b_sipush, ↓b_zret, ↓ldI_hit, ↓ldI_skip, ↓ldL_hit, ↓ldL_skip, ↓ldA_hit, ↓ldA_skip, ↓ldelK_nil, ↓ldelK_hit, ↓ldelK_skipI, ↓ldelK_skipA, ↓ldelK_skipL, qP2_X9_isIn, ↓bI_b, bI_0, nnot, lget_hit, lget_skip, ldel_nil, ldel_hit, ldel_skipI, ldel_skipA, ldel_skipL, ldel2_nil, ldel2_hit, ldel2_hit2, ldel2_skipI, ldel2_skipA, ldel2_skipL, vc_0, mCat_nil, mCat_I, mCat_L, mCat_A, mRcv_A, mArg_nil, mArg_I, mArg_L, mArg_A, tsg, swt_nil, swt_cons, lkw_nil, lkw_cons, ↓reduceIte, Nat.reduceAdd, Nat.reduceEqDiff, Nat.reduceLeDiff, Nat.reduceMul, true_and, and_true, and_self, List.mem_cons, List.not_mem_nil, or_false, or_self, false_or, true_implies, false_implies, not_true_eq_false, not_false_eq_true, nI00, nI10, nI01, nI11, forall_const, implies_true])
        (try simp (disch := omega) only [ixq, ixz, sb_in, sb_in0, upI_sb, upI_sb0, sb_out, nI_add, nI_mul, nI_subq, Nat.zero_add, forall_eq, u2_at, u2_row, upd_at, upd_ne, nI0b, nI1b, nI00, nI10, nI01, nI11, true_implies, false_implies, not_true_eq_false, not_false_eq_true, and_true, true_and, implies_true])
        exact i2
      obtain ⟨G, W, rb, _⟩ := id st0
      have bj : bk μ (x + 86 + 1 + 36 * j + 1) 0 3 = 0 ∨ bk μ (x + 86 + 1 + 36 * j + 1) 0 3 = 1 := by
        rw [show x + 86 + 1 + 36 * j + 1 = x + 88 + 36 * j by omega]; exact rb.bj
      (refine vc_met2 P2_ok ok_X8_restore cm_X8_restore [23] 8 t_X8_restore_0 (Nat.le_of_ble_eq_true rfl) ?_; simp only [mArg_nil, mArg_I, mArg_L, mArg_A, Nat.reduceAdd])
      (try simp only [↓w_X8_restore_0, ↓w_X8_restore_21, ↓v_X8_restore_21, ↓v_X8_restore_23, ↓b_aaload, ↓b_aload_n, ↓n_astore_n, ↓b_callV2_0, ↓b_getA, ↓b_getZ, ↓b_ic_ge, ↓b_iconst, ↓b_if_lt, ↓b_if_ne, ↓b_iload_n, ↓b_zret, ↓ldI_hit, ↓ldI_skip, ↓ldL_hit, ↓ldL_skip, ↓ldA_hit, ↓ldA_skip, ↓ldelK_nil, ↓ldelK_hit, ↓ldelK_skipI, ↓ldelK_skipA, ↓ldelK_skipL, qP2_X0_copyFrom, qP2_X3_copyFrom, qP2_X4_copyFrom, qP2_X5_copyFrom, ↓bI_b, bI_0, nnot, lget_hit, lget_skip, ldel_nil, ldel_hit, ldel_skipI, ldel_skipA, ldel_skipL, ldel2_nil, ldel2_hit, ldel2_hit2, ldel2_skipI, ldel2_skipA, ldel2_skipL, vc_0, mCat_nil, mCat_I, mCat_L, mCat_A, mRcv_A, mArg_nil, mArg_I, mArg_L, mArg_A, tsg, swt_nil, swt_cons, lkw_nil, lkw_cons, ↓reduceIte, Nat.reduceAdd, Nat.reduceEqDiff, Nat.reduceLeDiff, Nat.reduceMul, true_and, and_true, and_self, List.mem_cons, List.not_mem_nil, or_false, or_self, false_or, true_implies, false_implies, not_true_eq_false, not_false_eq_true, nI00, nI10, nI01, nI11, forall_const, implies_true, y1, y2])
      (try simp (disch := omega) only [ixq, ixz, sb_in, sb_in0, upI_sb, upI_sb0, sb_out, nI_add, nI_mul, nI_subq, Nat.zero_add, forall_eq, u2_at, u2_row, upd_at, upd_ne, nI0b, nI1b, nI00, nI10, nI01, nI11, true_implies, false_implies, not_true_eq_false, not_false_eq_true, and_true, true_and, implies_true, c0'])
      (refine vc_from P2_ok ok_X8_restore [23] 8 ?_; rw [t_X8_restore_23])
      (try simp only [↓w_X8_restore_0, ↓w_X8_restore_21, ↓w_X8_restore_23, ↓v_X8_restore_21, ↓v_X8_restore_23, ↓b_aaload, ↓b_aload_n, ↓n_astore_n, ↓b_callV2_0, ↓b_getA, ↓b_getZ, ↓b_ic_ge, ↓b_iconst, ↓b_if_lt, ↓b_if_ne, ↓b_iload_n, ↓b_zret, ↓ldI_hit, ↓ldI_skip, ↓ldL_hit, ↓ldL_skip, ↓ldA_hit, ↓ldA_skip, ↓ldelK_nil, ↓ldelK_hit, ↓ldelK_skipI, ↓ldelK_skipA, ↓ldelK_skipL, qP2_X0_copyFrom, qP2_X3_copyFrom, qP2_X4_copyFrom, qP2_X5_copyFrom, ↓bI_b, bI_0, nnot, lget_hit, lget_skip, ldel_nil, ldel_hit, ldel_skipI, ldel_skipA, ldel_skipL, ldel2_nil, ldel2_hit, ldel2_hit2, ldel2_skipI, ldel2_skipA, ldel2_skipL, vc_0, mCat_nil, mCat_I, mCat_L, mCat_A, mRcv_A, mArg_nil, mArg_I, mArg_L, mArg_A, tsg, swt_nil, swt_cons, lkw_nil, lkw_cons, ↓reduceIte, Nat.reduceAdd, Nat.reduceEqDiff, Nat.reduceLeDiff, Nat.reduceMul, true_and, and_true, and_self, List.mem_cons, List.not_mem_nil, or_false, or_self, false_or, true_implies, false_implies, not_true_eq_false, not_false_eq_true, nI00, nI10, nI01, nI11, forall_const, implies_true])
      (try simp (disch := omega) only [ixq, ixz, sb_in, sb_in0, upI_sb, upI_sb0, sb_out, nI_add, nI_mul, nI_subq, Nat.zero_add, forall_eq, u2_at, u2_row, upd_at, upd_ne, nI0b, nI1b, nI00, nI10, nI01, nI11, true_implies, false_implies, not_true_eq_false, not_false_eq_true, and_true, true_and, implies_true])
      refine d_cpB (by omega) bj (fun μa a2 ao aB => ?_)
      (try simp only [↓w_X8_restore_0, ↓w_X8_restore_21, ↓w_X8_restore_23, ↓v_X8_restore_21, ↓v_X8_restore_23, ↓b_aaload, ↓b_aload_n, ↓n_astore_n, ↓b_callV2_0, ↓b_getA, ↓b_getZ, ↓b_ic_ge, ↓b_iconst, ↓b_if_lt, ↓b_if_ne, ↓b_iload_n, ↓b_zret, ↓ldI_hit, ↓ldI_skip, ↓ldL_hit, ↓ldL_skip, ↓ldA_hit, ↓ldA_skip, ↓ldelK_nil, ↓ldelK_hit, ↓ldelK_skipI, ↓ldelK_skipA, ↓ldelK_skipL, qP2_X0_copyFrom, qP2_X3_copyFrom, qP2_X4_copyFrom, qP2_X5_copyFrom, ↓bI_b, bI_0, nnot, lget_hit, lget_skip, ldel_nil, ldel_hit, ldel_skipI, ldel_skipA, ldel_skipL, ldel2_nil, ldel2_hit, ldel2_hit2, ldel2_skipI, ldel2_skipA, ldel2_skipL, vc_0, mCat_nil, mCat_I, mCat_L, mCat_A, mRcv_A, mArg_nil, mArg_I, mArg_L, mArg_A, tsg, swt_nil, swt_cons, lkw_nil, lkw_cons, ↓reduceIte, Nat.reduceAdd, Nat.reduceEqDiff, Nat.reduceLeDiff, Nat.reduceMul, true_and, and_true, and_self, List.mem_cons, List.not_mem_nil, or_false, or_self, false_or, true_implies, false_implies, not_true_eq_false, not_false_eq_true, nI00, nI10, nI01, nI11, forall_const, implies_true])
      refine d_cpP (by omega) (fun μb b2 bo bP => ?_)
      (try simp only [↓w_X8_restore_0, ↓w_X8_restore_21, ↓w_X8_restore_23, ↓v_X8_restore_21, ↓v_X8_restore_23, ↓b_aaload, ↓b_aload_n, ↓n_astore_n, ↓b_callV2_0, ↓b_getA, ↓b_getZ, ↓b_ic_ge, ↓b_iconst, ↓b_if_lt, ↓b_if_ne, ↓b_iload_n, ↓b_zret, ↓ldI_hit, ↓ldI_skip, ↓ldL_hit, ↓ldL_skip, ↓ldA_hit, ↓ldA_skip, ↓ldelK_nil, ↓ldelK_hit, ↓ldelK_skipI, ↓ldelK_skipA, ↓ldelK_skipL, qP2_X0_copyFrom, qP2_X3_copyFrom, qP2_X4_copyFrom, qP2_X5_copyFrom, ↓bI_b, bI_0, nnot, lget_hit, lget_skip, ldel_nil, ldel_hit, ldel_skipI, ldel_skipA, ldel_skipL, ldel2_nil, ldel2_hit, ldel2_hit2, ldel2_skipI, ldel2_skipA, ldel2_skipL, vc_0, mCat_nil, mCat_I, mCat_L, mCat_A, mRcv_A, mArg_nil, mArg_I, mArg_L, mArg_A, tsg, swt_nil, swt_cons, lkw_nil, lkw_cons, ↓reduceIte, Nat.reduceAdd, Nat.reduceEqDiff, Nat.reduceLeDiff, Nat.reduceMul, true_and, and_true, and_self, List.mem_cons, List.not_mem_nil, or_false, or_self, false_or, true_implies, false_implies, not_true_eq_false, not_false_eq_true, nI00, nI10, nI01, nI11, forall_const, implies_true])
      refine d_cpS (by omega) (fun μc c2 co cS => ?_)
      (try simp only [↓w_X8_restore_0, ↓w_X8_restore_21, ↓w_X8_restore_23, ↓v_X8_restore_21, ↓v_X8_restore_23, ↓b_aaload, ↓b_aload_n, ↓n_astore_n, ↓b_callV2_0, ↓b_getA, ↓b_getZ, ↓b_ic_ge, ↓b_iconst, ↓b_if_lt, ↓b_if_ne, ↓b_iload_n, ↓b_zret, ↓ldI_hit, ↓ldI_skip, ↓ldL_hit, ↓ldL_skip, ↓ldA_hit, ↓ldA_skip, ↓ldelK_nil, ↓ldelK_hit, ↓ldelK_skipI, ↓ldelK_skipA, ↓ldelK_skipL, qP2_X0_copyFrom, qP2_X3_copyFrom, qP2_X4_copyFrom, qP2_X5_copyFrom, ↓bI_b, bI_0, nnot, lget_hit, lget_skip, ldel_nil, ldel_hit, ldel_skipI, ldel_skipA, ldel_skipL, ldel2_nil, ldel2_hit, ldel2_hit2, ldel2_skipI, ldel2_skipA, ldel2_skipL, vc_0, mCat_nil, mCat_I, mCat_L, mCat_A, mRcv_A, mArg_nil, mArg_I, mArg_L, mArg_A, tsg, swt_nil, swt_cons, lkw_nil, lkw_cons, ↓reduceIte, Nat.reduceAdd, Nat.reduceEqDiff, Nat.reduceLeDiff, Nat.reduceMul, true_and, and_true, and_self, List.mem_cons, List.not_mem_nil, or_false, or_self, false_or, true_implies, false_implies, not_true_eq_false, not_false_eq_true, nI00, nI10, nI01, nI11, forall_const, implies_true])
      refine d_cpR (by omega) (fun μd d2 d_o dR => ?_)
      (try simp only [↓w_X8_restore_0, ↓w_X8_restore_21, ↓w_X8_restore_23, ↓v_X8_restore_21, ↓v_X8_restore_23, ↓b_aaload, ↓b_aload_n, ↓n_astore_n, ↓b_callV2_0, ↓b_getA, ↓b_getZ, ↓b_ic_ge, ↓b_iconst, ↓b_if_lt, ↓b_if_ne, ↓b_iload_n, ↓b_zret, ↓ldI_hit, ↓ldI_skip, ↓ldL_hit, ↓ldL_skip, ↓ldA_hit, ↓ldA_skip, ↓ldelK_nil, ↓ldelK_hit, ↓ldelK_skipI, ↓ldelK_skipA, ↓ldelK_skipL, qP2_X0_copyFrom, qP2_X3_copyFrom, qP2_X4_copyFrom, qP2_X5_copyFrom, ↓bI_b, bI_0, nnot, lget_hit, lget_skip, ldel_nil, ldel_hit, ldel_skipI, ldel_skipA, ldel_skipL, ldel2_nil, ldel2_hit, ldel2_hit2, ldel2_skipI, ldel2_skipA, ldel2_skipL, vc_0, mCat_nil, mCat_I, mCat_L, mCat_A, mRcv_A, mArg_nil, mArg_I, mArg_L, mArg_A, tsg, swt_nil, swt_cons, lkw_nil, lkw_cons, ↓reduceIte, Nat.reduceAdd, Nat.reduceEqDiff, Nat.reduceLeDiff, Nat.reduceMul, true_and, and_true, and_self, List.mem_cons, List.not_mem_nil, or_false, or_self, false_or, true_implies, false_implies, not_true_eq_false, not_false_eq_true, nI00, nI10, nI01, nI11, forall_const, implies_true])
      (try simp (disch := omega) only [ixq, ixz, sb_in, sb_in0, upI_sb, upI_sb0, sb_out, nI_add, nI_mul, nI_subq, Nat.zero_add, forall_eq, u2_at, u2_row, upd_at, upd_ne, nI0b, nI1b, nI00, nI10, nI01, nI11, true_implies, false_implies, not_true_eq_false, not_false_eq_true, and_true, true_and, implies_true])
      refine end9 _ (d2.trans (c2.trans (b2.trans a2))) (fun i hi => ?_) ?_ ?_ ?_ ?_
      · rw [d_o _ (by omega), co _ (by omega), bo _ (by omega), ao _ (by omega)]
      · rw [show x + 88 + 36 * j = x + 86 + 1 + 36 * j + 1 by omega]
        refine eqB_t aB (eqB_k (fun k hk => ?_))
        show μd.1 (x + 4 + k) = μa.1 (x + 4 + k)
        rw [d_o _ (by omega), co _ (by omega), bo _ (by omega)]
      · rw [show x + 100 + 36 * j = x + 86 + 1 + 36 * j + 13 by omega]
        refine eqP_t (eqP_t (eqP_k (fun k hk => ?_)) bP) (eqP_k (fun k hk => ?_))
        · exact ao _ (by omega)
        · show μd.1 (x + 28 + k) = μb.1 (x + 28 + k)
          rw [d_o _ (by omega), co _ (by omega)]
      · rw [show x + 107 + 36 * j = x + 86 + 1 + 36 * j + 20 by omega]
        refine eqS_t (eqS_t (eqS_k (fun k hk => ?_)) cS) (eqS_k (fun k hk => ?_))
        · exact (bo _ (by omega)).trans (ao _ (by omega))
        · show μd.1 (x + 42 + k) = μc.1 (x + 42 + k)
          rw [d_o _ (by omega)]
      · rw [show x + 111 + 36 * j = x + 86 + 1 + 36 * j + 24 by omega]
        refine eqR_t (eqR_k (fun k hk => ?_)) dR
        exact (co _ (by omega)).trans ((bo _ (by omega)).trans (ao _ (by omega)))
  · have ht' : ¬ (nI 0 ≤ t ∧ t ≤ nI 1) := by
      rw [tin (by decide)]
      rintro ⟨a, a1, a2⟩
      exact ht ⟨a, by omega, a2⟩
    have ht2 := eq_false ht'
    refine get (.inl (nI 0)) hx hr (fun K hK => ?_) (fun K hK => ?_)
    · by_cases z1 : t < 0
      · have y1 := eq_true z1
        (refine vc_met2 P2_ok ok_X8_restore cm_X8_restore [23] 8 t_X8_restore_0 (Nat.le_of_ble_eq_true rfl) ?_; simp only [mArg_nil, mArg_I, mArg_L, mArg_A, Nat.reduceAdd])
        (try simp only [↓w_X8_restore_0, ↓w_X8_restore_21, ↓v_X8_restore_21, ↓v_X8_restore_23, ↓b_aaload, ↓b_aload_n, ↓n_astore_n, ↓b_callV2_0, ↓b_getA, ↓b_getZ, ↓b_ic_ge, ↓b_iconst, ↓b_if_lt, ↓b_if_ne, ↓b_iload_n, ↓b_zret, ↓ldI_hit, ↓ldI_skip, ↓ldL_hit, ↓ldL_skip, ↓ldA_hit, ↓ldA_skip, ↓ldelK_nil, ↓ldelK_hit, ↓ldelK_skipI, ↓ldelK_skipA, ↓ldelK_skipL, qP2_X0_copyFrom, qP2_X3_copyFrom, qP2_X4_copyFrom, qP2_X5_copyFrom, ↓bI_b, bI_0, nnot, lget_hit, lget_skip, ldel_nil, ldel_hit, ldel_skipI, ldel_skipA, ldel_skipL, ldel2_nil, ldel2_hit, ldel2_hit2, ldel2_skipI, ldel2_skipA, ldel2_skipL, vc_0, mCat_nil, mCat_I, mCat_L, mCat_A, mRcv_A, mArg_nil, mArg_I, mArg_L, mArg_A, tsg, swt_nil, swt_cons, lkw_nil, lkw_cons, ↓reduceIte, Nat.reduceAdd, Nat.reduceEqDiff, Nat.reduceLeDiff, Nat.reduceMul, true_and, and_true, and_self, List.mem_cons, List.not_mem_nil, or_false, or_self, false_or, true_implies, false_implies, not_true_eq_false, not_false_eq_true, nI00, nI10, nI01, nI11, forall_const, implies_true, y1])
        (try simp (disch := omega) only [ixq, ixz, sb_in, sb_in0, upI_sb, upI_sb0, sb_out, nI_add, nI_mul, nI_subq, Nat.zero_add, forall_eq, u2_at, u2_row, upd_at, upd_ne, nI0b, nI1b, nI00, nI10, nI01, nI11, true_implies, false_implies, not_true_eq_false, not_false_eq_true, and_true, true_and, implies_true])
        exact hK
      · have y1 := eq_false z1
        have y2 : (nI 2 ≤ t) = True := eq_true (by
          rcases Int32.lt_or_le t (nI 2) with z | z
          · exact absurd (by rw [← ixP (by omega)]; exact ⟨Int32.not_lt.mp z1, z⟩) ht
          · exact z)
        (refine vc_met2 P2_ok ok_X8_restore cm_X8_restore [23] 8 t_X8_restore_0 (Nat.le_of_ble_eq_true rfl) ?_; simp only [mArg_nil, mArg_I, mArg_L, mArg_A, Nat.reduceAdd])
        (try simp only [↓w_X8_restore_0, ↓w_X8_restore_21, ↓v_X8_restore_21, ↓v_X8_restore_23, ↓b_aaload, ↓b_aload_n, ↓n_astore_n, ↓b_callV2_0, ↓b_getA, ↓b_getZ, ↓b_ic_ge, ↓b_iconst, ↓b_if_lt, ↓b_if_ne, ↓b_iload_n, ↓b_zret, ↓ldI_hit, ↓ldI_skip, ↓ldL_hit, ↓ldL_skip, ↓ldA_hit, ↓ldA_skip, ↓ldelK_nil, ↓ldelK_hit, ↓ldelK_skipI, ↓ldelK_skipA, ↓ldelK_skipL, qP2_X0_copyFrom, qP2_X3_copyFrom, qP2_X4_copyFrom, qP2_X5_copyFrom, ↓bI_b, bI_0, nnot, lget_hit, lget_skip, ldel_nil, ldel_hit, ldel_skipI, ldel_skipA, ldel_skipL, ldel2_nil, ldel2_hit, ldel2_hit2, ldel2_skipI, ldel2_skipA, ldel2_skipL, vc_0, mCat_nil, mCat_I, mCat_L, mCat_A, mRcv_A, mArg_nil, mArg_I, mArg_L, mArg_A, tsg, swt_nil, swt_cons, lkw_nil, lkw_cons, ↓reduceIte, Nat.reduceAdd, Nat.reduceEqDiff, Nat.reduceLeDiff, Nat.reduceMul, true_and, and_true, and_self, List.mem_cons, List.not_mem_nil, or_false, or_self, false_or, true_implies, false_implies, not_true_eq_false, not_false_eq_true, nI00, nI10, nI01, nI11, forall_const, implies_true, y1, y2])
        (try simp (disch := omega) only [ixq, ixz, sb_in, sb_in0, upI_sb, upI_sb0, sb_out, nI_add, nI_mul, nI_subq, Nat.zero_add, forall_eq, u2_at, u2_row, upd_at, upd_ne, nI0b, nI1b, nI00, nI10, nI01, nI11, true_implies, false_implies, not_true_eq_false, not_false_eq_true, and_true, true_and, implies_true])
        exact hK
    · (refine vc_met2 P2_ok ok_X9_restore cm_X9_restore [25,27,58,60] 8 t_X9_restore_0 (Nat.le_of_ble_eq_true rfl) ?_; simp only [mArg_nil, mArg_I, mArg_L, mArg_A, Nat.reduceAdd])
      (try simp only [↓w_X9_restore_0, ↓w_X9_restore_23, ↓w_X9_restore_58, ↓w_X9_restore_60, ↓w_X9_restore_89, ↓v_X9_restore_23, ↓v_X9_restore_25, ↓v_X9_restore_27, ↓v_X9_restore_58, ↓v_X9_restore_60, ↓v_X9_restore_89, ↓b_aload_n, ↓b_baload, ↓b_bipush, ↓b_callS3_1, ↓b_getA, ↓b_goto, ↓b_iadd, ↓b_iaload, ↓n_iastore, ↓b_ic_ge, ↓b_iconst, ↓b_if_eq, ↓b_if_ne, ↓n_iinc, ↓b_iload_n, ↓b_imul, ↓n_istore_n, ↓b_laload, ↓n_lastore, ↓n_putI, ↓b_sipush, ↓b_zret, ↓ldI_hit, ↓ldI_skip, ↓ldL_hit, ↓ldL_skip, ↓ldA_hit, ↓ldA_skip, ↓ldelK_nil, ↓ldelK_hit, ↓ldelK_skipI, ↓ldelK_skipA, ↓ldelK_skipL, qP2_X9_isIn, ↓bI_b, bI_0, nnot, lget_hit, lget_skip, ldel_nil, ldel_hit, ldel_skipI, ldel_skipA, ldel_skipL, ldel2_nil, ldel2_hit, ldel2_hit2, ldel2_skipI, ldel2_skipA, ldel2_skipL, vc_0, mCat_nil, mCat_I, mCat_L, mCat_A, mRcv_A, mArg_nil, mArg_I, mArg_L, mArg_A, tsg, swt_nil, swt_cons, lkw_nil, lkw_cons, ↓reduceIte, Nat.reduceAdd, Nat.reduceEqDiff, Nat.reduceLeDiff, Nat.reduceMul, true_and, and_true, and_self, List.mem_cons, List.not_mem_nil, or_false, or_self, false_or, true_implies, false_implies, not_true_eq_false, not_false_eq_true, nI00, nI10, nI01, nI11, forall_const, implies_true, ht2])
      (try simp (disch := omega) only [ixq, ixz, sb_in, sb_in0, upI_sb, upI_sb0, sb_out, nI_add, nI_mul, nI_subq, Nat.zero_add, forall_eq, u2_at, u2_row, upd_at, upd_ne, nI0b, nI1b, nI00, nI10, nI01, nI11, true_implies, false_implies, not_true_eq_false, not_false_eq_true, and_true, true_and, implies_true])
      exact hK
end MRe
