section MSw
variable {X : mC} {h m : Nat} {K : MV → Mem → Prop} {μ : Mem} {Q T B S : Bk} {w : Int64} {G W s o : Nat}
def KWo (T : Bk) (kk : Nat) : Prop := (11 ≤ kk ∧ kk ≤ 18 ∧ T 0 8 = nI kk) ∨ (kk = 19 ∧ ∀ k, 11 ≤ k → k ≤ 18 → ¬ T 0 8 = nI k)
theorem one_head (ht : TK Q w T) (h46 : ∀ kk, KWo T kk → (sgP (nI 40) T ∨ kk ≤ 18) → mAt X m_X9_readOne (h + 5) K 46 [(2, .inl (nI kk)), (1, .inl (bI (sgP (nI 40) T))), (0, .inr (.inr (8, 0, m)))] [] (sb (upL μ m 12 w) m 21 Q))
    (hbad : ¬ sgP (nI 40) T → (∀ k, 11 ≤ k → k ≤ 18 → ¬ T 0 8 = nI k) → ∀ Q', frP Q Q' → Q' 0 10 = nI 1 → Q' 0 11 = T 0 6 → K (.inl (nI 0)) (sb (upL μ m 12 w) m 21 Q')) : mMet X (h + 6) m_X9_readOne [.inr (.inr (8, 0, m))] (sb (upL μ m 12 w) m 21 Q) K := by
  have es := TK_sign ht (c := nI 40) (by unfold isSg; decide)
  (refine vc_met2 P3_ok ok_X9_readOne cm_X9_readOne [10,30,46] 8 t_X9_readOne_0 (Nat.le_of_ble_eq_true rfl) ?_; simp only [mArg_nil, mArg_I, mArg_L, mArg_A, Nat.reduceAdd])
  have k30 : ∀ kk, KWo T kk → mAt X m_X9_readOne (h + 5) K 30 [(2, .inl (nI kk)), (1, .inl (bI (sgP (nI 40) T))), (0, .inr (.inr (8, 0, m)))] [] (sb (upL μ m 12 w) m 21 Q) := by
    intro kk hk
    have k19 : kk ≤ 19 := by
      rcases hk with a | a <;> omega
    (refine vc_from P3_ok ok_X9_readOne [10,30,46] 8 ?_; rw [t_X9_readOne_30])
    simp only [↓w_X9_readOne_0, ↓w_X9_readOne_10, ↓w_X9_readOne_30, ↓w_X9_readOne_46, ↓w_X9_readOne_64, ↓w_X9_readOne_70, ↓w_X9_readOne_105, ↓w_X9_readOne_118, ↓w_X9_readOne_132, ↓w_X9_readOne_137, ↓v_X9_readOne_10, ↓v_X9_readOne_30, ↓v_X9_readOne_46, ↓v_X9_readOne_64, ↓v_X9_readOne_70, ↓v_X9_readOne_105, ↓v_X9_readOne_118, ↓v_X9_readOne_132, ↓v_X9_readOne_137, ↓b_aload_n, ↓b_bipush, ↓b_callV1_0, ↓b_callV1_1, ↓b_callV2_1, ↓b_dupA, ↓b_dupI, ↓b_getI, ↓b_goto, ↓b_iadd, ↓b_ic_eq, ↓b_ic_ge, ↓b_ic_gt, ↓b_ic_le, ↓b_ic_ne, ↓b_iconst, ↓b_if_eq, ↓b_if_ne, ↓n_iinc, ↓b_iload_n, ↓n_istore_n, ↓n_isub, ↓n_putI, ↓b_zret, ↓ldI_hit, ↓ldI_skip, ↓ldL_hit, ↓ldL_skip, ↓ldA_hit, ↓ldA_skip, ↓ldelK_nil, ↓ldelK_hit, ↓ldelK_skipI, ↓ldelK_skipA, ↓ldelK_skipL, qP3_X9_bad, qP3_X9_go, qP3_X9_isSign, qP3_X9_isWord, qP3_X9_readBracket, qP3_X9_readCompare, qP3_X9_readNamed, qP3_X9_readNot, ↓bI_b, bI_0, nnot, lget_hit, lget_skip, ldel_nil, ldel_hit, ldel_skipI, ldel_skipA, ldel_skipL, ldel2_nil, ldel2_hit, ldel2_hit2, ldel2_skipI, ldel2_skipA, ldel2_skipL, vc_0, mCat_nil, mCat_I, mCat_L, mCat_A, mRcv_A, mArg_nil, mArg_I, mArg_L, mArg_A, tsg, swt_nil, swt_cons, lkw_nil, lkw_cons, ↓reduceIte, Nat.reduceAdd, Nat.reduceEqDiff, Nat.reduceLeDiff, Nat.reduceMul, true_and, and_true, and_self, List.mem_cons, List.not_mem_nil, or_false, or_self, false_or, true_implies, false_implies, not_true_eq_false, not_false_eq_true, nI00, nI10, nI01, nI11, forall_const, implies_true]
    simp (disch := omega) only [ixq, ixz, sb_in, sb_in0, upI_sb, upI_sb0, sb_out, nI_add, nI_mul, nI_subq, Nat.zero_add, forall_eq, u2_at, u2_row, upd_at, upd_ne, nI0b, nI1b, nI00, nI10, nI01, nI11, true_implies, false_implies, not_true_eq_false, not_false_eq_true, and_true, true_and, implies_true, nI_lq]
    refine ⟨fun hc => h46 kk hk (Or.inl hc), fun ns => ⟨fun h18 => h46 kk hk (Or.inr h18), fun h18 => ?_⟩⟩
    · have no : ∀ k, 11 ≤ k → k ≤ 18 → ¬ T 0 8 = nI k := by
        rcases hk with a | a
        · omega
        · exact a.2
      refine c_badT ht (Or.inr rfl) (fun Q' f1 e10 e11 => ?_)
      (try simp only [↓w_X9_readOne_0, ↓w_X9_readOne_10, ↓w_X9_readOne_30, ↓w_X9_readOne_46, ↓w_X9_readOne_64, ↓w_X9_readOne_70, ↓w_X9_readOne_105, ↓w_X9_readOne_118, ↓w_X9_readOne_132, ↓w_X9_readOne_137, ↓v_X9_readOne_10, ↓v_X9_readOne_30, ↓v_X9_readOne_46, ↓v_X9_readOne_64, ↓v_X9_readOne_70, ↓v_X9_readOne_105, ↓v_X9_readOne_118, ↓v_X9_readOne_132, ↓v_X9_readOne_137, ↓b_aload_n, ↓b_bipush, ↓b_callV1_0, ↓b_callV1_1, ↓b_callV2_1, ↓b_dupA, ↓b_dupI, ↓b_getI, ↓b_goto, ↓b_iadd, ↓b_ic_eq, ↓b_ic_ge, ↓b_ic_gt, ↓b_ic_le, ↓b_ic_ne, ↓b_iconst, ↓b_if_eq, ↓b_if_ne, ↓n_iinc, ↓b_iload_n, ↓n_istore_n, ↓n_isub, ↓n_putI, ↓b_zret, ↓ldI_hit, ↓ldI_skip, ↓ldL_hit, ↓ldL_skip, ↓ldA_hit, ↓ldA_skip, ↓ldelK_nil, ↓ldelK_hit, ↓ldelK_skipI, ↓ldelK_skipA, ↓ldelK_skipL, qP3_X9_bad, qP3_X9_go, qP3_X9_isSign, qP3_X9_isWord, qP3_X9_readBracket, qP3_X9_readCompare, qP3_X9_readNamed, qP3_X9_readNot, ↓bI_b, bI_0, nnot, lget_hit, lget_skip, ldel_nil, ldel_hit, ldel_skipI, ldel_skipA, ldel_skipL, ldel2_nil, ldel2_hit, ldel2_hit2, ldel2_skipI, ldel2_skipA, ldel2_skipL, vc_0, mCat_nil, mCat_I, mCat_L, mCat_A, mRcv_A, mArg_nil, mArg_I, mArg_L, mArg_A, tsg, swt_nil, swt_cons, lkw_nil, lkw_cons, ↓reduceIte, Nat.reduceAdd, Nat.reduceEqDiff, Nat.reduceLeDiff, Nat.reduceMul, true_and, and_true, and_self, List.mem_cons, List.not_mem_nil, or_false, or_self, false_or, true_implies, false_implies, not_true_eq_false, not_false_eq_true, nI00, nI10, nI01, nI11, forall_const, implies_true]); (try simp (disch := omega) only [ixq, ixz, sb_in, sb_in0, upI_sb, upI_sb0, sb_out, nI_add, nI_mul, nI_subq, Nat.zero_add, forall_eq, u2_at, u2_row, upd_at, upd_ne, nI0b, nI1b, nI00, nI10, nI01, nI11, true_implies, false_implies, not_true_eq_false, not_false_eq_true, and_true, true_and, implies_true])
      exact hbad ns no Q' f1 e10 e11
  simp only [↓w_X9_readOne_0, ↓w_X9_readOne_30, ↓w_X9_readOne_46, ↓w_X9_readOne_64, ↓w_X9_readOne_70, ↓w_X9_readOne_105, ↓w_X9_readOne_118, ↓w_X9_readOne_132, ↓w_X9_readOne_137, ↓v_X9_readOne_10, ↓v_X9_readOne_30, ↓v_X9_readOne_46, ↓v_X9_readOne_64, ↓v_X9_readOne_70, ↓v_X9_readOne_105, ↓v_X9_readOne_118, ↓v_X9_readOne_132, ↓v_X9_readOne_137, ↓b_aload_n, ↓b_bipush, ↓b_callV1_0, ↓b_callV1_1, ↓b_callV2_1, ↓b_dupA, ↓b_dupI, ↓b_getI, ↓b_goto, ↓b_iadd, ↓b_ic_eq, ↓b_ic_ge, ↓b_ic_gt, ↓b_ic_le, ↓b_ic_ne, ↓b_iconst, ↓b_if_eq, ↓b_if_ne, ↓n_iinc, ↓b_iload_n, ↓n_istore_n, ↓n_isub, ↓n_putI, ↓b_zret, ↓ldI_hit, ↓ldI_skip, ↓ldL_hit, ↓ldL_skip, ↓ldA_hit, ↓ldA_skip, ↓ldelK_nil, ↓ldelK_hit, ↓ldelK_skipI, ↓ldelK_skipA, ↓ldelK_skipL, qP3_X9_bad, qP3_X9_go, qP3_X9_isSign, qP3_X9_isWord, qP3_X9_readBracket, qP3_X9_readCompare, qP3_X9_readNamed, qP3_X9_readNot, ↓bI_b, bI_0, nnot, lget_hit, lget_skip, ldel_nil, ldel_hit, ldel_skipI, ldel_skipA, ldel_skipL, ldel2_nil, ldel2_hit, ldel2_hit2, ldel2_skipI, ldel2_skipA, ldel2_skipL, vc_0, mCat_nil, mCat_I, mCat_L, mCat_A, mRcv_A, mArg_nil, mArg_I, mArg_L, mArg_A, tsg, swt_nil, swt_cons, lkw_nil, lkw_cons, ↓reduceIte, Nat.reduceAdd, Nat.reduceEqDiff, Nat.reduceLeDiff, Nat.reduceMul, true_and, and_true, and_self, List.mem_cons, List.not_mem_nil, or_false, or_self, false_or, true_implies, false_implies, not_true_eq_false, not_false_eq_true, nI00, nI10, nI01, nI11, forall_const, implies_true]
  simp (disch := omega) only [ixq, ixz, sb_in, sb_in0, upI_sb, upI_sb0, sb_out, nI_add, nI_mul, nI_subq, Nat.zero_add, forall_eq, u2_at, u2_row, upd_at, upd_ne, nI0b, nI1b, nI00, nI10, nI01, nI11, true_implies, false_implies, not_true_eq_false, not_false_eq_true, and_true, true_and, implies_true, es]
  have key := loop_fr (fun kk => (∀ j, 11 ≤ j → j < kk → ¬ T 0 8 = nI j) → bb X P3 m_X9_readOne (h + 5) K (vc X P3 m_X9_readOne (h + 5) K k_X9_readOne [10,30,46] 8) s_X9_readOne_10 [(2, .inl (nI kk)), (1, .inl (bI (sgP (nI 40) T))), (0, .inr (.inr (8, 0, m)))] [] (sb (upL μ m 12 w) m 21 Q)) 11 19 (by omega) ?_ ?_ (fun j h1 h2 => by omega)
  · exact key
  · intro hn
    simp only [↓w_X9_readOne_0, ↓w_X9_readOne_10, ↓w_X9_readOne_30, ↓w_X9_readOne_46, ↓w_X9_readOne_64, ↓w_X9_readOne_70, ↓w_X9_readOne_105, ↓w_X9_readOne_118, ↓w_X9_readOne_132, ↓w_X9_readOne_137, ↓v_X9_readOne_10, ↓v_X9_readOne_30, ↓v_X9_readOne_46, ↓v_X9_readOne_64, ↓v_X9_readOne_70, ↓v_X9_readOne_105, ↓v_X9_readOne_118, ↓v_X9_readOne_132, ↓v_X9_readOne_137, ↓b_aload_n, ↓b_bipush, ↓b_callV1_0, ↓b_callV1_1, ↓b_callV2_1, ↓b_dupA, ↓b_dupI, ↓b_getI, ↓b_goto, ↓b_iadd, ↓b_ic_eq, ↓b_ic_ge, ↓b_ic_gt, ↓b_ic_le, ↓b_ic_ne, ↓b_iconst, ↓b_if_eq, ↓b_if_ne, ↓n_iinc, ↓b_iload_n, ↓n_istore_n, ↓n_isub, ↓n_putI, ↓b_zret, ↓ldI_hit, ↓ldI_skip, ↓ldL_hit, ↓ldL_skip, ↓ldA_hit, ↓ldA_skip, ↓ldelK_nil, ↓ldelK_hit, ↓ldelK_skipI, ↓ldelK_skipA, ↓ldelK_skipL, qP3_X9_bad, qP3_X9_go, qP3_X9_isSign, qP3_X9_isWord, qP3_X9_readBracket, qP3_X9_readCompare, qP3_X9_readNamed, qP3_X9_readNot, ↓bI_b, bI_0, nnot, lget_hit, lget_skip, ldel_nil, ldel_hit, ldel_skipI, ldel_skipA, ldel_skipL, ldel2_nil, ldel2_hit, ldel2_hit2, ldel2_skipI, ldel2_skipA, ldel2_skipL, vc_0, mCat_nil, mCat_I, mCat_L, mCat_A, mRcv_A, mArg_nil, mArg_I, mArg_L, mArg_A, tsg, swt_nil, swt_cons, lkw_nil, lkw_cons, ↓reduceIte, Nat.reduceAdd, Nat.reduceEqDiff, Nat.reduceLeDiff, Nat.reduceMul, true_and, and_true, and_self, List.mem_cons, List.not_mem_nil, or_false, or_self, false_or, true_implies, false_implies, not_true_eq_false, not_false_eq_true, nI00, nI10, nI01, nI11, forall_const, implies_true]
    simp (disch := omega) only [ixq, ixz, sb_in, sb_in0, upI_sb, upI_sb0, sb_out, nI_add, nI_mul, nI_subq, Nat.zero_add, forall_eq, u2_at, u2_row, upd_at, upd_ne, nI0b, nI1b, nI00, nI10, nI01, nI11, true_implies, false_implies, not_true_eq_false, not_false_eq_true, and_true, true_and, implies_true, nI_lq, nI_ltq]
    exact ⟨fun _ => k30 19 (Or.inr ⟨rfl, fun k h1 h2 => hn k h1 (by omega)⟩), fun hc => absurd (show 18 < 19 by decide) hc⟩
  · intro kk h1 h2 ih hn
    have ew := TK_word ht (k := kk) (by omega)
    simp only [↓w_X9_readOne_0, ↓w_X9_readOne_10, ↓w_X9_readOne_30, ↓w_X9_readOne_46, ↓w_X9_readOne_64, ↓w_X9_readOne_70, ↓w_X9_readOne_105, ↓w_X9_readOne_118, ↓w_X9_readOne_132, ↓w_X9_readOne_137, ↓v_X9_readOne_10, ↓v_X9_readOne_30, ↓v_X9_readOne_46, ↓v_X9_readOne_64, ↓v_X9_readOne_70, ↓v_X9_readOne_105, ↓v_X9_readOne_118, ↓v_X9_readOne_132, ↓v_X9_readOne_137, ↓b_aload_n, ↓b_bipush, ↓b_callV1_0, ↓b_callV1_1, ↓b_callV2_1, ↓b_dupA, ↓b_dupI, ↓b_getI, ↓b_goto, ↓b_iadd, ↓b_ic_eq, ↓b_ic_ge, ↓b_ic_gt, ↓b_ic_le, ↓b_ic_ne, ↓b_iconst, ↓b_if_eq, ↓b_if_ne, ↓n_iinc, ↓b_iload_n, ↓n_istore_n, ↓n_isub, ↓n_putI, ↓b_zret, ↓ldI_hit, ↓ldI_skip, ↓ldL_hit, ↓ldL_skip, ↓ldA_hit, ↓ldA_skip, ↓ldelK_nil, ↓ldelK_hit, ↓ldelK_skipI, ↓ldelK_skipA, ↓ldelK_skipL, qP3_X9_bad, qP3_X9_go, qP3_X9_isSign, qP3_X9_isWord, qP3_X9_readBracket, qP3_X9_readCompare, qP3_X9_readNamed, qP3_X9_readNot, ↓bI_b, bI_0, nnot, lget_hit, lget_skip, ldel_nil, ldel_hit, ldel_skipI, ldel_skipA, ldel_skipL, ldel2_nil, ldel2_hit, ldel2_hit2, ldel2_skipI, ldel2_skipA, ldel2_skipL, vc_0, mCat_nil, mCat_I, mCat_L, mCat_A, mRcv_A, mArg_nil, mArg_I, mArg_L, mArg_A, tsg, swt_nil, swt_cons, lkw_nil, lkw_cons, ↓reduceIte, Nat.reduceAdd, Nat.reduceEqDiff, Nat.reduceLeDiff, Nat.reduceMul, true_and, and_true, and_self, List.mem_cons, List.not_mem_nil, or_false, or_self, false_or, true_implies, false_implies, not_true_eq_false, not_false_eq_true, nI00, nI10, nI01, nI11, forall_const, implies_true]
    simp (disch := omega) only [ixq, ixz, sb_in, sb_in0, upI_sb, upI_sb0, sb_out, nI_add, nI_mul, nI_subq, Nat.zero_add, forall_eq, u2_at, u2_row, upd_at, upd_ne, nI0b, nI1b, nI00, nI10, nI01, nI11, true_implies, false_implies, not_true_eq_false, not_false_eq_true, and_true, true_and, implies_true, nI_lq, nI_ltq, sb_2, upL_at, ew]
    refine ⟨fun hc => absurd hc (by omega), fun _ => ⟨fun hc => k30 kk (Or.inl ⟨h1, by omega, hc⟩), fun hc => ?_⟩⟩
    have i2 := ih (fun j j1 j2 => by
      by_cases hj : j = kk
      · rw [hj]; exact hc
      · exact hn j j1 (by omega))
    exact vc_back P3_ok ok_X9_readOne [10,30,46] 8 t_X9_readOne_10 (i2) (by simp) (rfl)
theorem one_fin1 {p : PR} {Q2 S1 Q3 : Bk} {w3 : Int64} {k s3 o3 d l v : Nat} (hO : OUTS K μ m s o Q S p) (fq : frT Q Q2) (gs : SG Q S Q2 S1 s) (hv : Q 0 43 = nI v) (z : p.1 = nI 1) (f3 : frT Q2 Q3) (e44 : Q3 0 44 = nI k) (r3 : SR Q3 p.2.2 s3 o3) (g3 : SG Q2 S1 Q3 p.2.2 s) (lo : o < o3) (ls : s3 + 1 ≤ s + 2 * (o3 - o)) (lk : k < s3) (nd : ND (Q3 20) p.2.2 d k s s3 l) (ll : l + o ≤ o3) (t3 : TK Q3 w3 p.2.1) : K (.inl (nI 1)) (sb (upL μ m 12 w3) m 21 (u2 Q3 0 43 (nI v))) := by
  refine hO.1 z (u2 Q3 0 43 (nI v)) w3 k s3 o3 d l (frT_t fq (frT_t f3 (frT_f (by omega) (by omega)))) ?_ ?_ ?_ ?_ lo ls lk ?_ ll (TK_13 t3 (by decide))
  · rw [u2_at, upd_at, hv]
  · rw [u2_at, upd_ne (by decide)]; exact e44
  · exact ⟨by rw [u2_at, upd_ne (by decide)]; exact r3.1, by rw [u2_at, upd_ne (by decide)]; exact r3.2.1, r3.2.2⟩
  · have := SG_t gs g3 (Nat.le_refl s)
    exact ⟨fun j hj => by rw [u2_row (by decide)]; exact this.1 j hj, this.2⟩
  · rw [u2_row (by decide)]; exact nd
theorem one_fin0 {p : PR} {Q2 Q3 : Bk} {w3 : Int64} {x : Int32} (hO : OUTS K μ m s o Q S p) (fq : frT Q Q2) (z : p.1 = nI 0) (f3 : frU Q2 Q3) (e10 : Q3 0 10 = p.2.1 0 10) (e11 : Q3 0 11 = p.2.1 0 11) : K (.inl (nI 0)) (sb (upL μ m 12 w3) m 21 (u2 Q3 0 43 x)) :=
  hO.2 z (u2 Q3 0 43 x) w3 (frU_t fq (frU_r f3 (frT_f (by omega) (by omega)))) (by rw [u2_at, upd_ne (by decide)]; exact e10) (by rw [u2_at, upd_ne (by decide)]; exact e11)
/-- ONE is told: T 0 8 is the place of its WORD, if it is one of eight -/
theorem kwo_le {kk : Nat} (ht : TK Q w T) (hk : KWo T kk) : (kk ≤ 18) = (nI 11 ≤ T 0 8) := by
  apply propext
  rcases hk with ⟨a, b, c⟩ | ⟨a, b⟩
  · rw [c, nI_lq (by omega) (by omega)]
    exact ⟨fun _ => a, fun _ => b⟩
  · refine ⟨fun z => by omega, fun z => ?_⟩
    exfalso
    have kp := ht.2.2.1
    by_cases h2 : T 0 5 = nI 2
    · obtain ⟨n, n1, n2, n3⟩ := ht.2.2.2.2.2.2.2.1 h2
      rcases kp.2 h2 n (by have := name_lt n1; omega) n2 with ⟨j, hj, e1, e2⟩ | ⟨_, e2⟩
      · rw [e2, nI_lq (by omega) (by omega)] at z
        exact b j z (by omega) e2
      · rw [e2] at z
        exact absurd z (by decide)
    · rw [kp.1 h2] at z
      exact absurd z (by decide)
end MSw
