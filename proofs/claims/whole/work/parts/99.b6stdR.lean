theorem nI_subneg {a b : Nat} (h : a < b) (hb : b < 2 ^ 31) : nI a - nI b < 0 := by
  rw [Int32.lt_iff_toInt_lt, Int32.toInt_sub, nI_toInt (by omega), nI_toInt (by omega)]
  have h0 : (0 : Int32).toInt = 0 := by decide
  rw [h0, Int.bmod_def]
  split <;> omega
theorem nI_sn {a b : Nat} (h : a < b) (hb : b < 2 ^ 31) : (nI a - nI b < 0) = True := propext ⟨fun _ => trivial, fun _ => nI_subneg h hb⟩
theorem nI_sn2 {a b : Nat} (h : a < b) (hb : b < 2 ^ 31) : (0 ≤ nI a - nI b) = False := propext ⟨fun z => absurd (nI_subneg h hb) (Int32.not_lt.mpr z), False.elim⟩
theorem mxL {a l : Nat} (ha : a < 2 ^ 31) (hl : l < 2 ^ 31) : (if nI a - nI l < nI 0 then nI 0 else nI a - nI l) = nI (a - min a l) := by
  by_cases h : a < l
  · rw [if_pos (show nI a - nI l < nI 0 from nI_subneg h hl)]
    congr 1
    omega
  · rw [nI_subq (by omega), if_neg (show ¬ nI (a - l) < nI 0 from nI_pos (by omega))]
    congr 1
    omega
section MSr
variable {X : mC} {h m : Nat} {μ : Mem} {K : MV → Mem → Prop} {Q B B' : Bk} {G W : Nat} {N : Nat → Int64} {set : Int32}
theorem stepS_nat {w g v e t y l : Nat} (h11 : B 11 (w * 6 + g) = nI e) (h7 : B 7 (w * 6 + g) = nI t) (h10 : B 10 (w * 6 + g) = nI y) (h3 : B 3 g = nI l) (hv : v < 2 ^ 20) (he : e < 2 ^ 20) (hy : y < 2 ^ 20) (hl : l < 2 ^ 20) : (set >>> (nI w &&& 31) &&& nI 1 = nI 1 → t ≤ v + e → stepS B set w g (nI v) = nI (v + e - t + y - min (v + e - t + y) l)) ∧ (¬ set >>> (nI w &&& 31) &&& nI 1 = nI 1 → stepS B set w g (nI v) = nI (v + e - min (v + e) l)) := by
  unfold stepS
  rw [h11, h7, h10, h3]
  refine ⟨fun hb ht => ?_, fun hb => ?_⟩
  · have key : nI v + nI e + (nI y - nI t) = nI (v + e - t + y) := by
      have a1 : nI (v + e) = nI (v + e - t) + nI t := by rw [nI_add]; congr 1; omega
      rw [nI_add, a1, ← nI_add]
      generalize nI (v + e - t) = p
      generalize nI t = q
      generalize nI y = r
      grind
    rw [if_pos hb, key]
    exact mxL (by omega) (by omega)
  · rw [if_neg hb, nI_add]
    exact mxL (by omega) (by omega)
theorem c_isSteadyR {at' good more : Int32} (hR : RBB G W (Q 2) N B) (e3 : B' 3 = B 3) (e7 : B' 7 = B 7) (e10 : B' 10 = B 10) (h11 : ∀ w, w < W → ∀ g, g < G → (nI w = at' ∧ nI g = good → B' 11 (w * 6 + g) = B 11 (w * 6 + g) + more) ∧ (¬ (nI w = at' ∧ nI g = good) → B' 11 (w * 6 + g) = B 11 (w * 6 + g))) (hb11 : ∀ w, w < W → ∀ g, g < G → ∃ e, e ≤ 200 ∧ B' 11 (w * 6 + g) = nI e) (hT : steadyP G W B' set → K (.inl (nI 1)) (sb μ m 21 Q)) (hF : ¬ steadyP G W B' set → K (.inl (nI 0)) (sb μ m 21 Q)) : mMet X (h + 2) m_X9_isSteady [.inr (.inr (8, 0, m)), .inl set, .inl at', .inl good, .inl more] (sb μ m 21 Q) K := by
  have g6 := hR.g6
  have w8 := hR.w8
  have q0 := hR.q0
  have q1 := hR.q1
  (refine vc_met2 P1_ok ok_X9_isSteady cm_X9_isSteady [3,18,71] 8 t_X9_isSteady_0 (Nat.le_of_ble_eq_true rfl) ?_; simp only [mArg_nil, mArg_I, mArg_L, mArg_A, Nat.reduceAdd])
  have outer : ∀ j g, g + j = G → (∀ w, w < W → ∀ g', g' < g → okS B' set w g') → bb X P1 m_X9_isSteady (h + 1) K (vc X P1 m_X9_isSteady (h + 1) K k_X9_isSteady [3,18,71] 8) s_X9_isSteady_3 [(5, .inl (nI g)), (0, .inr (.inr (8, 0, m))), (1, .inl set), (2, .inl at'), (3, .inl good), (4, .inl more)] [] (sb μ m 21 Q) := by
    intro j
    induction j with
    | zero =>
      intro g hg hok
      (try simp only [↓w_X9_isSteady_0, ↓w_X9_isSteady_3, ↓w_X9_isSteady_71, ↓w_X9_isSteady_102, ↓w_X9_isSteady_118, ↓w_X9_isSteady_149, ↓w_X9_isSteady_155, ↓w_X9_isSteady_161, ↓v_X9_isSteady_3, ↓v_X9_isSteady_18, ↓v_X9_isSteady_71, ↓v_X9_isSteady_102, ↓v_X9_isSteady_118, ↓v_X9_isSteady_149, ↓v_X9_isSteady_155, ↓v_X9_isSteady_161, ↓b_aload_n, ↓b_bipush, ↓b_callS2_1, ↓b_callV1_1, ↓b_getA, ↓b_goto, ↓b_iadd, ↓b_iaload, ↓b_ic_ge, ↓b_ic_ne, ↓b_iconst, ↓b_if_eq, ↓b_if_ge, ↓n_iinc, ↓b_iload, ↓b_iload_n, ↓n_istore, ↓n_isub, ↓b_sipush, ↓b_zret, ↓ldI_hit, ↓ldI_skip, ↓ldL_hit, ↓ldL_skip, ↓ldA_hit, ↓ldA_skip, ↓ldelK_nil, ↓ldelK_hit, ↓ldelK_skipI, ↓ldelK_skipA, ↓ldelK_skipL, qP1_X9_cell, qP1_X9_goods, qP1_X9_has, qP1_X9_less, qP1_X9_works, ↓bI_b, bI_0, nnot, lget_hit, lget_skip, ldel_nil, ldel_hit, ldel_skipI, ldel_skipA, ldel_skipL, ldel2_nil, ldel2_hit, ldel2_hit2, ldel2_skipI, ldel2_skipA, ldel2_skipL, vc_0, mCat_nil, mCat_I, mCat_L, mCat_A, mRcv_A, mArg_nil, mArg_I, mArg_L, mArg_A, tsg, swt_nil, swt_cons, lkw_nil, lkw_cons, ↓reduceIte, Nat.reduceAdd, Nat.reduceEqDiff, Nat.reduceLeDiff, Nat.reduceMul, true_and, and_true, and_self, List.mem_cons, List.not_mem_nil, or_false, or_self, false_or, true_implies, false_implies, not_true_eq_false, not_false_eq_true, nI00, nI10, nI01, nI11, forall_const, implies_true])
      (try simp (disch := omega) only [ixq, ixz, sb_in, sb_in0, upI_sb, upI_sb0, sb_out, nI_add, nI_mul, nI_subq, Nat.zero_add, forall_eq, u2_at, u2_row, upd_at, upd_ne, nI0b, nI1b, nI00, nI10, nI01, nI11, true_implies, false_implies, not_true_eq_false, not_false_eq_true, and_true, true_and, implies_true, q0, q1, nI_lq])
      refine ⟨fun _ => hT (fun w hw g' hg' => hok w hw g' (by omega)), fun z => absurd (show G ≤ g by omega) z⟩
    | succ j ih =>
      intro g hg hok
      obtain ⟨f8, l, l9, hl⟩ := hR.ls g (by omega)
      rw [hl] at f8
      have h3 : B' 3 g = nI l := by rw [e3]; exact hl
      have inner : ∀ n w v, w + n = W → (0 < n → ∃ v0, v0 ≤ 300 * w ∧ v = nI v0 ∧ vS B' set g w = nI v0) → (∀ w', w' < w → okS B' set w' g) → bb X P1 m_X9_isSteady (h + 1) K (vc X P1 m_X9_isSteady (h + 1) K k_X9_isSteady [3,18,71] 8) s_X9_isSteady_18 [(7, .inl (nI w)), (6, .inl v), (5, .inl (nI g)), (0, .inr (.inr (8, 0, m))), (1, .inl set), (2, .inl at'), (3, .inl good), (4, .inl more)] [] (sb μ m 21 Q) := by
        intro n
        induction n with
        | zero =>
          intro w v hw hv hokw
          have ih2 := ih (g + 1) (by omega) (fun w' hw' g' hg' => by
            by_cases hz : g' = g
            · rw [hz]; exact hokw w' (by omega)
            · exact hok w' hw' g' (by omega))
          (try simp only [↓w_X9_isSteady_0, ↓w_X9_isSteady_3, ↓w_X9_isSteady_18, ↓w_X9_isSteady_71, ↓w_X9_isSteady_102, ↓w_X9_isSteady_118, ↓w_X9_isSteady_149, ↓w_X9_isSteady_155, ↓w_X9_isSteady_161, ↓v_X9_isSteady_3, ↓v_X9_isSteady_18, ↓v_X9_isSteady_71, ↓v_X9_isSteady_102, ↓v_X9_isSteady_118, ↓v_X9_isSteady_149, ↓v_X9_isSteady_155, ↓v_X9_isSteady_161, ↓b_aload_n, ↓b_bipush, ↓b_callS2_1, ↓b_callV1_1, ↓b_getA, ↓b_goto, ↓b_iadd, ↓b_iaload, ↓b_ic_ge, ↓b_ic_ne, ↓b_iconst, ↓b_if_eq, ↓b_if_ge, ↓n_iinc, ↓b_iload, ↓b_iload_n, ↓n_istore, ↓n_isub, ↓b_sipush, ↓b_zret, ↓ldI_hit, ↓ldI_skip, ↓ldL_hit, ↓ldL_skip, ↓ldA_hit, ↓ldA_skip, ↓ldelK_nil, ↓ldelK_hit, ↓ldelK_skipI, ↓ldelK_skipA, ↓ldelK_skipL, qP1_X9_cell, qP1_X9_goods, qP1_X9_has, qP1_X9_less, qP1_X9_works, ↓bI_b, bI_0, nnot, lget_hit, lget_skip, ldel_nil, ldel_hit, ldel_skipI, ldel_skipA, ldel_skipL, ldel2_nil, ldel2_hit, ldel2_hit2, ldel2_skipI, ldel2_skipA, ldel2_skipL, vc_0, mCat_nil, mCat_I, mCat_L, mCat_A, mRcv_A, mArg_nil, mArg_I, mArg_L, mArg_A, tsg, swt_nil, swt_cons, lkw_nil, lkw_cons, ↓reduceIte, Nat.reduceAdd, Nat.reduceEqDiff, Nat.reduceLeDiff, Nat.reduceMul, true_and, and_true, and_self, List.mem_cons, List.not_mem_nil, or_false, or_self, false_or, true_implies, false_implies, not_true_eq_false, not_false_eq_true, nI00, nI10, nI01, nI11, forall_const, implies_true])
          (try simp (disch := omega) only [ixq, ixz, sb_in, sb_in0, upI_sb, upI_sb0, sb_out, nI_add, nI_mul, nI_subq, Nat.zero_add, forall_eq, u2_at, u2_row, upd_at, upd_ne, nI0b, nI1b, nI00, nI10, nI01, nI11, true_implies, false_implies, not_true_eq_false, not_false_eq_true, and_true, true_and, implies_true, q0, q1, nI_lq])
          refine ⟨fun _ => ?_, fun z => absurd (show W ≤ w by omega) z⟩
          exact vc_back P1_ok ok_X9_isSteady [3,18,71] 8 t_X9_isSteady_3 (ih2) (by simp) (rfl)
        | succ n ihn =>
          intro w v hw hv hokw
          obtain ⟨v0, v1, rfl, v3⟩ := hv (by omega)
          obtain ⟨f7, _, _, f10, f11⟩ := hR.ce (w * 6 + g) (by omega)
          obtain ⟨t, s, a, y, e0, t9, _, _, y9, e9, _, _, k7, _, _, k10, k11⟩ := hR.cb (w * 6 + g) (by omega)
          obtain ⟨e, e200, he⟩ := hb11 w (by omega) g (by omega)
          have n7 : B' 7 (w * 6 + g) = nI t := by rw [e7]; exact k7
          have n10 : B' 10 (w * 6 + g) = nI y := by rw [e10]; exact k10
          rw [k7] at f7
          rw [k10] at f10
          have st := stepS_nat (set := set) (v := v0) he n7 n10 h3 (by omega) (by omega) (by omega) (by omega)
          have vs : vS B' set g (w + 1) = stepS B' set w g (nI v0) := by rw [← v3]; rfl
          have fin : ∀ v', (set >>> (nI w &&& 31) &&& nI 1 = nI 1 → t ≤ v0 + e) → (0 < n → ∃ v0', v0' ≤ 300 * (w + 1) ∧ v' = nI v0' ∧ vS B' set g (w + 1) = nI v0') → bb X P1 m_X9_isSteady (h + 1) K (vc X P1 m_X9_isSteady (h + 1) K k_X9_isSteady [3,18,71] 8) s_X9_isSteady_18 [(7, .inl (nI (w + 1))), (6, .inl v'), (5, .inl (nI g)), (0, .inr (.inr (8, 0, m))), (1, .inl set), (2, .inl at'), (3, .inl good), (4, .inl more)] [] (sb μ m 21 Q) := fun v' ht hv' => ihn (w + 1) v' (by omega) hv' (fun w' hw' => by
            by_cases hz : w' = w
            · rw [hz]
              intro hbit
              rw [n7, v3, he, nI_add]
              exact (nI_leI (by omega) (by omega)).mpr (ht hbit)
            · exact hokw w' (by omega))
          have bad : set >>> (nI w &&& 31) &&& nI 1 = nI 1 → ¬ t ≤ v0 + e → ¬ steadyP G W B' set := fun hbit ht hp => by
            have z := hp w (by omega) g (by omega) hbit
            rw [n7, v3, he, nI_add] at z
            exact ht ((nI_leI (by omega) (by omega)).mp z)
          have k71 : ∀ nf, bb X P1 m_X9_isSteady (h + 1) K (vc X P1 m_X9_isSteady (h + 1) K k_X9_isSteady [3,18,71] (nf + 4)) s_X9_isSteady_71 [(6, .inl (nI (v0 + e))), (8, .inl (nI (w * 6 + g))), (7, .inl (nI w)), (5, .inl (nI g)), (0, .inr (.inr (8, 0, m))), (1, .inl set), (2, .inl at'), (3, .inl good), (4, .inl more)] [] (sb μ m 21 Q) := by
            intro nf
            by_cases hbit : set >>> (nI w &&& 31) &&& nI 1 = nI 1
            · have hbt := eq_true hbit
              by_cases ht : t ≤ v0 + e
              · by_cases hw1 : W - 1 ≤ w
                · have i2 := fin (nI (v0 + e - t + y)) (fun _ => ht) (fun z => by omega)
                  clear fin ihn ih
                  (try simp only [↓w_X9_isSteady_0, ↓w_X9_isSteady_3, ↓w_X9_isSteady_18, ↓w_X9_isSteady_71, ↓w_X9_isSteady_102, ↓w_X9_isSteady_118, ↓w_X9_isSteady_149, ↓w_X9_isSteady_155, ↓w_X9_isSteady_161, ↓v_X9_isSteady_3, ↓v_X9_isSteady_18, ↓v_X9_isSteady_71, ↓v_X9_isSteady_102, ↓v_X9_isSteady_118, ↓v_X9_isSteady_149, ↓v_X9_isSteady_155, ↓v_X9_isSteady_161, ↓b_aload_n, ↓b_bipush, ↓b_callS2_1, ↓b_callV1_1, ↓b_getA, ↓b_goto, ↓b_iadd, ↓b_iaload, ↓b_ic_ge, ↓b_ic_ne, ↓b_iconst, ↓b_if_eq, ↓b_if_ge, ↓n_iinc, ↓b_iload, ↓b_iload_n, ↓n_istore, ↓n_isub, ↓b_sipush, ↓b_zret, ↓ldI_hit, ↓ldI_skip, ↓ldL_hit, ↓ldL_skip, ↓ldA_hit, ↓ldA_skip, ↓ldelK_nil, ↓ldelK_hit, ↓ldelK_skipI, ↓ldelK_skipA, ↓ldelK_skipL, qP1_X9_cell, qP1_X9_goods, qP1_X9_has, qP1_X9_less, qP1_X9_works, ↓bI_b, bI_0, nnot, lget_hit, lget_skip, ldel_nil, ldel_hit, ldel_skipI, ldel_skipA, ldel_skipL, ldel2_nil, ldel2_hit, ldel2_hit2, ldel2_skipI, ldel2_skipA, ldel2_skipL, vc_0, mCat_nil, mCat_I, mCat_L, mCat_A, mRcv_A, mArg_nil, mArg_I, mArg_L, mArg_A, tsg, swt_nil, swt_cons, lkw_nil, lkw_cons, ↓reduceIte, Nat.reduceAdd, Nat.reduceEqDiff, Nat.reduceLeDiff, Nat.reduceMul, true_and, and_true, and_self, List.mem_cons, List.not_mem_nil, or_false, or_self, false_or, true_implies, false_implies, not_true_eq_false, not_false_eq_true, nI00, nI10, nI01, nI11, forall_const, implies_true, hbt])
                  (try simp (disch := omega) only [ixq, ixz, sb_in, sb_in0, upI_sb, upI_sb0, sb_out, nI_add, nI_mul, nI_subq, Nat.zero_add, forall_eq, u2_at, u2_row, upd_at, upd_ne, nI0b, nI1b, nI00, nI10, nI01, nI11, true_implies, false_implies, not_true_eq_false, not_false_eq_true, and_true, true_and, implies_true, q0, q1, nI_lq, f7, f10, f8, nI_lz, nI_zl])
                  refine ⟨fun _ => ?_, fun z => absurd hw1 z⟩
                  exact vc_back P1_ok ok_X9_isSteady [3,18,71] 8 t_X9_isSteady_18 (i2) (by simp) (rfl)
                · have i2 := fin (nI (v0 + e - t + y - min (v0 + e - t + y) l)) (fun _ => ht) (fun _ => ⟨_, by omega, rfl, by rw [vs]; exact st.1 hbit ht⟩)
                  clear fin ihn ih
                  (try simp only [↓w_X9_isSteady_0, ↓w_X9_isSteady_3, ↓w_X9_isSteady_18, ↓w_X9_isSteady_71, ↓w_X9_isSteady_102, ↓w_X9_isSteady_118, ↓w_X9_isSteady_149, ↓w_X9_isSteady_155, ↓w_X9_isSteady_161, ↓v_X9_isSteady_3, ↓v_X9_isSteady_18, ↓v_X9_isSteady_71, ↓v_X9_isSteady_102, ↓v_X9_isSteady_118, ↓v_X9_isSteady_149, ↓v_X9_isSteady_155, ↓v_X9_isSteady_161, ↓b_aload_n, ↓b_bipush, ↓b_callS2_1, ↓b_callV1_1, ↓b_getA, ↓b_goto, ↓b_iadd, ↓b_iaload, ↓b_ic_ge, ↓b_ic_ne, ↓b_iconst, ↓b_if_eq, ↓b_if_ge, ↓n_iinc, ↓b_iload, ↓b_iload_n, ↓n_istore, ↓n_isub, ↓b_sipush, ↓b_zret, ↓ldI_hit, ↓ldI_skip, ↓ldL_hit, ↓ldL_skip, ↓ldA_hit, ↓ldA_skip, ↓ldelK_nil, ↓ldelK_hit, ↓ldelK_skipI, ↓ldelK_skipA, ↓ldelK_skipL, qP1_X9_cell, qP1_X9_goods, qP1_X9_has, qP1_X9_less, qP1_X9_works, ↓bI_b, bI_0, nnot, lget_hit, lget_skip, ldel_nil, ldel_hit, ldel_skipI, ldel_skipA, ldel_skipL, ldel2_nil, ldel2_hit, ldel2_hit2, ldel2_skipI, ldel2_skipA, ldel2_skipL, vc_0, mCat_nil, mCat_I, mCat_L, mCat_A, mRcv_A, mArg_nil, mArg_I, mArg_L, mArg_A, tsg, swt_nil, swt_cons, lkw_nil, lkw_cons, ↓reduceIte, Nat.reduceAdd, Nat.reduceEqDiff, Nat.reduceLeDiff, Nat.reduceMul, true_and, and_true, and_self, List.mem_cons, List.not_mem_nil, or_false, or_self, false_or, true_implies, false_implies, not_true_eq_false, not_false_eq_true, nI00, nI10, nI01, nI11, forall_const, implies_true, hbt])
                  (try simp (disch := omega) only [ixq, ixz, sb_in, sb_in0, upI_sb, upI_sb0, sb_out, nI_add, nI_mul, nI_subq, Nat.zero_add, forall_eq, u2_at, u2_row, upd_at, upd_ne, nI0b, nI1b, nI00, nI10, nI01, nI11, true_implies, false_implies, not_true_eq_false, not_false_eq_true, and_true, true_and, implies_true, q0, q1, nI_lq, f7, f10, f8, nI_lz, nI_zl, mn1])
                  refine ⟨fun z => absurd z hw1, fun _ => ?_⟩
                  exact vc_back P1_ok ok_X9_isSteady [3,18,71] 8 t_X9_isSteady_18 (i2) (by simp) (rfl)
              · (try simp only [↓w_X9_isSteady_0, ↓w_X9_isSteady_3, ↓w_X9_isSteady_18, ↓w_X9_isSteady_71, ↓w_X9_isSteady_102, ↓w_X9_isSteady_118, ↓w_X9_isSteady_149, ↓w_X9_isSteady_155, ↓w_X9_isSteady_161, ↓v_X9_isSteady_3, ↓v_X9_isSteady_18, ↓v_X9_isSteady_71, ↓v_X9_isSteady_102, ↓v_X9_isSteady_118, ↓v_X9_isSteady_149, ↓v_X9_isSteady_155, ↓v_X9_isSteady_161, ↓b_aload_n, ↓b_bipush, ↓b_callS2_1, ↓b_callV1_1, ↓b_getA, ↓b_goto, ↓b_iadd, ↓b_iaload, ↓b_ic_ge, ↓b_ic_ne, ↓b_iconst, ↓b_if_eq, ↓b_if_ge, ↓n_iinc, ↓b_iload, ↓b_iload_n, ↓n_istore, ↓n_isub, ↓b_sipush, ↓b_zret, ↓ldI_hit, ↓ldI_skip, ↓ldL_hit, ↓ldL_skip, ↓ldA_hit, ↓ldA_skip, ↓ldelK_nil, ↓ldelK_hit, ↓ldelK_skipI, ↓ldelK_skipA, ↓ldelK_skipL, qP1_X9_cell, qP1_X9_goods, qP1_X9_has, qP1_X9_less, qP1_X9_works, ↓bI_b, bI_0, nnot, lget_hit, lget_skip, ldel_nil, ldel_hit, ldel_skipI, ldel_skipA, ldel_skipL, ldel2_nil, ldel2_hit, ldel2_hit2, ldel2_skipI, ldel2_skipA, ldel2_skipL, vc_0, mCat_nil, mCat_I, mCat_L, mCat_A, mRcv_A, mArg_nil, mArg_I, mArg_L, mArg_A, tsg, swt_nil, swt_cons, lkw_nil, lkw_cons, ↓reduceIte, Nat.reduceAdd, Nat.reduceEqDiff, Nat.reduceLeDiff, Nat.reduceMul, true_and, and_true, and_self, List.mem_cons, List.not_mem_nil, or_false, or_self, false_or, true_implies, false_implies, not_true_eq_false, not_false_eq_true, nI00, nI10, nI01, nI11, forall_const, implies_true, hbt])
                (try simp (disch := omega) only [ixq, ixz, sb_in, sb_in0, upI_sb, upI_sb0, sb_out, nI_add, nI_mul, nI_subq, Nat.zero_add, forall_eq, u2_at, u2_row, upd_at, upd_ne, nI0b, nI1b, nI00, nI10, nI01, nI11, true_implies, false_implies, not_true_eq_false, not_false_eq_true, and_true, true_and, implies_true, q0, q1, nI_lq, f7, f10, f8, nI_sn, nI_sn2])
                exact hF (bad hbit ht)
            · have hbt := eq_false hbit
              by_cases hw1 : W - 1 ≤ w
              · have i2 := fin (nI (v0 + e)) (fun z => absurd z hbit) (fun z => by omega)
                clear fin ihn ih
                (try simp only [↓w_X9_isSteady_0, ↓w_X9_isSteady_3, ↓w_X9_isSteady_18, ↓w_X9_isSteady_71, ↓w_X9_isSteady_102, ↓w_X9_isSteady_118, ↓w_X9_isSteady_149, ↓w_X9_isSteady_155, ↓w_X9_isSteady_161, ↓v_X9_isSteady_3, ↓v_X9_isSteady_18, ↓v_X9_isSteady_71, ↓v_X9_isSteady_102, ↓v_X9_isSteady_118, ↓v_X9_isSteady_149, ↓v_X9_isSteady_155, ↓v_X9_isSteady_161, ↓b_aload_n, ↓b_bipush, ↓b_callS2_1, ↓b_callV1_1, ↓b_getA, ↓b_goto, ↓b_iadd, ↓b_iaload, ↓b_ic_ge, ↓b_ic_ne, ↓b_iconst, ↓b_if_eq, ↓b_if_ge, ↓n_iinc, ↓b_iload, ↓b_iload_n, ↓n_istore, ↓n_isub, ↓b_sipush, ↓b_zret, ↓ldI_hit, ↓ldI_skip, ↓ldL_hit, ↓ldL_skip, ↓ldA_hit, ↓ldA_skip, ↓ldelK_nil, ↓ldelK_hit, ↓ldelK_skipI, ↓ldelK_skipA, ↓ldelK_skipL, qP1_X9_cell, qP1_X9_goods, qP1_X9_has, qP1_X9_less, qP1_X9_works, ↓bI_b, bI_0, nnot, lget_hit, lget_skip, ldel_nil, ldel_hit, ldel_skipI, ldel_skipA, ldel_skipL, ldel2_nil, ldel2_hit, ldel2_hit2, ldel2_skipI, ldel2_skipA, ldel2_skipL, vc_0, mCat_nil, mCat_I, mCat_L, mCat_A, mRcv_A, mArg_nil, mArg_I, mArg_L, mArg_A, tsg, swt_nil, swt_cons, lkw_nil, lkw_cons, ↓reduceIte, Nat.reduceAdd, Nat.reduceEqDiff, Nat.reduceLeDiff, Nat.reduceMul, true_and, and_true, and_self, List.mem_cons, List.not_mem_nil, or_false, or_self, false_or, true_implies, false_implies, not_true_eq_false, not_false_eq_true, nI00, nI10, nI01, nI11, forall_const, implies_true, hbt])
                (try simp (disch := omega) only [ixq, ixz, sb_in, sb_in0, upI_sb, upI_sb0, sb_out, nI_add, nI_mul, nI_subq, Nat.zero_add, forall_eq, u2_at, u2_row, upd_at, upd_ne, nI0b, nI1b, nI00, nI10, nI01, nI11, true_implies, false_implies, not_true_eq_false, not_false_eq_true, and_true, true_and, implies_true, q0, q1, nI_lq, f7, f10, f8])
                refine ⟨fun _ => ?_, fun z => absurd hw1 z⟩
                exact vc_back P1_ok ok_X9_isSteady [3,18,71] 8 t_X9_isSteady_18 (i2) (by simp) (rfl)
              · have i2 := fin (nI (v0 + e - min (v0 + e) l)) (fun z => absurd z hbit) (fun _ => ⟨_, by omega, rfl, by rw [vs]; exact st.2 hbit⟩)
                clear fin ihn ih
                (try simp only [↓w_X9_isSteady_0, ↓w_X9_isSteady_3, ↓w_X9_isSteady_18, ↓w_X9_isSteady_71, ↓w_X9_isSteady_102, ↓w_X9_isSteady_118, ↓w_X9_isSteady_149, ↓w_X9_isSteady_155, ↓w_X9_isSteady_161, ↓v_X9_isSteady_3, ↓v_X9_isSteady_18, ↓v_X9_isSteady_71, ↓v_X9_isSteady_102, ↓v_X9_isSteady_118, ↓v_X9_isSteady_149, ↓v_X9_isSteady_155, ↓v_X9_isSteady_161, ↓b_aload_n, ↓b_bipush, ↓b_callS2_1, ↓b_callV1_1, ↓b_getA, ↓b_goto, ↓b_iadd, ↓b_iaload, ↓b_ic_ge, ↓b_ic_ne, ↓b_iconst, ↓b_if_eq, ↓b_if_ge, ↓n_iinc, ↓b_iload, ↓b_iload_n, ↓n_istore, ↓n_isub, ↓b_sipush, ↓b_zret, ↓ldI_hit, ↓ldI_skip, ↓ldL_hit, ↓ldL_skip, ↓ldA_hit, ↓ldA_skip, ↓ldelK_nil, ↓ldelK_hit, ↓ldelK_skipI, ↓ldelK_skipA, ↓ldelK_skipL, qP1_X9_cell, qP1_X9_goods, qP1_X9_has, qP1_X9_less, qP1_X9_works, ↓bI_b, bI_0, nnot, lget_hit, lget_skip, ldel_nil, ldel_hit, ldel_skipI, ldel_skipA, ldel_skipL, ldel2_nil, ldel2_hit, ldel2_hit2, ldel2_skipI, ldel2_skipA, ldel2_skipL, vc_0, mCat_nil, mCat_I, mCat_L, mCat_A, mRcv_A, mArg_nil, mArg_I, mArg_L, mArg_A, tsg, swt_nil, swt_cons, lkw_nil, lkw_cons, ↓reduceIte, Nat.reduceAdd, Nat.reduceEqDiff, Nat.reduceLeDiff, Nat.reduceMul, true_and, and_true, and_self, List.mem_cons, List.not_mem_nil, or_false, or_self, false_or, true_implies, false_implies, not_true_eq_false, not_false_eq_true, nI00, nI10, nI01, nI11, forall_const, implies_true, hbt])
                (try simp (disch := omega) only [ixq, ixz, sb_in, sb_in0, upI_sb, upI_sb0, sb_out, nI_add, nI_mul, nI_subq, Nat.zero_add, forall_eq, u2_at, u2_row, upd_at, upd_ne, nI0b, nI1b, nI00, nI10, nI01, nI11, true_implies, false_implies, not_true_eq_false, not_false_eq_true, and_true, true_and, implies_true, q0, q1, nI_lq, f7, f10, f8, mn1])
                refine ⟨fun z => absurd z hw1, fun _ => ?_⟩
                exact vc_back P1_ok ok_X9_isSteady [3,18,71] 8 t_X9_isSteady_18 (i2) (by simp) (rfl)
          have k71' := k71 4
          by_cases hat1 : nI w = at'
          · by_cases hat2 : nI g = good
            · have fA : nI v0 + Q 2 (230 + (w * 6 + g)) + more = nI (v0 + e) := by
                rw [f11, Int32.add_assoc, ← (h11 w (by omega) g (by omega)).1 ⟨hat1, hat2⟩, he, nI_add]
              have a1 := eq_true hat1
              have a2 := eq_true hat2
              (try simp only [↓w_X9_isSteady_0, ↓w_X9_isSteady_3, ↓w_X9_isSteady_18, ↓w_X9_isSteady_102, ↓w_X9_isSteady_118, ↓w_X9_isSteady_149, ↓w_X9_isSteady_155, ↓w_X9_isSteady_161, ↓v_X9_isSteady_3, ↓v_X9_isSteady_18, ↓v_X9_isSteady_71, ↓v_X9_isSteady_102, ↓v_X9_isSteady_118, ↓v_X9_isSteady_149, ↓v_X9_isSteady_155, ↓v_X9_isSteady_161, ↓b_aload_n, ↓b_bipush, ↓b_callS2_1, ↓b_callV1_1, ↓b_getA, ↓b_goto, ↓b_iadd, ↓b_iaload, ↓b_ic_ge, ↓b_ic_ne, ↓b_iconst, ↓b_if_eq, ↓b_if_ge, ↓n_iinc, ↓b_iload, ↓b_iload_n, ↓n_istore, ↓n_isub, ↓b_sipush, ↓b_zret, ↓ldI_hit, ↓ldI_skip, ↓ldL_hit, ↓ldL_skip, ↓ldA_hit, ↓ldA_skip, ↓ldelK_nil, ↓ldelK_hit, ↓ldelK_skipI, ↓ldelK_skipA, ↓ldelK_skipL, qP1_X9_cell, qP1_X9_goods, qP1_X9_has, qP1_X9_less, qP1_X9_works, ↓bI_b, bI_0, nnot, lget_hit, lget_skip, ldel_nil, ldel_hit, ldel_skipI, ldel_skipA, ldel_skipL, ldel2_nil, ldel2_hit, ldel2_hit2, ldel2_skipI, ldel2_skipA, ldel2_skipL, vc_0, mCat_nil, mCat_I, mCat_L, mCat_A, mRcv_A, mArg_nil, mArg_I, mArg_L, mArg_A, tsg, swt_nil, swt_cons, lkw_nil, lkw_cons, ↓reduceIte, Nat.reduceAdd, Nat.reduceEqDiff, Nat.reduceLeDiff, Nat.reduceMul, true_and, and_true, and_self, List.mem_cons, List.not_mem_nil, or_false, or_self, false_or, true_implies, false_implies, not_true_eq_false, not_false_eq_true, nI00, nI10, nI01, nI11, forall_const, implies_true, a1, a2])
              (try simp (disch := omega) only [ixq, ixz, sb_in, sb_in0, upI_sb, upI_sb0, sb_out, nI_add, nI_mul, nI_subq, Nat.zero_add, forall_eq, u2_at, u2_row, upd_at, upd_ne, nI0b, nI1b, nI00, nI10, nI01, nI11, true_implies, false_implies, not_true_eq_false, not_false_eq_true, and_true, true_and, implies_true, q0, q1, nI_lq, fA])
              refine ⟨fun z => by omega, fun _ => ?_⟩
              exact k71 _
            · have fA : Q 2 (230 + (w * 6 + g)) = nI e := by rw [f11, ← (h11 w (by omega) g (by omega)).2 (fun z => hat2 z.2), he]
              have a1 := eq_true hat1
              have a2 := eq_false hat2
              (try simp only [↓w_X9_isSteady_0, ↓w_X9_isSteady_3, ↓w_X9_isSteady_18, ↓w_X9_isSteady_102, ↓w_X9_isSteady_118, ↓w_X9_isSteady_149, ↓w_X9_isSteady_155, ↓w_X9_isSteady_161, ↓v_X9_isSteady_3, ↓v_X9_isSteady_18, ↓v_X9_isSteady_71, ↓v_X9_isSteady_102, ↓v_X9_isSteady_118, ↓v_X9_isSteady_149, ↓v_X9_isSteady_155, ↓v_X9_isSteady_161, ↓b_aload_n, ↓b_bipush, ↓b_callS2_1, ↓b_callV1_1, ↓b_getA, ↓b_goto, ↓b_iadd, ↓b_iaload, ↓b_ic_ge, ↓b_ic_ne, ↓b_iconst, ↓b_if_eq, ↓b_if_ge, ↓n_iinc, ↓b_iload, ↓b_iload_n, ↓n_istore, ↓n_isub, ↓b_sipush, ↓b_zret, ↓ldI_hit, ↓ldI_skip, ↓ldL_hit, ↓ldL_skip, ↓ldA_hit, ↓ldA_skip, ↓ldelK_nil, ↓ldelK_hit, ↓ldelK_skipI, ↓ldelK_skipA, ↓ldelK_skipL, qP1_X9_cell, qP1_X9_goods, qP1_X9_has, qP1_X9_less, qP1_X9_works, ↓bI_b, bI_0, nnot, lget_hit, lget_skip, ldel_nil, ldel_hit, ldel_skipI, ldel_skipA, ldel_skipL, ldel2_nil, ldel2_hit, ldel2_hit2, ldel2_skipI, ldel2_skipA, ldel2_skipL, vc_0, mCat_nil, mCat_I, mCat_L, mCat_A, mRcv_A, mArg_nil, mArg_I, mArg_L, mArg_A, tsg, swt_nil, swt_cons, lkw_nil, lkw_cons, ↓reduceIte, Nat.reduceAdd, Nat.reduceEqDiff, Nat.reduceLeDiff, Nat.reduceMul, true_and, and_true, and_self, List.mem_cons, List.not_mem_nil, or_false, or_self, false_or, true_implies, false_implies, not_true_eq_false, not_false_eq_true, nI00, nI10, nI01, nI11, forall_const, implies_true, a1, a2])
              (try simp (disch := omega) only [ixq, ixz, sb_in, sb_in0, upI_sb, upI_sb0, sb_out, nI_add, nI_mul, nI_subq, Nat.zero_add, forall_eq, u2_at, u2_row, upd_at, upd_ne, nI0b, nI1b, nI00, nI10, nI01, nI11, true_implies, false_implies, not_true_eq_false, not_false_eq_true, and_true, true_and, implies_true, q0, q1, nI_lq, fA])
              refine ⟨fun z => by omega, fun _ => ?_⟩
              exact vc_back P1_ok ok_X9_isSteady [3,18,71] 8 t_X9_isSteady_71 (k71') (by simp) (rfl)
          · have fA : Q 2 (230 + (w * 6 + g)) = nI e := by rw [f11, ← (h11 w (by omega) g (by omega)).2 (fun z => hat1 z.1), he]
            have a1 := eq_false hat1
            (try simp only [↓w_X9_isSteady_0, ↓w_X9_isSteady_3, ↓w_X9_isSteady_18, ↓w_X9_isSteady_102, ↓w_X9_isSteady_118, ↓w_X9_isSteady_149, ↓w_X9_isSteady_155, ↓w_X9_isSteady_161, ↓v_X9_isSteady_3, ↓v_X9_isSteady_18, ↓v_X9_isSteady_71, ↓v_X9_isSteady_102, ↓v_X9_isSteady_118, ↓v_X9_isSteady_149, ↓v_X9_isSteady_155, ↓v_X9_isSteady_161, ↓b_aload_n, ↓b_bipush, ↓b_callS2_1, ↓b_callV1_1, ↓b_getA, ↓b_goto, ↓b_iadd, ↓b_iaload, ↓b_ic_ge, ↓b_ic_ne, ↓b_iconst, ↓b_if_eq, ↓b_if_ge, ↓n_iinc, ↓b_iload, ↓b_iload_n, ↓n_istore, ↓n_isub, ↓b_sipush, ↓b_zret, ↓ldI_hit, ↓ldI_skip, ↓ldL_hit, ↓ldL_skip, ↓ldA_hit, ↓ldA_skip, ↓ldelK_nil, ↓ldelK_hit, ↓ldelK_skipI, ↓ldelK_skipA, ↓ldelK_skipL, qP1_X9_cell, qP1_X9_goods, qP1_X9_has, qP1_X9_less, qP1_X9_works, ↓bI_b, bI_0, nnot, lget_hit, lget_skip, ldel_nil, ldel_hit, ldel_skipI, ldel_skipA, ldel_skipL, ldel2_nil, ldel2_hit, ldel2_hit2, ldel2_skipI, ldel2_skipA, ldel2_skipL, vc_0, mCat_nil, mCat_I, mCat_L, mCat_A, mRcv_A, mArg_nil, mArg_I, mArg_L, mArg_A, tsg, swt_nil, swt_cons, lkw_nil, lkw_cons, ↓reduceIte, Nat.reduceAdd, Nat.reduceEqDiff, Nat.reduceLeDiff, Nat.reduceMul, true_and, and_true, and_self, List.mem_cons, List.not_mem_nil, or_false, or_self, false_or, true_implies, false_implies, not_true_eq_false, not_false_eq_true, nI00, nI10, nI01, nI11, forall_const, implies_true, a1])
            (try simp (disch := omega) only [ixq, ixz, sb_in, sb_in0, upI_sb, upI_sb0, sb_out, nI_add, nI_mul, nI_subq, Nat.zero_add, forall_eq, u2_at, u2_row, upd_at, upd_ne, nI0b, nI1b, nI00, nI10, nI01, nI11, true_implies, false_implies, not_true_eq_false, not_false_eq_true, and_true, true_and, implies_true, q0, q1, nI_lq, fA])
            refine ⟨fun z => by omega, fun _ => ?_⟩
            exact vc_back P1_ok ok_X9_isSteady [3,18,71] 8 t_X9_isSteady_71 (k71') (by simp) (rfl)
      (try simp only [↓w_X9_isSteady_0, ↓w_X9_isSteady_3, ↓w_X9_isSteady_71, ↓w_X9_isSteady_102, ↓w_X9_isSteady_118, ↓w_X9_isSteady_149, ↓w_X9_isSteady_155, ↓w_X9_isSteady_161, ↓v_X9_isSteady_3, ↓v_X9_isSteady_18, ↓v_X9_isSteady_71, ↓v_X9_isSteady_102, ↓v_X9_isSteady_118, ↓v_X9_isSteady_149, ↓v_X9_isSteady_155, ↓v_X9_isSteady_161, ↓b_aload_n, ↓b_bipush, ↓b_callS2_1, ↓b_callV1_1, ↓b_getA, ↓b_goto, ↓b_iadd, ↓b_iaload, ↓b_ic_ge, ↓b_ic_ne, ↓b_iconst, ↓b_if_eq, ↓b_if_ge, ↓n_iinc, ↓b_iload, ↓b_iload_n, ↓n_istore, ↓n_isub, ↓b_sipush, ↓b_zret, ↓ldI_hit, ↓ldI_skip, ↓ldL_hit, ↓ldL_skip, ↓ldA_hit, ↓ldA_skip, ↓ldelK_nil, ↓ldelK_hit, ↓ldelK_skipI, ↓ldelK_skipA, ↓ldelK_skipL, qP1_X9_cell, qP1_X9_goods, qP1_X9_has, qP1_X9_less, qP1_X9_works, ↓bI_b, bI_0, nnot, lget_hit, lget_skip, ldel_nil, ldel_hit, ldel_skipI, ldel_skipA, ldel_skipL, ldel2_nil, ldel2_hit, ldel2_hit2, ldel2_skipI, ldel2_skipA, ldel2_skipL, vc_0, mCat_nil, mCat_I, mCat_L, mCat_A, mRcv_A, mArg_nil, mArg_I, mArg_L, mArg_A, tsg, swt_nil, swt_cons, lkw_nil, lkw_cons, ↓reduceIte, Nat.reduceAdd, Nat.reduceEqDiff, Nat.reduceLeDiff, Nat.reduceMul, true_and, and_true, and_self, List.mem_cons, List.not_mem_nil, or_false, or_self, false_or, true_implies, false_implies, not_true_eq_false, not_false_eq_true, nI00, nI10, nI01, nI11, forall_const, implies_true])
      (try simp (disch := omega) only [ixq, ixz, sb_in, sb_in0, upI_sb, upI_sb0, sb_out, nI_add, nI_mul, nI_subq, Nat.zero_add, forall_eq, u2_at, u2_row, upd_at, upd_ne, nI0b, nI1b, nI00, nI10, nI01, nI11, true_implies, false_implies, not_true_eq_false, not_false_eq_true, and_true, true_and, implies_true, q0, q1, nI_lq])
      refine ⟨fun z => by omega, fun _ => ?_⟩
      exact inner W 0 (nI 0) (by omega) (fun _ => ⟨0, by omega, rfl, rfl⟩) (fun w' hw' => absurd hw' (Nat.not_lt_zero w'))
  (try simp only [↓w_X9_isSteady_0, ↓w_X9_isSteady_18, ↓w_X9_isSteady_71, ↓w_X9_isSteady_102, ↓w_X9_isSteady_118, ↓w_X9_isSteady_149, ↓w_X9_isSteady_155, ↓w_X9_isSteady_161, ↓v_X9_isSteady_3, ↓v_X9_isSteady_18, ↓v_X9_isSteady_71, ↓v_X9_isSteady_102, ↓v_X9_isSteady_118, ↓v_X9_isSteady_149, ↓v_X9_isSteady_155, ↓v_X9_isSteady_161, ↓b_aload_n, ↓b_bipush, ↓b_callS2_1, ↓b_callV1_1, ↓b_getA, ↓b_goto, ↓b_iadd, ↓b_iaload, ↓b_ic_ge, ↓b_ic_ne, ↓b_iconst, ↓b_if_eq, ↓b_if_ge, ↓n_iinc, ↓b_iload, ↓b_iload_n, ↓n_istore, ↓n_isub, ↓b_sipush, ↓b_zret, ↓ldI_hit, ↓ldI_skip, ↓ldL_hit, ↓ldL_skip, ↓ldA_hit, ↓ldA_skip, ↓ldelK_nil, ↓ldelK_hit, ↓ldelK_skipI, ↓ldelK_skipA, ↓ldelK_skipL, qP1_X9_cell, qP1_X9_goods, qP1_X9_has, qP1_X9_less, qP1_X9_works, ↓bI_b, bI_0, nnot, lget_hit, lget_skip, ldel_nil, ldel_hit, ldel_skipI, ldel_skipA, ldel_skipL, ldel2_nil, ldel2_hit, ldel2_hit2, ldel2_skipI, ldel2_skipA, ldel2_skipL, vc_0, mCat_nil, mCat_I, mCat_L, mCat_A, mRcv_A, mArg_nil, mArg_I, mArg_L, mArg_A, tsg, swt_nil, swt_cons, lkw_nil, lkw_cons, ↓reduceIte, Nat.reduceAdd, Nat.reduceEqDiff, Nat.reduceLeDiff, Nat.reduceMul, true_and, and_true, and_self, List.mem_cons, List.not_mem_nil, or_false, or_self, false_or, true_implies, false_implies, not_true_eq_false, not_false_eq_true, nI00, nI10, nI01, nI11, forall_const, implies_true])
  (try simp (disch := omega) only [ixq, ixz, sb_in, sb_in0, upI_sb, upI_sb0, sb_out, nI_add, nI_mul, nI_subq, Nat.zero_add, forall_eq, u2_at, u2_row, upd_at, upd_ne, nI0b, nI1b, nI00, nI10, nI01, nI11, true_implies, false_implies, not_true_eq_false, not_false_eq_true, and_true, true_and, implies_true])
  exact outer G 0 (by omega) (fun w hw g' hg' => absurd hg' (Nat.not_lt_zero g'))
end MSr
