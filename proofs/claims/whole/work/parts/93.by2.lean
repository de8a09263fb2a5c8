def frK (Q Q' : Bk) : Prop := (∀ k, k ≠ 0 → k < 10 ∨ 14 < k → Q' k = Q k) ∧ ∀ j, (0 < j ∧ j < 27) ∨ 29 < j → Q' 0 j = Q 0 j
theorem frK_t {Q Q1 Q2 : Bk} (h : frK Q Q1) (h2 : frK Q1 Q2) : frK Q Q2 := ⟨fun k a b => (h2.1 k a b).trans (h.1 k a b), fun j hj => (h2.2 j hj).trans (h.2 j hj)⟩
theorem frK_r {Q : Bk} : frK Q Q := ⟨fun _ _ _ => rfl, fun _ _ => rfl⟩
section MBy
variable {X : mC} {h x m : Nat} {μ : Mem} {K : MV → Mem → Prop} {Q B P : Bk} {G W : Nat} {N : Nat → Int64}
theorem lay_k {k : Nat} (h0 : k ≠ 0) (h10 : k ≠ 10) : layF Q k = Q k := by
  unfold layF
  rw [u2_row h0, u2_row h0, u2_row h0, up_row h10]
theorem lay_0 {j : Nat} (hj : j < 27 ∨ 29 < j) : layF Q 0 j = Q 0 j := by
  unfold layF
  rw [u2_at, upd_ne (by omega), u2_at, upd_ne (by omega), u2_at, upd_ne (by omega), up_row (by decide)]
theorem lay_f : layF Q 0 27 = nI 0 ∧ layF Q 0 28 = -1 ∧ layF Q 0 29 = nI 0 := by
  unfold layF
  refine ⟨?_, ?_, ?_⟩ <;> simp (disch := omega) only [u2_at, upd_at, upd_ne]
theorem lay_10 {j : Nat} (hj : j < 278) : layF Q 10 j = Q 2 j := by
  unfold layF
  rw [u2_row (by decide), u2_row (by decide), u2_row (by decide), up_at]
  exact cpR_in hj
theorem frK_lay : frK Q (layF Q) := ⟨fun k h0 hk => lay_k h0 (by omega), fun j hj => lay_0 (by omega)⟩
theorem PL_acts {q : Nat → Int32} (g6 : G ≤ 6) (w8 : W ≤ 8) (hP : PL G W P q) : ∃ L, L ≤ 20 ∧ q 278 = nI L ∧ ∀ k, k < L → q (279 + 5 * k) = nI 1 → ∃ w g, w < 8 ∧ g < 6 ∧ q (279 + 5 * k + 1) = nI w ∧ q (279 + 5 * k + 2) = nI g := by
  obtain ⟨l, h1, h2, h3, h4⟩ := hP
  refine ⟨l, h1, h3, fun k hk e => ?_⟩
  rcases h4 k hk with ⟨_, b, _⟩ | ⟨_, _, w, g, a, c1, c2, _, c4, c5, _⟩
  · have b : q (279 + 5 * k) = nI 0 := b
    rw [b] at e
    exact absurd e (by decide)
  · exact ⟨w, g, by omega, by omega, c4, c5⟩
theorem c_runG {fr : Nat → Int32} {n : Nat} (hn : n ≤ 200) (hG : Q 10 0 = nI G) (g6 : G ≤ 6) (hW : Q 10 1 = nI W) (w8 : W ≤ 8) (hF : FB G W (Q 10) B) (hP : PL G W P (Q 2)) (hp : Q 0 29 = 0)
    (hfr : ∀ k, k < n → ∀ w, w < W → ((¬ Q 0 27 >>> (nI w &&& 31) &&& nI 1 = nI 1) ∧ (¬ nI k / nI 12 = Q 0 28) ↔ fr k >>> (nI w &&& 31) &&& nI 1 = nI 1))
    (hK : ∀ Q', frK Q Q' → K (.inl (totF W B (runC G W B fr (fun _ _ => nI 0) n))) (sb μ m 21 Q')) : mMet X (h + 5) m_X9_run [.inr (.inr (8, 0, m)), .inl (nI n)] (sb μ m 21 Q) K := by
  obtain ⟨L, l1, l2, l3⟩ := PL_acts g6 w8 hP
  refine c_runR (fr := fr) (by omega) hG g6 hW w8 l2 l1 l3 hp hfr ?_
  have hb := run_rel (V := vw 11 0 Q) (R := fun _ _ => nI 0) (fr := fr) hF g6 w8 n (by omega)
  rw [made_rel w8 hb]
  generalize runV G W (Q 10) fr n (vw 11 0 Q) = V
  exact hK _ ⟨fun k h0 hk => rb_else (by omega) (by omega) (by omega) (by omega), fun j _ => by rw [rb_else (by decide) (by decide) (by decide) (by decide)]⟩
theorem c_madeBy {set : Int32} {n : Nat} (hn : n ≤ 200) (hR : RBB G W (Q 2) N B) (hP : PL G W P (Q 2)) (hK : ∀ Q', frK Q Q' → K (.inl (totF W B (runC G W B (fun _ => set) (fun _ _ => nI 0) n))) (sb μ m 21 Q')) : mMet X (h + 6) m_X9_madeBy [.inr (.inr (8, 0, m)), .inl set, .inl (nI n)] (sb μ m 21 Q) K := by
  have g6 := hR.g6
  have w8 := hR.w8
  have e2 : layF Q 2 = Q 2 := lay_k (by decide) (by decide)
  have q1 : layF Q 2 1 = nI W := by rw [e2]; exact hR.q1
  have hF : FB G W (layF Q 10) B := RBB_FB (RBB_eq hR eqB_r (fun j hj => lay_10 hj) (fun _ _ => rfl))
  (refine vc_met2 P1_ok ok_X9_madeBy cm_X9_madeBy [] 6 t_X9_madeBy_0 (Nat.le_of_ble_eq_true rfl) ?_; simp only [mArg_nil, mArg_I, mArg_L, mArg_A, Nat.reduceAdd])
  simp only [↓w_X9_madeBy_0, ↓b_aload_n, ↓b_callV1_0, ↓b_callV1_1, ↓b_callV2_1, ↓b_iand, ↓b_iconst, ↓b_iload_n, ↓b_iret, ↓b_ishl, ↓n_isub, ↓b_ixor, ↓n_putI, ↓ldI_hit, ↓ldI_skip, ↓ldL_hit, ↓ldL_skip, ↓ldA_hit, ↓ldA_skip, ↓ldelK_nil, ↓ldelK_hit, ↓ldelK_skipI, ↓ldelK_skipA, ↓ldelK_skipL, qP1_X9_layRule, qP1_X9_run, qP1_X9_works, ↓bI_b, bI_0, nnot, lget_hit, lget_skip, ldel_nil, ldel_hit, ldel_skipI, ldel_skipA, ldel_skipL, ldel2_nil, ldel2_hit, ldel2_hit2, ldel2_skipI, ldel2_skipA, ldel2_skipL, vc_0, mCat_nil, mCat_I, mCat_L, mCat_A, mRcv_A, mArg_nil, mArg_I, mArg_L, mArg_A, tsg, swt_nil, swt_cons, lkw_nil, lkw_cons, ↓reduceIte, Nat.reduceAdd, Nat.reduceEqDiff, Nat.reduceLeDiff, Nat.reduceMul, true_and, and_true, and_self, List.mem_cons, List.not_mem_nil, or_false, or_self, false_or, true_implies, false_implies, not_true_eq_false, not_false_eq_true, nI00, nI10, nI01, nI11, forall_const, implies_true]
  refine c_layRule ?_
  simp (disch := omega) only [ixq, ixz, sb_in, sb_in0, upI_sb, upI_sb0, sb_out, nI_add, nI_mul, nI_subq, Nat.zero_add, forall_eq, u2_at, u2_row, upd_at, upd_ne, nI0b, nI1b, nI00, nI10, nI01, nI11, true_implies, false_implies, not_true_eq_false, not_false_eq_true, and_true, true_and, implies_true, q1]
  refine c_runG (B := B) (P := P) (fr := fun _ => set) hn (by rw [u2_row (by decide), lay_10 (by omega)]; exact hR.q0) g6 (by rw [u2_row (by decide), lay_10 (by omega)]; exact hR.q1) w8 (by rw [u2_row (by decide)]; exact hF) (by rw [u2_row (by decide), e2]; exact hP) (by rw [u2_at, upd_ne (by decide)]; exact lay_f.2.2) (fun k hk w hw => ?_) (fun Q' f' => ?_)
  · rw [u2_at, upd_at, upd_ne (by decide), lay_f.2.1, bit_st w8 hw, pk_div (by omega) (by decide) (by decide), nI_m1 (by omega)]
    exact ⟨fun z => z.1, fun z => ⟨z, id⟩⟩
  · (try simp only [↓w_X9_madeBy_0, ↓b_aload_n, ↓b_callV1_0, ↓b_callV1_1, ↓b_callV2_1, ↓b_iand, ↓b_iconst, ↓b_iload_n, ↓b_iret, ↓b_ishl, ↓n_isub, ↓b_ixor, ↓n_putI, ↓ldI_hit, ↓ldI_skip, ↓ldL_hit, ↓ldL_skip, ↓ldA_hit, ↓ldA_skip, ↓ldelK_nil, ↓ldelK_hit, ↓ldelK_skipI, ↓ldelK_skipA, ↓ldelK_skipL, qP1_X9_layRule, qP1_X9_run, qP1_X9_works, ↓bI_b, bI_0, nnot, lget_hit, lget_skip, ldel_nil, ldel_hit, ldel_skipI, ldel_skipA, ldel_skipL, ldel2_nil, ldel2_hit, ldel2_hit2, ldel2_skipI, ldel2_skipA, ldel2_skipL, vc_0, mCat_nil, mCat_I, mCat_L, mCat_A, mRcv_A, mArg_nil, mArg_I, mArg_L, mArg_A, tsg, swt_nil, swt_cons, lkw_nil, lkw_cons, ↓reduceIte, Nat.reduceAdd, Nat.reduceEqDiff, Nat.reduceLeDiff, Nat.reduceMul, true_and, and_true, and_self, List.mem_cons, List.not_mem_nil, or_false, or_self, false_or, true_implies, false_implies, not_true_eq_false, not_false_eq_true, nI00, nI10, nI01, nI11, forall_const, implies_true]); (try simp (disch := omega) only [ixq, ixz, sb_in, sb_in0, upI_sb, upI_sb0, sb_out, nI_add, nI_mul, nI_subq, Nat.zero_add, forall_eq, u2_at, u2_row, upd_at, upd_ne, nI0b, nI1b, nI00, nI10, nI01, nI11, true_implies, false_implies, not_true_eq_false, not_false_eq_true, and_true, true_and, implies_true])
    refine hK Q' (frK_t (frK_t frK_lay ⟨fun k h0 _ => u2_row h0, fun j hj => by rw [u2_at, upd_ne (by omega)]⟩) f')
theorem set_iff {s : Int32} (w8 : W ≤ 8) : (s ≤ nI 1 <<< (nI W &&& 31) - nI 1) = (s < nI 1 <<< (nI W &&& 31)) := by
  have key : ∀ k, 1 ≤ k → k ≤ 256 → (s ≤ nI (k - 1)) = (s < nI k) := by
    intro k h1 h2
    apply propext
    rw [Int32.le_iff_toInt_le, Int32.lt_iff_toInt_lt, nI_toInt (by omega), nI_toInt (by omega)]
    omega
  have hc : W = 0 ∨ W = 1 ∨ W = 2 ∨ W = 3 ∨ W = 4 ∨ W = 5 ∨ W = 6 ∨ W = 7 ∨ W = 8 := by omega
  rcases hc with rfl | rfl | rfl | rfl | rfl | rfl | rfl | rfl | rfl
  · exact key 1 (by omega) (by omega)
  · exact key 2 (by omega) (by omega)
  · exact key 4 (by omega) (by omega)
  · exact key 8 (by omega) (by omega)
  · exact key 16 (by omega) (by omega)
  · exact key 32 (by omega) (by omega)
  · exact key 64 (by omega) (by omega)
  · exact key 128 (by omega) (by omega)
  · exact key 256 (by omega) (by omega)
end MBy
