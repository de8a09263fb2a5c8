theorem byte_k {n : Int32} {s s' : Int32} {k : Nat} (hk : k = 0 ∨ k = 8 ∨ k = 16 ∨ k = 24) (hs : (s.toBitVec.smod 32).toNat = k) (hs' : ((s'.toUInt32 &&& Int32.toUInt32 31).toBitVec % 32).toNat = k) : (n.toUInt32 >>> (s'.toUInt32 &&& Int32.toUInt32 31)).toInt32 &&& nI 255 = (n >>> s) &&& nI 255 := by
  rw [pk_and _ 8 (by decide), pk_and _ 8 (by decide), pk_ushr n s' k hs']
  have h1 := pk_shr n s k hs
  have e : ∀ y : Int32, (y.toBitVec.toNat : Int) = y.toInt % 4294967296 := fun y => by
    have h : y.toInt = y.toBitVec.toInt := rfl
    rw [h, BitVec.toInt_eq_toNat_cond]
    have := y.toBitVec.isLt
    split <;> omega
  have e1 := e (n >>> s)
  have e2 := e n
  rw [h1] at e1
  congr 1
  have h2 : n.toInt >>> k = n.toInt / (2 ^ k : Int) := Int.shiftRight_eq_div_pow _ _
  rw [h2] at e1
  have hb1 := n.toBitVec.isLt
  generalize n.toBitVec.toNat = a at e2 hb1 ⊢
  generalize (n >>> s).toBitVec.toNat = b at e1 ⊢
  generalize n.toInt = c at e1 e2
  rcases hk with rfl | rfl | rfl | rfl
  · have p : (2 : Int) ^ 0 = 1 := by decide
    have q : (2 : Nat) ^ 0 = 1 := by decide
    rw [p] at e1
    rw [q]
    omega
  · have p : (2 : Int) ^ 8 = 256 := by decide
    have q : (2 : Nat) ^ 8 = 256 := by decide
    rw [p] at e1
    rw [q]
    omega
  · have p : (2 : Int) ^ 16 = 65536 := by decide
    have q : (2 : Nat) ^ 16 = 65536 := by decide
    have r : (2 : Nat) ^ 8 = 256 := by decide
    rw [p] at e1
    rw [q, r]
    omega
  · have p : (2 : Int) ^ 24 = 16777216 := by decide
    have q : (2 : Nat) ^ 24 = 16777216 := by decide
    have r : (2 : Nat) ^ 8 = 256 := by decide
    rw [p] at e1
    rw [q, r]
    omega
section MFe
variable {X : mC} {h x m : Nat} {μ : Mem} {K : MV → Mem → Prop} {Q : Bk} {L : Nat}
theorem c_comeR {n : Int32} (hL : Q 0 2 = nI L) (hL4 : L + 4 ≤ 940) (hK : K (.inl 0) (sb μ m 21 (fo 4 (put4F L n) Q))) : mMet X (h + 1) m_X9_come [.inr (.inr (8, 0, m)), .inl n] (sb μ m 21 Q) K := by
  have len : ∀ k, fo k (put4F L n) Q 0 2 = nI (L + k) := by
    intro k
    induction k with
    | zero => exact hL
    | succ k ih =>
      rw [fo_s]
      unfold put4F
      rw [u2_at, upd_at]
      rfl
  (refine vc_met2 P0_ok ok_X9_come cm_X9_come [3] 6 t_X9_come_0 (Nat.le_of_ble_eq_true rfl) ?_; simp only [mArg_nil, mArg_I, mArg_L, mArg_A, Nat.reduceAdd])
  simp only [↓w_X9_come_0, ↓w_X9_come_39, ↓v_X9_come_3, ↓v_X9_come_39, ↓b_aload_n, ↓b_bipush, ↓b_dupA, ↓b_dupI, ↓b_getA, ↓b_getI, ↓b_goto, ↓b_iadd, ↓b_iand, ↓n_iastore, ↓b_iconst, ↓b_if_lt, ↓n_iinc, ↓b_iload_n, ↓n_istore_n, ↓b_iushr, ↓n_putI, ↓b_sipush, ↓b_vret, ↓ldI_hit, ↓ldI_skip, ↓ldL_hit, ↓ldL_skip, ↓ldA_hit, ↓ldA_skip, ↓ldelK_nil, ↓ldelK_hit, ↓ldelK_skipI, ↓ldelK_skipA, ↓ldelK_skipL, lget_hit, lget_skip, ldel_nil, ldel_hit, ldel_skipI, ldel_skipA, ldel_skipL, ldel2_nil, ldel2_hit, ldel2_hit2, ldel2_skipI, ldel2_skipA, ldel2_skipL, vc_0, mCall_P0, mCat_nil, mCat_I, mCat_L, mCat_A, mRcv_A, mArg_nil, mArg_I, mArg_L, mArg_A, tsg, swt_nil, swt_cons, lkw_nil, lkw_cons, ↓reduceIte, Nat.reduceAdd, Nat.reduceEqDiff, Nat.reduceLeDiff, Nat.reduceMul, true_and, and_true, and_self, List.mem_cons, List.not_mem_nil, or_false, or_self, false_or, true_implies, false_implies, not_true_eq_false, not_false_eq_true, nI00, nI10, nI01, nI11, forall_const, implies_true]
  rintro _ rfl
  have key := loop_up (fun k => bb X P0 m_X9_come (h) K (vc X P0 m_X9_come (h) K k_X9_come [3] 6) s_X9_come_3 [(2, .inl (if k ≤ 3 then nI (24 - 8 * k) else -8)), (0, .inr (.inr (8, 0, m))), (1, .inl n)] [] (sb μ m 21 (fo k (put4F L n) Q))) 4 ?_ ?_
  · exact key
  · simp only [↓w_X9_come_0, ↓w_X9_come_3, ↓w_X9_come_39, ↓v_X9_come_3, ↓v_X9_come_39, ↓b_aload_n, ↓b_bipush, ↓b_dupA, ↓b_dupI, ↓b_getA, ↓b_getI, ↓b_goto, ↓b_iadd, ↓b_iand, ↓n_iastore, ↓b_iconst, ↓b_if_lt, ↓n_iinc, ↓b_iload_n, ↓n_istore_n, ↓b_iushr, ↓n_putI, ↓b_sipush, ↓b_vret, ↓ldI_hit, ↓ldI_skip, ↓ldL_hit, ↓ldL_skip, ↓ldA_hit, ↓ldA_skip, ↓ldelK_nil, ↓ldelK_hit, ↓ldelK_skipI, ↓ldelK_skipA, ↓ldelK_skipL, lget_hit, lget_skip, ldel_nil, ldel_hit, ldel_skipI, ldel_skipA, ldel_skipL, ldel2_nil, ldel2_hit, ldel2_hit2, ldel2_skipI, ldel2_skipA, ldel2_skipL, vc_0, mCall_P0, mCat_nil, mCat_I, mCat_L, mCat_A, mRcv_A, mArg_nil, mArg_I, mArg_L, mArg_A, tsg, swt_nil, swt_cons, lkw_nil, lkw_cons, ↓reduceIte, Nat.reduceAdd, Nat.reduceEqDiff, Nat.reduceLeDiff, Nat.reduceMul, true_and, and_true, and_self, List.mem_cons, List.not_mem_nil, or_false, or_self, false_or, true_implies, false_implies, not_true_eq_false, not_false_eq_true, nI00, nI10, nI01, nI11, forall_const, implies_true]
    exact ⟨fun _ => hK, fun hc => absurd (by decide) hc⟩
  · intro k hk ih
    rw [fo_s] at ih
    have lk := len k
    generalize fo k (put4F L n) Q = Q1 at ih lk ⊢
    rw [if_pos (show k ≤ 3 by omega)]
    have e2 : nI (24 - 8 * k) + (-8) = (if k + 1 ≤ 3 then nI (24 - 8 * (k + 1)) else -8) := by
      have : k = 0 ∨ k = 1 ∨ k = 2 ∨ k = 3 := by omega
      rcases this with rfl | rfl | rfl | rfl <;> rfl
    have eb : (n.toUInt32 >>> ((nI (24 - 8 * k)).toUInt32 &&& Int32.toUInt32 31)).toInt32 &&& nI 255 = (n >>> (nI (24 - 8 * k) &&& 31)) &&& nI 255 := by
      have : k = 0 ∨ k = 1 ∨ k = 2 ∨ k = 3 := by omega
      rcases this with rfl | rfl | rfl | rfl
      · exact byte_k (k := 24) (by omega) (by decide) (by decide)
      · exact byte_k (k := 16) (by omega) (by decide) (by decide)
      · exact byte_k (k := 8) (by omega) (by decide) (by decide)
      · exact byte_k (k := 0) (by omega) (by decide) (by decide)
    simp only [↓w_X9_come_0, ↓w_X9_come_3, ↓w_X9_come_39, ↓v_X9_come_3, ↓v_X9_come_39, ↓b_aload_n, ↓b_bipush, ↓b_dupA, ↓b_dupI, ↓b_getA, ↓b_getI, ↓b_goto, ↓b_iadd, ↓b_iand, ↓n_iastore, ↓b_iconst, ↓b_if_lt, ↓n_iinc, ↓b_iload_n, ↓n_istore_n, ↓b_iushr, ↓n_putI, ↓b_sipush, ↓b_vret, ↓ldI_hit, ↓ldI_skip, ↓ldL_hit, ↓ldL_skip, ↓ldA_hit, ↓ldA_skip, ↓ldelK_nil, ↓ldelK_hit, ↓ldelK_skipI, ↓ldelK_skipA, ↓ldelK_skipL, lget_hit, lget_skip, ldel_nil, ldel_hit, ldel_skipI, ldel_skipA, ldel_skipL, ldel2_nil, ldel2_hit, ldel2_hit2, ldel2_skipI, ldel2_skipA, ldel2_skipL, vc_0, mCall_P0, mCat_nil, mCat_I, mCat_L, mCat_A, mRcv_A, mArg_nil, mArg_I, mArg_L, mArg_A, tsg, swt_nil, swt_cons, lkw_nil, lkw_cons, ↓reduceIte, Nat.reduceAdd, Nat.reduceEqDiff, Nat.reduceLeDiff, Nat.reduceMul, true_and, and_true, and_self, List.mem_cons, List.not_mem_nil, or_false, or_self, false_or, true_implies, false_implies, not_true_eq_false, not_false_eq_true, nI00, nI10, nI01, nI11, forall_const, implies_true]
    simp (disch := omega) only [ixq, ixz, sb_in, sb_in0, upI_sb, upI_sb0, sb_out, nI_add, nI_mul, nI_subq, Nat.zero_add, forall_eq, u2_at, u2_row, upd_at, upd_ne, nI0b, nI1b, nI00, nI10, nI01, nI11, true_implies, false_implies, not_true_eq_false, not_false_eq_true, and_true, true_and, implies_true, nI_lz, lk, nI_lq, eb]
    exact vc_back P0_ok ok_X9_come [3] 6 t_X9_come_3 ih (by simp [e2]) rfl
theorem put_len {n : Int32} {T : Bk} : fo 4 (put4F L n) T 0 2 = nI (L + 4) := by
  rw [fo_s]
  unfold put4F
  rw [u2_at, upd_at]
theorem put_row {n : Int32} {T : Bk} {r : Nat} (h0 : r ≠ 0) (h1 : r ≠ 1) : ∀ k, fo k (put4F L n) T r = T r := by
  intro k
  induction k with
  | zero => rfl
  | succ k ih =>
    rw [fo_s]
    unfold put4F
    rw [u2_row h0, u2_row h1]
    exact ih
theorem put_at {n : Int32} {T : Bk} {j : Nat} (hj : j ≠ 2) : ∀ k, fo k (put4F L n) T 0 j = T 0 j := by
  intro k
  induction k with
  | zero => rfl
  | succ k ih =>
    rw [fo_s]
    unfold put4F
    rw [u2_at, upd_ne hj, u2_row (by decide)]
    exact ih
theorem put_eq {n : Int32} {T Q : Bk} (h : ∀ j, j < L → Q 1 j = T 1 j) : ∀ k, ∀ j, j < L + k → fo k (put4F L n) Q 1 j = fo k (put4F L n) T 1 j := by
  intro k
  induction k with
  | zero => exact h
  | succ k ih =>
    intro j hj
    rw [fo_s, fo_s]
    have i2 := ih j
    generalize fo k (put4F L n) Q = A at i2 ⊢
    generalize fo k (put4F L n) T = D at i2 ⊢
    unfold put4F
    simp (disch := omega) only [u2_row, u2_at]
    by_cases hx : j = L + k
    · rw [hx, upd_at, upd_at]
    · rw [upd_ne hx, upd_ne hx]
      exact i2 (by omega)
theorem cls_in {i n M H : Nat} {as : List MV} {K : MV → Mem → Prop} (h : mMet X H M as (sb μ i n (bk μ i)) K) : mMet X H M as μ K := by
  rw [sb_self] at h
  exact h
/-- the tape changes, on both sides -/
theorem Rel_tape {T' Q' : Bk} (hx : x + 164 = m) (h : Rel x m μ) (hk : T' 2 = μ.1 (x + 3)) (hL : L ≤ 940) (t2 : T' 0 2 = nI L) (q2 : Q' 0 2 = nI L) (hj : ∀ j, j < L → Q' 1 j = T' 1 j) (h1 : ∀ k, k = 2 ∨ k = 5 ∨ k = 9 ∨ k = 18 → Q' k = μ.1 (m + k)) (h0 : ∀ j, j = 10 ∨ j = 33 ∨ j = 35 ∨ j = 38 → Q' 0 j = μ.1 m j) : Rel x m (sb (sb μ (x + 1) 3 T') m 21 Q') := by
  have e : ∀ k, k < 21 → (sb (sb μ (x + 1) 3 T') m 21 Q').1 (m + k) = Q' k := fun k hk => sb_in hk
  have e0 : (sb (sb μ (x + 1) 3 T') m 21 Q').1 m = Q' 0 := e 0 (by omega)
  have t : ∀ k, k < 3 → (sb (sb μ (x + 1) 3 T') m 21 Q').1 (x + 1 + k) = T' k := fun k hk => by rw [sb_out (by omega)]; exact sb_in hk
  have tt1 : (sb (sb μ (x + 1) 3 T') m 21 Q').1 (x + 1) = T' 0 := t 0 (by omega)
  have tt2 : (sb (sb μ (x + 1) 3 T') m 21 Q').1 (x + 2) = T' 1 := t 1 (by omega)
  have tt3 : (sb (sb μ (x + 1) 3 T') m 21 Q').1 (x + 3) = T' 2 := t 2 (by omega)
  have o : ∀ i, 4 ≤ i → i < 164 → (sb (sb μ (x + 1) 3 T') m 21 Q').1 (x + i) = μ.1 (x + i) := fun i h4 hi => by rw [sb_out (by omega), sb_out (by omega)]
  have ox : (sb (sb μ (x + 1) 3 T') m 21 Q').1 x = μ.1 x := by rw [sb_out (by omega), sb_out (by omega)]
  obtain ⟨r1, r2, r3, r4, r5, r6, r7, r8⟩ := h
  refine ⟨⟨L, hL, by rw [tt1]; exact t2, by rw [e0]; exact q2, fun j hj2 => by rw [e 1 (by omega), tt2]; exact hj j hj2⟩, RKw_k r2 (by rw [tt3]; exact hk), RSt_k r3 (fun i hi => o i (by omega) (by omega)) (by rw [e 2 (by omega)]; exact h1 2 (by omega)) rfl, fun k hk => RIm_k hk (r4 k hk) (fun i h87 hi => o i (by omega) (by omega)) (by rw [e 5 (by omega)]; exact h1 5 (by omega)) rfl (by rw [e 9 (by omega)]; exact h1 9 (by omega)), RTx_k r5 (by rw [o 159 (by omega) (by omega)]) (by rw [e0]; exact h0 38 (by omega)) (o 160 (by omega) (by omega)) (by rw [e 18 (by omega)]; exact h1 18 (by omega)), RWo_k r6 (by rw [ox]) (by rw [e0]; exact h0 33 (by omega)) rfl rfl rfl rfl, ?_, ?_⟩
  · rw [ox, e0, h0 35 (by omega)]; exact r7
  · rw [ox, e0, h0 10 (by omega)]; exact r8
theorem bk_out {i n j : Nat} {R : Bk} (hj : j + 21 ≤ i ∨ i + n ≤ j) : ∀ k, k < 21 → bk (sb μ i n R) j k = bk μ j k := fun k hk => sb_out (by omega)
theorem sb_bk {i n j : Nat} {R : Bk} (hj : j + 21 ≤ i ∨ i + n ≤ j) : sb μ i n R = sb (sb μ i n R) j 21 (bk μ j) := by
  refine Prod.ext (funext fun l => ?_) rfl
  show (sb μ i n R).1 l = if j ≤ l ∧ l < j + 21 then bk μ j (l - j) else (sb μ i n R).1 l
  by_cases h : j ≤ l ∧ l < j + 21
  · rw [if_pos h]
    have e := bk_out (μ := μ) (R := R) hj (l - j) (by omega)
    have e2 : bk (sb μ i n R) j (l - j) = (sb μ i n R).1 l := by
      show (sb μ i n R).1 (j + (l - j)) = _
      rw [show j + (l - j) = l by omega]
    rw [← e2, e]
  · rw [if_neg h]
theorem f_end {n : Int32} (hx : x + 164 = m) (hr : Rel x m μ) : PAIR X (h + 3) m_X8_end m_X9_end x m [.inl n] μ := by
  obtain ⟨L, l1, l2, l3, l4⟩ := id hr.1
  have l2' : bk μ (x + 1) 0 2 = nI L := l2
  have l3' : bk μ m 0 2 = nI L := l3
  by_cases hn : ∃ a, a ≤ L ∧ n = nI a
  · obtain ⟨a, ha, rfl⟩ := hn
    refine cls_in (i := x + 1) (n := 3) ?_
    generalize hK : (fun (a' : MV) (μ1 : Mem) => mMet X (h + 3) m_X9_end [.inr (.inr (8, 0, m)), .inl (nI a)] μ1 (fun b μ2 => a' = b ∧ Rel x m μ2)) = K
    (refine vc_met2 P2_ok ok_X8_end cm_X8_end [] 6 t_X8_end_0 (Nat.le_of_ble_eq_true rfl) ?_; simp only [mArg_nil, mArg_I, mArg_L, mArg_A, Nat.reduceAdd])
    simp only [↓w_X8_end_0, ↓w_X8_end_15, ↓w_X8_end_17, ↓v_X8_end_15, ↓v_X8_end_17, ↓b_aload_n, ↓b_getA, ↓b_getI, ↓b_ic_le, ↓b_iconst, ↓b_if_lt, ↓b_iload_n, ↓n_putI, ↓b_zret, ↓ldI_hit, ↓ldI_skip, ↓ldL_hit, ↓ldL_skip, ↓ldA_hit, ↓ldA_skip, ↓ldelK_nil, ↓ldelK_hit, ↓ldelK_skipI, ↓ldelK_skipA, ↓ldelK_skipL, ↓bI_b, bI_0, nnot, lget_hit, lget_skip, ldel_nil, ldel_hit, ldel_skipI, ldel_skipA, ldel_skipL, ldel2_nil, ldel2_hit, ldel2_hit2, ldel2_skipI, ldel2_skipA, ldel2_skipL, vc_0, mCat_nil, mCat_I, mCat_L, mCat_A, mRcv_A, mArg_nil, mArg_I, mArg_L, mArg_A, tsg, swt_nil, swt_cons, lkw_nil, lkw_cons, ↓reduceIte, Nat.reduceAdd, Nat.reduceEqDiff, Nat.reduceLeDiff, Nat.reduceMul, true_and, and_true, and_self, List.mem_cons, List.not_mem_nil, or_false, or_self, false_or, true_implies, false_implies, not_true_eq_false, not_false_eq_true, nI00, nI10, nI01, nI11, forall_const, implies_true]
    simp (disch := omega) only [ixq, ixz, sb_in, sb_in0, upI_sb, upI_sb0, sb_out, nI_add, nI_mul, nI_subq, Nat.zero_add, forall_eq, u2_at, u2_row, upd_at, upd_ne, nI0b, nI1b, nI00, nI10, nI01, nI11, true_implies, false_implies, not_true_eq_false, not_false_eq_true, and_true, true_and, implies_true, l2', nI_lz, nI_lq]
    refine ⟨fun hc => ?_, fun hc => absurd ha hc⟩
    rw [← hK]
    rw [sb_bk (j := m) (by omega)]
    generalize hK2 : (fun (b : MV) (μ2 : Mem) => (.inl (nI 1) : MV) = b ∧ Rel x m μ2) = K2
    (refine vc_met2 P2_ok ok_X9_end cm_X9_end [] 6 t_X9_end_0 (Nat.le_of_ble_eq_true rfl) ?_; simp only [mArg_nil, mArg_I, mArg_L, mArg_A, Nat.reduceAdd])
    simp only [↓w_X9_end_0, ↓w_X9_end_17, ↓w_X9_end_19, ↓v_X9_end_17, ↓v_X9_end_19, ↓b_aload_n, ↓b_getI, ↓b_ic_le, ↓b_iconst, ↓b_if_lt, ↓b_iload_n, ↓n_putI, ↓b_zret, ↓ldI_hit, ↓ldI_skip, ↓ldL_hit, ↓ldL_skip, ↓ldA_hit, ↓ldA_skip, ↓ldelK_nil, ↓ldelK_hit, ↓ldelK_skipI, ↓ldelK_skipA, ↓ldelK_skipL, ↓bI_b, bI_0, nnot, lget_hit, lget_skip, ldel_nil, ldel_hit, ldel_skipI, ldel_skipA, ldel_skipL, ldel2_nil, ldel2_hit, ldel2_hit2, ldel2_skipI, ldel2_skipA, ldel2_skipL, vc_0, mCat_nil, mCat_I, mCat_L, mCat_A, mRcv_A, mArg_nil, mArg_I, mArg_L, mArg_A, tsg, swt_nil, swt_cons, lkw_nil, lkw_cons, ↓reduceIte, Nat.reduceAdd, Nat.reduceEqDiff, Nat.reduceLeDiff, Nat.reduceMul, true_and, and_true, and_self, List.mem_cons, List.not_mem_nil, or_false, or_self, false_or, true_implies, false_implies, not_true_eq_false, not_false_eq_true, nI00, nI10, nI01, nI11, forall_const, implies_true]
    simp (disch := omega) only [ixq, ixz, sb_in, sb_in0, upI_sb, upI_sb0, sb_out, nI_add, nI_mul, nI_subq, Nat.zero_add, forall_eq, u2_at, u2_row, upd_at, upd_ne, nI0b, nI1b, nI00, nI10, nI01, nI11, true_implies, false_implies, not_true_eq_false, not_false_eq_true, and_true, true_and, implies_true, l3', nI_lz, nI_lq]
    refine ⟨fun _ => ?_, fun hc => absurd ha hc⟩
    refine Rel_tape (L := a) hx hr (u2_row (by decide)) (by omega) (by rw [u2_at, upd_at]) (by rw [u2_at, upd_at]) (fun j hj => ?_) (fun k hk => ?_) (fun j hj => ?_)
    · simp (disch := omega) only [u2_row]
      exact l4 j (by omega)
    · rw [u2_row (by omega), u2_row (by omega)]; rfl
    · rw [u2_at, upd_ne (by omega), u2_at, upd_ne (by omega)]; rfl
  · have hn' : ¬ (nI 0 ≤ n ∧ n ≤ nI L) := by rw [tin (by omega)]; exact hn
    refine get (.inl (nI 0)) hx hr (fun K hK => ?_) (fun K hK => ?_)
    · (refine vc_met2 P2_ok ok_X8_end cm_X8_end [] 6 t_X8_end_0 (Nat.le_of_ble_eq_true rfl) ?_; simp only [mArg_nil, mArg_I, mArg_L, mArg_A, Nat.reduceAdd])
      simp only [↓w_X8_end_0, ↓w_X8_end_15, ↓w_X8_end_17, ↓v_X8_end_15, ↓v_X8_end_17, ↓b_aload_n, ↓b_getA, ↓b_getI, ↓b_ic_le, ↓b_iconst, ↓b_if_lt, ↓b_iload_n, ↓n_putI, ↓b_zret, ↓ldI_hit, ↓ldI_skip, ↓ldL_hit, ↓ldL_skip, ↓ldA_hit, ↓ldA_skip, ↓ldelK_nil, ↓ldelK_hit, ↓ldelK_skipI, ↓ldelK_skipA, ↓ldelK_skipL, ↓bI_b, bI_0, nnot, lget_hit, lget_skip, ldel_nil, ldel_hit, ldel_skipI, ldel_skipA, ldel_skipL, ldel2_nil, ldel2_hit, ldel2_hit2, ldel2_skipI, ldel2_skipA, ldel2_skipL, vc_0, mCat_nil, mCat_I, mCat_L, mCat_A, mRcv_A, mArg_nil, mArg_I, mArg_L, mArg_A, tsg, swt_nil, swt_cons, lkw_nil, lkw_cons, ↓reduceIte, Nat.reduceAdd, Nat.reduceEqDiff, Nat.reduceLeDiff, Nat.reduceMul, true_and, and_true, and_self, List.mem_cons, List.not_mem_nil, or_false, or_self, false_or, true_implies, false_implies, not_true_eq_false, not_false_eq_true, nI00, nI10, nI01, nI11, forall_const, implies_true]
      simp (disch := omega) only [ixq, ixz, sb_in, sb_in0, upI_sb, upI_sb0, sb_out, nI_add, nI_mul, nI_subq, Nat.zero_add, forall_eq, u2_at, u2_row, upd_at, upd_ne, nI0b, nI1b, nI00, nI10, nI01, nI11, true_implies, false_implies, not_true_eq_false, not_false_eq_true, and_true, true_and, implies_true, l2]
      exact ⟨fun _ => hK, fun h0 => ⟨fun h1 => absurd ⟨Int32.not_lt.mp h0, h1⟩ hn', fun _ => hK⟩⟩
    · (refine vc_met2 P2_ok ok_X9_end cm_X9_end [] 6 t_X9_end_0 (Nat.le_of_ble_eq_true rfl) ?_; simp only [mArg_nil, mArg_I, mArg_L, mArg_A, Nat.reduceAdd])
      simp only [↓w_X9_end_0, ↓w_X9_end_17, ↓w_X9_end_19, ↓v_X9_end_17, ↓v_X9_end_19, ↓b_aload_n, ↓b_getI, ↓b_ic_le, ↓b_iconst, ↓b_if_lt, ↓b_iload_n, ↓n_putI, ↓b_zret, ↓ldI_hit, ↓ldI_skip, ↓ldL_hit, ↓ldL_skip, ↓ldA_hit, ↓ldA_skip, ↓ldelK_nil, ↓ldelK_hit, ↓ldelK_skipI, ↓ldelK_skipA, ↓ldelK_skipL, ↓bI_b, bI_0, nnot, lget_hit, lget_skip, ldel_nil, ldel_hit, ldel_skipI, ldel_skipA, ldel_skipL, ldel2_nil, ldel2_hit, ldel2_hit2, ldel2_skipI, ldel2_skipA, ldel2_skipL, vc_0, mCat_nil, mCat_I, mCat_L, mCat_A, mRcv_A, mArg_nil, mArg_I, mArg_L, mArg_A, tsg, swt_nil, swt_cons, lkw_nil, lkw_cons, ↓reduceIte, Nat.reduceAdd, Nat.reduceEqDiff, Nat.reduceLeDiff, Nat.reduceMul, true_and, and_true, and_self, List.mem_cons, List.not_mem_nil, or_false, or_self, false_or, true_implies, false_implies, not_true_eq_false, not_false_eq_true, nI00, nI10, nI01, nI11, forall_const, implies_true]
      simp (disch := omega) only [ixq, ixz, sb_in, sb_in0, upI_sb, upI_sb0, sb_out, nI_add, nI_mul, nI_subq, Nat.zero_add, forall_eq, u2_at, u2_row, upd_at, upd_ne, nI0b, nI1b, nI00, nI10, nI01, nI11, true_implies, false_implies, not_true_eq_false, not_false_eq_true, and_true, true_and, implies_true, l3']
      exact ⟨fun _ => hK, fun h0 => ⟨fun h1 => absurd ⟨Int32.not_lt.mp h0, h1⟩ hn', fun _ => hK⟩⟩
theorem f_feed {a b c d e : Int32} (hx : x + 164 = m) (hr : Rel x m μ) : PAIR X (h + 3) m_X8_feed m_X9_feed x m [.inl a, .inl b, .inl c, .inl d, .inl e] μ := by
  obtain ⟨L, l1, l2, l3, l4⟩ := id hr.1
  have l2' : bk μ (x + 1) 0 2 = nI L := l2
  have l3' : bk μ m 0 2 = nI L := l3
  refine cls_in (i := x + 1) (n := 3) ?_
  generalize hK : (fun (a' : MV) (μ1 : Mem) => mMet X (h + 3) m_X9_feed [.inr (.inr (8, 0, m)), .inl a, .inl b, .inl c, .inl d, .inl e] μ1 (fun b μ2 => a' = b ∧ Rel x m μ2)) = K
  (refine vc_met2 P0_ok ok_X8_feed cm_X8_feed [] 6 t_X8_feed_0 (Nat.le_of_ble_eq_true rfl) ?_; simp only [mArg_nil, mArg_I, mArg_L, mArg_A, Nat.reduceAdd])
  simp only [↓w_X8_feed_0, ↓w_X8_feed_12, ↓v_X8_feed_12, ↓b_aload_n, ↓b_callV1_1, ↓b_callV2_0, ↓b_getA, ↓b_getI, ↓b_iconst, ↓b_if_ne, ↓b_iload, ↓b_iload_n, ↓b_iret, ↓ldI_hit, ↓ldI_skip, ↓ldL_hit, ↓ldL_skip, ↓ldA_hit, ↓ldA_skip, ↓ldelK_nil, ↓ldelK_hit, ↓ldelK_skipI, ↓ldelK_skipA, ↓ldelK_skipL, lget_hit, lget_skip, ldel_nil, ldel_hit, ldel_skipI, ldel_skipA, ldel_skipL, ldel2_nil, ldel2_hit, ldel2_hit2, ldel2_skipI, ldel2_skipA, ldel2_skipL, vc_0, mCall_P0, mCat_nil, mCat_I, mCat_L, mCat_A, mRcv_A, mArg_nil, mArg_I, mArg_L, mArg_A, tsg, swt_nil, swt_cons, lkw_nil, lkw_cons, ↓reduceIte, Nat.reduceAdd, Nat.reduceEqDiff, Nat.reduceLeDiff, Nat.reduceMul, true_and, and_true, and_self, List.mem_cons, List.not_mem_nil, or_false, or_self, false_or, true_implies, false_implies, not_true_eq_false, not_false_eq_true, nI00, nI10, nI01, nI11, forall_const, implies_true]
  refine c_hasRoom l2' l1 ?_
  by_cases hr20 : L + 20 ≤ 940
  · rw [bI_t hr20]
    (try simp only [↓w_X8_feed_0, ↓w_X8_feed_12, ↓v_X8_feed_12, ↓b_aload_n, ↓b_callV1_1, ↓b_callV2_0, ↓b_getA, ↓b_getI, ↓b_iconst, ↓b_if_ne, ↓b_iload, ↓b_iload_n, ↓b_iret, ↓ldI_hit, ↓ldI_skip, ↓ldL_hit, ↓ldL_skip, ↓ldA_hit, ↓ldA_skip, ↓ldelK_nil, ↓ldelK_hit, ↓ldelK_skipI, ↓ldelK_skipA, ↓ldelK_skipL, lget_hit, lget_skip, ldel_nil, ldel_hit, ldel_skipI, ldel_skipA, ldel_skipL, ldel2_nil, ldel2_hit, ldel2_hit2, ldel2_skipI, ldel2_skipA, ldel2_skipL, vc_0, mCall_P0, mCat_nil, mCat_I, mCat_L, mCat_A, mRcv_A, mArg_nil, mArg_I, mArg_L, mArg_A, tsg, swt_nil, swt_cons, lkw_nil, lkw_cons, ↓reduceIte, Nat.reduceAdd, Nat.reduceEqDiff, Nat.reduceLeDiff, Nat.reduceMul, true_and, and_true, and_self, List.mem_cons, List.not_mem_nil, or_false, or_self, false_or, true_implies, false_implies, not_true_eq_false, not_false_eq_true, nI00, nI10, nI01, nI11, forall_const, implies_true]); (try simp (disch := omega) only [ixq, ixz, sb_in, sb_in0, upI_sb, upI_sb0, sb_out, nI_add, nI_mul, nI_subq, Nat.zero_add, forall_eq, u2_at, u2_row, upd_at, upd_ne, nI0b, nI1b, nI00, nI10, nI01, nI11, true_implies, false_implies, not_true_eq_false, not_false_eq_true, and_true, true_and, implies_true])
    refine c_put4 l2' (by omega) ?_
    refine c_put4 (L := L + 4) put_len (by omega) ?_
    refine c_put4 (L := L + 8) put_len (by omega) ?_
    refine c_put4 (L := L + 12) put_len (by omega) ?_
    refine c_put4 (L := L + 16) put_len (by omega) ?_
    rw [sb_in0 (by decide), put_len, ← hK, sb_bk (j := m) (by omega)]
    have q2 : (u2 (bk μ m) 0 0 (nI 0)) 0 2 = nI L := by rw [u2_at, upd_ne (by decide)]; exact l3'
    have f1 : ∀ j, j < L → (u2 (bk μ m) 0 0 (nI 0)) 1 j = bk μ (x + 1) 1 j := fun j hj => by rw [u2_row (by decide)]; exact l4 j hj
    have f2 := put_eq (n := a) f1 4
    have f3 := put_eq (n := b) f2 4
    have f4 := put_eq (n := c) f3 4
    have f5 := put_eq (n := d) f4 4
    have f6 := put_eq (n := e) f5 4
    generalize hT : fo 4 (put4F (L + 16) e) (fo 4 (put4F (L + 12) d) (fo 4 (put4F (L + 8) c) (fo 4 (put4F (L + 4) b) (fo 4 (put4F L a) (bk μ (x + 1)))))) = T5
    have t2 : T5 0 2 = nI (L + 20) := by rw [← hT]; exact put_len
    have t3 : T5 2 = μ.1 (x + 3) := by
      rw [← hT, put_row (by decide) (by decide), put_row (by decide) (by decide), put_row (by decide) (by decide), put_row (by decide) (by decide), put_row (by decide) (by decide)]
      rfl
    generalize hK2 : (fun (b' : MV) (μ2 : Mem) => (.inl (nI (L + 16 + 4)) : MV) = b' ∧ Rel x m μ2) = K2
    (refine vc_met2 P0_ok ok_X9_feed cm_X9_feed [] 6 t_X9_feed_0 (Nat.le_of_ble_eq_true rfl) ?_; simp only [mArg_nil, mArg_I, mArg_L, mArg_A, Nat.reduceAdd])
    simp only [↓w_X9_feed_0, ↓w_X9_feed_20, ↓v_X9_feed_20, ↓b_aload_n, ↓b_bipush, ↓b_callV2_0, ↓b_getI, ↓b_iadd, ↓b_ic_le, ↓b_iconst, ↓b_iload, ↓b_iload_n, ↓b_iret, ↓n_putI, ↓b_sipush, ↓ldI_hit, ↓ldI_skip, ↓ldL_hit, ↓ldL_skip, ↓ldA_hit, ↓ldA_skip, ↓ldelK_nil, ↓ldelK_hit, ↓ldelK_skipI, ↓ldelK_skipA, ↓ldelK_skipL, lget_hit, lget_skip, ldel_nil, ldel_hit, ldel_skipI, ldel_skipA, ldel_skipL, ldel2_nil, ldel2_hit, ldel2_hit2, ldel2_skipI, ldel2_skipA, ldel2_skipL, vc_0, mCall_P0, mCat_nil, mCat_I, mCat_L, mCat_A, mRcv_A, mArg_nil, mArg_I, mArg_L, mArg_A, tsg, swt_nil, swt_cons, lkw_nil, lkw_cons, ↓reduceIte, Nat.reduceAdd, Nat.reduceEqDiff, Nat.reduceLeDiff, Nat.reduceMul, true_and, and_true, and_self, List.mem_cons, List.not_mem_nil, or_false, or_self, false_or, true_implies, false_implies, not_true_eq_false, not_false_eq_true, nI00, nI10, nI01, nI11, forall_const, implies_true]
    simp (disch := omega) only [ixq, ixz, sb_in, sb_in0, upI_sb, upI_sb0, sb_out, nI_add, nI_mul, nI_subq, Nat.zero_add, forall_eq, u2_at, u2_row, upd_at, upd_ne, nI0b, nI1b, nI00, nI10, nI01, nI11, true_implies, false_implies, not_true_eq_false, not_false_eq_true, and_true, true_and, implies_true, l3', nI_lq]
    refine ⟨fun _ => ?_, fun hc => absurd hr20 hc⟩
    refine c_comeR q2 (by omega) ?_
    refine c_comeR (L := L + 4) put_len (by omega) ?_
    refine c_comeR (L := L + 8) put_len (by omega) ?_
    refine c_comeR (L := L + 12) put_len (by omega) ?_
    refine c_comeR (L := L + 16) put_len (by omega) ?_
    rw [sb_in0 (by decide), put_len]
    refine ⟨rfl, Rel_tape (L := L + 20) hx hr t3 (by omega) t2 put_len (fun j hj => ?_) (fun k hk => ?_) (fun j hj => ?_)⟩
    · rw [← hT]
      exact f6 j (by omega)
    · rw [put_row (by omega) (by omega), put_row (by omega) (by omega), put_row (by omega) (by omega), put_row (by omega) (by omega), put_row (by omega) (by omega), u2_row (by omega)]
      rfl
    · rw [put_at (by omega), put_at (by omega), put_at (by omega), put_at (by omega), put_at (by omega), u2_at, upd_ne (by omega)]
      rfl
  · rw [bI_f hr20]
    (skip)
    (try simp only [↓w_X8_feed_0, ↓w_X8_feed_12, ↓v_X8_feed_12, ↓b_aload_n, ↓b_callV1_1, ↓b_callV2_0, ↓b_getA, ↓b_getI, ↓b_iconst, ↓b_if_ne, ↓b_iload, ↓b_iload_n, ↓b_iret, ↓ldI_hit, ↓ldI_skip, ↓ldL_hit, ↓ldL_skip, ↓ldA_hit, ↓ldA_skip, ↓ldelK_nil, ↓ldelK_hit, ↓ldelK_skipI, ↓ldelK_skipA, ↓ldelK_skipL, lget_hit, lget_skip, ldel_nil, ldel_hit, ldel_skipI, ldel_skipA, ldel_skipL, ldel2_nil, ldel2_hit, ldel2_hit2, ldel2_skipI, ldel2_skipA, ldel2_skipL, vc_0, mCall_P0, mCat_nil, mCat_I, mCat_L, mCat_A, mRcv_A, mArg_nil, mArg_I, mArg_L, mArg_A, tsg, swt_nil, swt_cons, lkw_nil, lkw_cons, ↓reduceIte, Nat.reduceAdd, Nat.reduceEqDiff, Nat.reduceLeDiff, Nat.reduceMul, true_and, and_true, and_self, List.mem_cons, List.not_mem_nil, or_false, or_self, false_or, true_implies, false_implies, not_true_eq_false, not_false_eq_true, nI00, nI10, nI01, nI11, forall_const, implies_true]); (try simp (disch := omega) only [ixq, ixz, sb_in, sb_in0, upI_sb, upI_sb0, sb_out, nI_add, nI_mul, nI_subq, Nat.zero_add, forall_eq, u2_at, u2_row, upd_at, upd_ne, nI0b, nI1b, nI00, nI10, nI01, nI11, true_implies, false_implies, not_true_eq_false, not_false_eq_true, and_true, true_and, implies_true])
    rw [sb_self, ← hK]
    refine ref_in (m := m) ?_
    generalize hK2 : (fun (b' : MV) (μ2 : Mem) => (.inl (-1) : MV) = b' ∧ Rel x m μ2) = K2
    (refine vc_met2 P0_ok ok_X9_feed cm_X9_feed [] 6 t_X9_feed_0 (Nat.le_of_ble_eq_true rfl) ?_; simp only [mArg_nil, mArg_I, mArg_L, mArg_A, Nat.reduceAdd])
    simp only [↓w_X9_feed_0, ↓w_X9_feed_20, ↓v_X9_feed_20, ↓b_aload_n, ↓b_bipush, ↓b_callV2_0, ↓b_getI, ↓b_iadd, ↓b_ic_le, ↓b_iconst, ↓b_iload, ↓b_iload_n, ↓b_iret, ↓n_putI, ↓b_sipush, ↓ldI_hit, ↓ldI_skip, ↓ldL_hit, ↓ldL_skip, ↓ldA_hit, ↓ldA_skip, ↓ldelK_nil, ↓ldelK_hit, ↓ldelK_skipI, ↓ldelK_skipA, ↓ldelK_skipL, lget_hit, lget_skip, ldel_nil, ldel_hit, ldel_skipI, ldel_skipA, ldel_skipL, ldel2_nil, ldel2_hit, ldel2_hit2, ldel2_skipI, ldel2_skipA, ldel2_skipL, vc_0, mCall_P0, mCat_nil, mCat_I, mCat_L, mCat_A, mRcv_A, mArg_nil, mArg_I, mArg_L, mArg_A, tsg, swt_nil, swt_cons, lkw_nil, lkw_cons, ↓reduceIte, Nat.reduceAdd, Nat.reduceEqDiff, Nat.reduceLeDiff, Nat.reduceMul, true_and, and_true, and_self, List.mem_cons, List.not_mem_nil, or_false, or_self, false_or, true_implies, false_implies, not_true_eq_false, not_false_eq_true, nI00, nI10, nI01, nI11, forall_const, implies_true]
    simp (disch := omega) only [ixq, ixz, sb_in, sb_in0, upI_sb, upI_sb0, sb_out, nI_add, nI_mul, nI_subq, Nat.zero_add, forall_eq, u2_at, u2_row, upd_at, upd_ne, nI0b, nI1b, nI00, nI10, nI01, nI11, true_implies, false_implies, not_true_eq_false, not_false_eq_true, and_true, true_and, implies_true, l3', nI_lq]
    refine ⟨fun hc => absurd hc hr20, fun _ => ?_⟩
    rw [← hK2]
    exact ⟨rfl, Rel_thr hx hr⟩
end MFe
