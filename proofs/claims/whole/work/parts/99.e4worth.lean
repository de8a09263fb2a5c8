/-! worth: longs, the common divisor, orders -/
def kL (n : Nat) : Int64 := Int64.ofInt (n : Int)
theorem kL_i {n : Nat} (h : n < 2 ^ 63) : (kL n).toInt = (n : Int) := Int64.toInt_ofInt_of_le (by omega) (by omega)
theorem kL_of {x : Int64} {n : Nat} (h : x.toInt = (n : Int)) : x = kL n := by
  unfold kL
  rw [← h, Int64.ofInt_toInt]
theorem l_div {x y : Int64} (h : -(2 ^ 62) ≤ x.toInt) (h2 : x.toInt ≤ 2 ^ 62) (hy : 0 < y.toInt) : (x / y).toInt = x.toInt.tdiv y.toInt := by
  rw [Int64.toInt_div]
  have a : (x.toInt.tdiv y.toInt).natAbs ≤ x.toInt.natAbs := Int.natAbs_tdiv_le_natAbs _ _
  exact Int.bmod_eq_of_le (by omega) (by omega)
theorem kL_rem {a b : Nat} (ha : a < 2 ^ 62) (hb : b < 2 ^ 62) (b0 : 0 < b) : kL a - kL a / kL b * kL b = kL (a % b) := by
  apply kL_of
  have e1 : (kL a / kL b).toInt = ((a / b : Nat) : Int) := by
    rw [l_div (by rw [kL_i (by omega)]; omega) (by rw [kL_i (by omega)]; omega) (by rw [kL_i (by omega)]; omega), kL_i (by omega), kL_i (by omega)]
    exact (Int.ofNat_tdiv a b).symm
  have e2 : a / b * b ≤ a := Nat.div_mul_le_self a b
  have e3 : (kL a / kL b * kL b).toInt = ((a / b * b : Nat) : Int) := by
    rw [Int64.toInt_mul, e1, kL_i (by omega), ← Int.natCast_mul]
    exact Int.bmod_eq_of_le (by omega) (by omega)
  have e4 : a % b = a - a / b * b := by
    have := Nat.mod_add_div a b
    rw [Nat.mul_comm] at this
    omega
  rw [Int64.toInt_sub, e3, kL_i (by omega), e4, Int.bmod_eq_of_le (by omega) (by omega)]
  omega
theorem kL_0 {b : Nat} (hb : b < 2 ^ 62) (h : kL b = 0) : b = 0 := by
  have := congrArg Int64.toInt h
  rw [kL_i (by omega)] at this
  have z : (0 : Int64).toInt = 0 := by decide
  rw [z] at this
  omega
theorem kL_e0 {b : Nat} (hb : b < 2 ^ 62) : (kL b = 0) = (b = 0) := propext ⟨kL_0 hb, fun h => by rw [h]; decide⟩
theorem kL_gt {b : Nat} (hb : b < 2 ^ 62) : (0 < kL b) = (0 < b) := propext (by
  rw [Int64.lt_iff_toInt_lt, kL_i (by omega)]
  have z : (0 : Int64).toInt = 0 := by decide
  rw [z]
  omega)
theorem kL_le0 {b : Nat} (hb : b < 2 ^ 62) : (kL b ≤ 0) = (b = 0) := propext (by
  rw [Int64.le_iff_toInt_le, kL_i (by omega)]
  have z : (0 : Int64).toInt = 0 := by decide
  rw [z]
  omega)
theorem kL_max {b : Nat} (b0 : 0 < b) (hb : b < 2 ^ 62) : (if 1 < kL b then kL b else 1) = kL b := by
  by_cases h : 1 < kL b
  · rw [if_pos h]
  · rw [if_neg h]
    rw [Int64.lt_iff_toInt_lt, kL_i (by omega)] at h
    have z : (1 : Int64).toInt = 1 := by decide
    rw [z] at h
    have : b = 1 := by omega
    rw [this]
    decide
/-- of a number its amount -/
theorem l_abs {s : Int64} (h : -(2 ^ 60) ≤ s.toInt) (h2 : s.toInt ≤ 2 ^ 60) : (if 0 < s then s else -s) = kL s.toInt.natAbs := by
  apply kL_of
  have z : (0 : Int64).toInt = 0 := by decide
  by_cases h0 : 0 < s
  · rw [if_pos h0]
    rw [Int64.lt_iff_toInt_lt, z] at h0
    omega
  · rw [if_neg h0]
    rw [Int64.lt_iff_toInt_lt, z] at h0
    rw [Int64.toInt_neg, Int.bmod_eq_of_le (by omega) (by omega)]
    omega
theorem l_abs2 {s : Int64} (h : -(2 ^ 60) ≤ s.toInt) (h2 : s.toInt ≤ 2 ^ 60) (h0 : s < 0) : -s = kL s.toInt.natAbs := by
  apply kL_of
  have z : (0 : Int64).toInt = 0 := by decide
  rw [Int64.lt_iff_toInt_lt, z] at h0
  rw [Int64.toInt_neg, Int.bmod_eq_of_le (by omega) (by omega)]
  omega
theorem l_abs3 {s : Int64} (h0 : 0 ≤ s) : s = kL s.toInt.natAbs := by
  apply kL_of
  have z : (0 : Int64).toInt = 0 := by decide
  rw [Int64.le_iff_toInt_le, z] at h0
  omega
theorem l_dvd {s d : Int64} (h : -(2 ^ 60) ≤ s.toInt) (h2 : s.toInt ≤ 2 ^ 60) (hd : 0 < d.toInt) (hv : d.toInt ∣ s.toInt) : (s / d).toInt * d.toInt = s.toInt := by
  rw [l_div (by omega) (by omega) hd]
  exact Int.tdiv_mul_cancel hv
theorem l_mul {x y : Int64} {a b : Nat} (hx : x.toInt.natAbs ≤ a) (hy : y.toInt.natAbs ≤ b) (hab : a * b < 2 ^ 62) : (x * y).toInt.natAbs ≤ a * b := by
  have h1 : (x.toInt * y.toInt).natAbs ≤ a * b := by rw [Int.natAbs_mul]; exact Nat.mul_le_mul hx hy
  rw [Int64.toInt_mul, Int.bmod_eq_of_le (by omega) (by omega)]
  exact h1
theorem l_add {x y : Int64} {a b : Nat} (hx : x.toInt.natAbs ≤ a) (hy : y.toInt.natAbs ≤ b) (hab : a + b < 2 ^ 62) : (x + y).toInt.natAbs ≤ a + b := by
  rw [Int64.toInt_add, Int.bmod_eq_of_le (by omega) (by omega)]
  omega
theorem nI_int {k : Nat} (h : k < 2 ^ 31) : (nI k).toInt = (k : Int) := by
  show (Int32.ofNat k).toInt = _
  exact Int32.toInt_ofNat_of_lt h
theorem l_dif {a b : Nat} (ha : a ≤ 158400) (hb : b ≤ 158400) : (nI a - nI b).toInt64.toInt.natAbs ≤ 2 ^ 18 := by
  rw [Int32.toInt_toInt64, Int32.toInt_sub, nI_int (by omega), nI_int (by omega), Int.bmod_eq_of_le (by omega) (by omega)]
  omega
theorem mFac_b (j : Nat) : (mFac j).toInt64.toInt.natAbs ≤ 40320 := by
  by_cases h : j < 9
  · revert h
    revert j
    decide
  · have : mFac j = 0 := by
      unfold mFac
      rw [List.getD_eq_getElem?_getD, List.getElem?_eq_none (by show 9 ≤ j; omega)]
      rfl
    rw [this]
    decide
theorem mFac_f {n : Nat} (h : n ≤ 8) : 1 ≤ (mFac n).toInt64.toInt ∧ (mFac n).toInt64.toInt ≤ 40320 := by
  have : n < 9 := by omega
  revert this
  revert n
  intro n _ h
  revert h
  revert n
  decide
/-- what one set adds to the worth of a WORK -/
def woF (tot : Nat → Int32) (W w : Nat) (s : Nat) (a : Int64) : Int64 := if nI s >>> (nI w &&& 31) &&& nI 1 = nI 1 then a else a + (mFac (pcN s)).toInt64 * (mFac (W - 1 - pcN s)).toInt64 * (tot (s ||| 2 ^ w) - tot s).toInt64
theorem woF_b {tot : Nat → Int32} {W w : Nat} (ht : ∀ s, s < 256 → ∃ k, k ≤ 158400 ∧ tot s = nI k) (hw : w < 8) : ∀ i, i ≤ 256 → (fo i (woF tot W w) 0).toInt.natAbs ≤ i * 2 ^ 50 := by
  intro i
  induction i with
  | zero => intro _; rw [fo_0]; decide
  | succ i ih =>
    intro hi
    have h1 := ih (by omega)
    rw [fo_s]
    generalize fo i (woF tot W w) 0 = a at h1
    unfold woF
    split
    · exact Nat.le_trans h1 (Nat.mul_le_mul_right _ (Nat.le_succ i))
    · have o : i ||| 2 ^ w < 2 ^ 8 := Nat.or_lt_two_pow (by omega) (Nat.pow_lt_pow_right (by decide) hw)
      obtain ⟨k1, hk1, e1⟩ := ht (i ||| 2 ^ w) (by omega)
      obtain ⟨k2, hk2, e2⟩ := ht i (by omega)
      rw [e1, e2]
      have m1 := l_mul (a := 40320) (b := 40320) (mFac_b (pcN i)) (mFac_b (W - 1 - pcN i)) (by decide)
      have m2 := l_mul m1 (l_dif hk1 hk2) (by decide)
      have m3 := l_add h1 m2 (by omega)
      omega
theorem bit_or2 : ∀ s, s < 256 → ∀ w, w < 8 → nI s ||| nI 1 <<< (nI w &&& 31) = nI (s ||| 2 ^ w) := by decide +kernel
theorem pcN_W : ∀ W, W < 9 → ∀ s, s < 2 ^ W → ∀ w, w < W → ¬ nI s >>> (nI w &&& 31) &&& nI 1 = nI 1 → pcN s ≤ W - 1 := by decide +kernel
section MWo
variable {X : mC} {h x m : Nat} {μ μ1 : Mem} {K : MV → Mem → Prop}
theorem c_orders {n : Nat} (hn : n ≤ 8) (hK : K (.inr (.inl (mFac n).toInt64)) μ) : mMet X (h + 1) m_X9_orders [.inl (nI n)] μ K := by
  (refine vc_met2 P0_ok ok_X9_orders cm_X9_orders [4] 6 t_X9_orders_0 (Nat.le_of_ble_eq_true rfl) ?_; simp only [mArg_nil, mArg_I, mArg_L, mArg_A, Nat.reduceAdd])
  have st : ∀ i, i < 9 → 2 ≤ i → (mFac (i - 1)).toInt64 * (nI i).toInt64 = (mFac i).toInt64 := by decide
  have main : ∀ k i, i + k = 10 → 2 ≤ i → i ≤ n + 1 ∨ (n ≤ 1 ∧ i = 2) → bb X P0 m_X9_orders (h) K (vc X P0 m_X9_orders (h) K k_X9_orders [4] 6) s_X9_orders_4 [(3, .inl (nI i)), (1, .inr (.inl (mFac (i - 1)).toInt64)), (0, .inl (nI n))] [] μ := by
    intro k
    induction k with
    | zero => intro i h1 h2 h3; omega
    | succ k ih =>
      intro i h1 h2 h3
      by_cases hc : n < i
      · have e : (mFac (i - 1)).toInt64 = (mFac n).toInt64 := by
          rcases h3 with h3 | ⟨h3, h4⟩
          · rw [show i - 1 = n by omega]
          · subst h4
            have : n = 0 ∨ n = 1 := by omega
            rcases this with rfl | rfl <;> decide
        rw [e]
        have hc' := eq_true hc
        (try simp only [↓w_X9_orders_0, ↓w_X9_orders_4, ↓w_X9_orders_20, ↓v_X9_orders_4, ↓v_X9_orders_20, ↓b_goto, ↓b_i2l, ↓b_ic_gt, ↓b_iconst, ↓n_iinc, ↓b_iload_n, ↓n_istore_n, ↓b_lconst, ↓b_lload_n, ↓b_lmul, ↓b_lret, ↓n_lstore_n, ↓ldI_hit, ↓ldI_skip, ↓ldL_hit, ↓ldL_skip, ↓ldA_hit, ↓ldA_skip, ↓ldelK_nil, ↓ldelK_hit, ↓ldelK_skipI, ↓ldelK_skipA, ↓ldelK_skipL, ↓ldel2K_nil, ↓ldel2K_hit, ↓ldel2K_hit2, ↓ldel2K_skipI, ↓ldel2K_skipA, ↓ldel2K_skipL, lget_hit, lget_skip, ldel_nil, ldel_hit, ldel_skipI, ldel_skipA, ldel_skipL, ldel2_nil, ldel2_hit, ldel2_hit2, ldel2_skipI, ldel2_skipA, ldel2_skipL, vc_0, mCall_P0, mCat_nil, mCat_I, mCat_L, mCat_A, mRcv_A, mArg_nil, mArg_I, mArg_L, mArg_A, tsg, swt_nil, swt_cons, lkw_nil, lkw_cons, ↓reduceIte, Nat.reduceAdd, Nat.reduceEqDiff, Nat.reduceLeDiff, Nat.reduceMul, true_and, and_true, and_self, List.mem_cons, List.not_mem_nil, or_false, or_self, false_or, true_implies, false_implies, not_true_eq_false, not_false_eq_true, nI00, nI10, nI01, nI11, forall_const, implies_true])
        (try simp (disch := omega) only [ixq, ixz, sb_in, sb_in0, upI_sb, upI_sb0, sb_out, nI_add, nI_mul, nI_subq, Nat.zero_add, forall_eq, u2_at, u2_row, upd_at, upd_ne, nI0b, nI1b, nI00, nI10, nI01, nI11, true_implies, false_implies, not_true_eq_false, not_false_eq_true, and_true, true_and, implies_true, nI_ltq, hc'])
        exact hK
      · have i2 := ih (i + 1) (by omega) (by omega) (by omega)
        rw [show i + 1 - 1 = i by omega, ← st i (by omega) h2] at i2
        clear ih
        generalize (mFac (i - 1)).toInt64 = v at i2 ⊢
        (try simp only [↓w_X9_orders_0, ↓w_X9_orders_4, ↓w_X9_orders_20, ↓v_X9_orders_4, ↓v_X9_orders_20, ↓b_goto, ↓b_i2l, ↓b_ic_gt, ↓b_iconst, ↓n_iinc, ↓b_iload_n, ↓n_istore_n, ↓b_lconst, ↓b_lload_n, ↓b_lmul, ↓b_lret, ↓n_lstore_n, ↓ldI_hit, ↓ldI_skip, ↓ldL_hit, ↓ldL_skip, ↓ldA_hit, ↓ldA_skip, ↓ldelK_nil, ↓ldelK_hit, ↓ldelK_skipI, ↓ldelK_skipA, ↓ldelK_skipL, ↓ldel2K_nil, ↓ldel2K_hit, ↓ldel2K_hit2, ↓ldel2K_skipI, ↓ldel2K_skipA, ↓ldel2K_skipL, lget_hit, lget_skip, ldel_nil, ldel_hit, ldel_skipI, ldel_skipA, ldel_skipL, ldel2_nil, ldel2_hit, ldel2_hit2, ldel2_skipI, ldel2_skipA, ldel2_skipL, vc_0, mCall_P0, mCat_nil, mCat_I, mCat_L, mCat_A, mRcv_A, mArg_nil, mArg_I, mArg_L, mArg_A, tsg, swt_nil, swt_cons, lkw_nil, lkw_cons, ↓reduceIte, Nat.reduceAdd, Nat.reduceEqDiff, Nat.reduceLeDiff, Nat.reduceMul, true_and, and_true, and_self, List.mem_cons, List.not_mem_nil, or_false, or_self, false_or, true_implies, false_implies, not_true_eq_false, not_false_eq_true, nI00, nI10, nI01, nI11, forall_const, implies_true])
        (try simp (disch := omega) only [ixq, ixz, sb_in, sb_in0, upI_sb, upI_sb0, sb_out, nI_add, nI_mul, nI_subq, Nat.zero_add, forall_eq, u2_at, u2_row, upd_at, upd_ne, nI0b, nI1b, nI00, nI10, nI01, nI11, true_implies, false_implies, not_true_eq_false, not_false_eq_true, and_true, true_and, implies_true, nI_ltq, hc])
        exact vc_back P0_ok ok_X9_orders [4] 6 t_X9_orders_4 (i2) (by simp) (rfl)
  have i2 := main 8 2 (by omega) (by omega) (by omega)
  clear main
  have e1 : (mFac (2 - 1)).toInt64 = 1 := by decide
  rw [e1] at i2
  (try simp only [↓w_X9_orders_0, ↓w_X9_orders_20, ↓v_X9_orders_4, ↓v_X9_orders_20, ↓b_goto, ↓b_i2l, ↓b_ic_gt, ↓b_iconst, ↓n_iinc, ↓b_iload_n, ↓n_istore_n, ↓b_lconst, ↓b_lload_n, ↓b_lmul, ↓b_lret, ↓n_lstore_n, ↓ldI_hit, ↓ldI_skip, ↓ldL_hit, ↓ldL_skip, ↓ldA_hit, ↓ldA_skip, ↓ldelK_nil, ↓ldelK_hit, ↓ldelK_skipI, ↓ldelK_skipA, ↓ldelK_skipL, ↓ldel2K_nil, ↓ldel2K_hit, ↓ldel2K_hit2, ↓ldel2K_skipI, ↓ldel2K_skipA, ↓ldel2K_skipL, lget_hit, lget_skip, ldel_nil, ldel_hit, ldel_skipI, ldel_skipA, ldel_skipL, ldel2_nil, ldel2_hit, ldel2_hit2, ldel2_skipI, ldel2_skipA, ldel2_skipL, vc_0, mCall_P0, mCat_nil, mCat_I, mCat_L, mCat_A, mRcv_A, mArg_nil, mArg_I, mArg_L, mArg_A, tsg, swt_nil, swt_cons, lkw_nil, lkw_cons, ↓reduceIte, Nat.reduceAdd, Nat.reduceEqDiff, Nat.reduceLeDiff, Nat.reduceMul, true_and, and_true, and_self, List.mem_cons, List.not_mem_nil, or_false, or_self, false_or, true_implies, false_implies, not_true_eq_false, not_false_eq_true, nI00, nI10, nI01, nI11, forall_const, implies_true])
  (try simp (disch := omega) only [ixq, ixz, sb_in, sb_in0, upI_sb, upI_sb0, sb_out, nI_add, nI_mul, nI_subq, Nat.zero_add, forall_eq, u2_at, u2_row, upd_at, upd_ne, nI0b, nI1b, nI00, nI10, nI01, nI11, true_implies, false_implies, not_true_eq_false, not_false_eq_true, and_true, true_and, implies_true])
  exact i2
theorem kL_st {l d : Nat} (d0 : 0 < d) (hd : d < l) : 2 * (d * (l % d)) < l * d := by
  have r := Nat.mod_lt l d0
  have e := Nat.mod_add_div l d
  have q : 1 ≤ l / d := Nat.div_pos (by omega) d0
  have g : d ≤ d * (l / d) := Nat.le_mul_of_pos_right d q
  have s : l % d + d ≤ l := by omega
  have m1 : d * (l % d + d) ≤ d * l := Nat.mul_le_mul_left d s
  have m2 : d * (l % d) < d * d := Nat.mul_lt_mul_of_pos_left r d0
  rw [Nat.mul_add] at m1
  rw [Nat.mul_comm l d]
  omega
theorem gcd_st {l d : Nat} : Nat.gcd d (l % d) = Nat.gcd l d := by
  rw [Nat.gcd_comm l d, Nat.gcd_rec d l, Nat.gcd_comm]
theorem gcd_e {l d : Nat} (h : l % d = 0) : Nat.gcd l d = d := by rw [← gcd_st, h, Nat.gcd_zero_right]
theorem c_comDiv {a b : Nat} (ha : a ≤ 2 ^ 60) (b0 : 0 < b) (hb : b ≤ 40320) (hK : K (.inr (.inl (kL (Nat.gcd a b)))) μ) : mMet X (h + 1) m_X8_commonDivisor [.inr (.inl (kL a)), .inr (.inl (kL b))] μ K := by
  (refine vc_met2 P0_ok ok_X8_commonDivisor cm_X8_commonDivisor [9,55] 8 t_X8_commonDivisor_0 (Nat.le_of_ble_eq_true rfl) ?_; simp only [mArg_nil, mArg_I, mArg_L, mArg_A, Nat.reduceAdd])
  have main : ∀ k i l d, i + k ≤ 200 → d < l → 0 < d → l ≤ 40320 → l * d < 2 ^ k → Nat.gcd l d = Nat.gcd a b → bb X P0 m_X8_commonDivisor (h) K (vc X P0 m_X8_commonDivisor (h) K k_X8_commonDivisor [9,55] 8) s_X8_commonDivisor_9 [(8, .inl (nI i)), (6, .inr (.inl (kL d))), (4, .inr (.inl (kL l))), (9, .inr (.inl (kL d))), (0, .inr (.inl (kL a))), (2, .inr (.inl (kL b)))] [] μ := by
    intro k
    induction k with
    | zero =>
      intro i l d h1 h2 h3 h4 h5 h6
      have := Nat.mul_pos (show 0 < l by omega) h3
      omega
    | succ k ih =>
      intro i l d h1 h2 h3 h4 h5 h6
      have c0 : (nI 200 ≤ nI i) = False := by rw [nI_lq (by omega) (by omega)]; exact eq_false (by omega)
      have c1 : (lg_cmp (kL d) 0 ≤ 0) = False := by rw [lg_cmp_le, kL_le0 (by omega)]; exact eq_false (by omega)
      have cd : (kL d = 0) = False := by rw [kL_e0 (by omega)]; exact eq_false (by omega)
      have rm := kL_rem (a := l) (b := d) (by omega) (by omega) h3
      have r := Nat.mod_lt l h3
      by_cases hc : l % d = 0
      · have c2 : (lg_cmp (kL (l % d)) 0 = 0) = True := by rw [lg_cmp_eq, kL_e0 (by omega)]; exact eq_true hc
        have mx := kL_max (b := d) h3 (by omega)
        have hK : K (.inr (.inl (kL d))) μ := by rw [← gcd_e hc, h6]; exact hK
        clear ih
        (try simp only [↓w_X8_commonDivisor_0, ↓w_X8_commonDivisor_9, ↓v_X8_commonDivisor_9, ↓v_X8_commonDivisor_55, ↓b_goto, ↓b_ic_ge, ↓b_iconst, ↓b_if_eq, ↓b_if_le, ↓n_iinc, ↓b_iload, ↓n_istore, ↓b_lcmp, ↓b_lconst, ↓b_lload, ↓b_lload_n, ↓b_lrem, ↓b_lret, ↓n_lstore, ↓b_maxl, ↓b_sipush, ↓ldI_hit, ↓ldI_skip, ↓ldL_hit, ↓ldL_skip, ↓ldA_hit, ↓ldA_skip, ↓ldelK_nil, ↓ldelK_hit, ↓ldelK_skipI, ↓ldelK_skipA, ↓ldelK_skipL, ↓ldel2K_nil, ↓ldel2K_hit, ↓ldel2K_hit2, ↓ldel2K_skipI, ↓ldel2K_skipA, ↓ldel2K_skipL, lget_hit, lget_skip, ldel_nil, ldel_hit, ldel_skipI, ldel_skipA, ldel_skipL, ldel2_nil, ldel2_hit, ldel2_hit2, ldel2_skipI, ldel2_skipA, ldel2_skipL, vc_0, mCall_P0, mCat_nil, mCat_I, mCat_L, mCat_A, mRcv_A, mArg_nil, mArg_I, mArg_L, mArg_A, tsg, swt_nil, swt_cons, lkw_nil, lkw_cons, ↓reduceIte, Nat.reduceAdd, Nat.reduceEqDiff, Nat.reduceLeDiff, Nat.reduceMul, true_and, and_true, and_self, List.mem_cons, List.not_mem_nil, or_false, or_self, false_or, true_implies, false_implies, not_true_eq_false, not_false_eq_true, nI00, nI10, nI01, nI11, forall_const, implies_true])
        (try simp (disch := omega) only [ixq, ixz, sb_in, sb_in0, upI_sb, upI_sb0, sb_out, nI_add, nI_mul, nI_subq, Nat.zero_add, forall_eq, u2_at, u2_row, upd_at, upd_ne, nI0b, nI1b, nI00, nI10, nI01, nI11, true_implies, false_implies, not_true_eq_false, not_false_eq_true, and_true, true_and, implies_true, c0, c1, cd, rm, c2])
        (refine vc_from P0_ok ok_X8_commonDivisor [9,55] 8 ?_; rw [t_X8_commonDivisor_55])
        (try simp only [↓w_X8_commonDivisor_0, ↓w_X8_commonDivisor_9, ↓w_X8_commonDivisor_55, ↓v_X8_commonDivisor_9, ↓v_X8_commonDivisor_55, ↓b_goto, ↓b_ic_ge, ↓b_iconst, ↓b_if_eq, ↓b_if_le, ↓n_iinc, ↓b_iload, ↓n_istore, ↓b_lcmp, ↓b_lconst, ↓b_lload, ↓b_lload_n, ↓b_lrem, ↓b_lret, ↓n_lstore, ↓b_maxl, ↓b_sipush, ↓ldI_hit, ↓ldI_skip, ↓ldL_hit, ↓ldL_skip, ↓ldA_hit, ↓ldA_skip, ↓ldelK_nil, ↓ldelK_hit, ↓ldelK_skipI, ↓ldelK_skipA, ↓ldelK_skipL, ↓ldel2K_nil, ↓ldel2K_hit, ↓ldel2K_hit2, ↓ldel2K_skipI, ↓ldel2K_skipA, ↓ldel2K_skipL, lget_hit, lget_skip, ldel_nil, ldel_hit, ldel_skipI, ldel_skipA, ldel_skipL, ldel2_nil, ldel2_hit, ldel2_hit2, ldel2_skipI, ldel2_skipA, ldel2_skipL, vc_0, mCall_P0, mCat_nil, mCat_I, mCat_L, mCat_A, mRcv_A, mArg_nil, mArg_I, mArg_L, mArg_A, tsg, swt_nil, swt_cons, lkw_nil, lkw_cons, ↓reduceIte, Nat.reduceAdd, Nat.reduceEqDiff, Nat.reduceLeDiff, Nat.reduceMul, true_and, and_true, and_self, List.mem_cons, List.not_mem_nil, or_false, or_self, false_or, true_implies, false_implies, not_true_eq_false, not_false_eq_true, nI00, nI10, nI01, nI11, forall_const, implies_true])
        (try simp (disch := omega) only [ixq, ixz, sb_in, sb_in0, upI_sb, upI_sb0, sb_out, nI_add, nI_mul, nI_subq, Nat.zero_add, forall_eq, u2_at, u2_row, upd_at, upd_ne, nI0b, nI1b, nI00, nI10, nI01, nI11, true_implies, false_implies, not_true_eq_false, not_false_eq_true, and_true, true_and, implies_true, mx])
        exact hK
      · have c2 : (lg_cmp (kL (l % d)) 0 = 0) = False := by rw [lg_cmp_eq, kL_e0 (by omega)]; exact eq_false hc
        have st := kL_st h3 h2
        have i2 := ih (i + 1) d (l % d) (by omega) r (by omega) (by omega) (by rw [Nat.pow_succ] at h5; omega) (gcd_st.trans h6)
        clear ih hK
        (try simp only [↓w_X8_commonDivisor_0, ↓w_X8_commonDivisor_9, ↓v_X8_commonDivisor_9, ↓v_X8_commonDivisor_55, ↓b_goto, ↓b_ic_ge, ↓b_iconst, ↓b_if_eq, ↓b_if_le, ↓n_iinc, ↓b_iload, ↓n_istore, ↓b_lcmp, ↓b_lconst, ↓b_lload, ↓b_lload_n, ↓b_lrem, ↓b_lret, ↓n_lstore, ↓b_maxl, ↓b_sipush, ↓ldI_hit, ↓ldI_skip, ↓ldL_hit, ↓ldL_skip, ↓ldA_hit, ↓ldA_skip, ↓ldelK_nil, ↓ldelK_hit, ↓ldelK_skipI, ↓ldelK_skipA, ↓ldelK_skipL, ↓ldel2K_nil, ↓ldel2K_hit, ↓ldel2K_hit2, ↓ldel2K_skipI, ↓ldel2K_skipA, ↓ldel2K_skipL, lget_hit, lget_skip, ldel_nil, ldel_hit, ldel_skipI, ldel_skipA, ldel_skipL, ldel2_nil, ldel2_hit, ldel2_hit2, ldel2_skipI, ldel2_skipA, ldel2_skipL, vc_0, mCall_P0, mCat_nil, mCat_I, mCat_L, mCat_A, mRcv_A, mArg_nil, mArg_I, mArg_L, mArg_A, tsg, swt_nil, swt_cons, lkw_nil, lkw_cons, ↓reduceIte, Nat.reduceAdd, Nat.reduceEqDiff, Nat.reduceLeDiff, Nat.reduceMul, true_and, and_true, and_self, List.mem_cons, List.not_mem_nil, or_false, or_self, false_or, true_implies, false_implies, not_true_eq_false, not_false_eq_true, nI00, nI10, nI01, nI11, forall_const, implies_true])
        (try simp (disch := omega) only [ixq, ixz, sb_in, sb_in0, upI_sb, upI_sb0, sb_out, nI_add, nI_mul, nI_subq, Nat.zero_add, forall_eq, u2_at, u2_row, upd_at, upd_ne, nI0b, nI1b, nI00, nI10, nI01, nI11, true_implies, false_implies, not_true_eq_false, not_false_eq_true, and_true, true_and, implies_true, c0, c1, cd, rm, c2])
        exact vc_back P0_ok ok_X8_commonDivisor [9,55] 8 t_X8_commonDivisor_9 (i2) (by simp) (rfl)
  have c0 : (nI 200 ≤ nI 0) = False := by rw [nI_lq (by omega) (by omega)]; exact eq_false (by omega)
  have c1 : (lg_cmp (kL b) 0 ≤ 0) = False := by rw [lg_cmp_le, kL_le0 (by omega)]; exact eq_false (by omega)
  have cd : (kL b = 0) = False := by rw [kL_e0 (by omega)]; exact eq_false (by omega)
  have rm := kL_rem (a := a) (b := b) (by omega) (by omega) b0
  have r := Nat.mod_lt a b0
  by_cases hc : a % b = 0
  · have c2 : (lg_cmp (kL (a % b)) 0 = 0) = True := by rw [lg_cmp_eq, kL_e0 (by omega)]; exact eq_true hc
    have mx := kL_max (b := b) b0 (by omega)
    have hK : K (.inr (.inl (kL b))) μ := by rw [← gcd_e hc]; exact hK
    clear main
    (try simp only [↓w_X8_commonDivisor_0, ↓w_X8_commonDivisor_9, ↓v_X8_commonDivisor_9, ↓v_X8_commonDivisor_55, ↓b_goto, ↓b_ic_ge, ↓b_iconst, ↓b_if_eq, ↓b_if_le, ↓n_iinc, ↓b_iload, ↓n_istore, ↓b_lcmp, ↓b_lconst, ↓b_lload, ↓b_lload_n, ↓b_lrem, ↓b_lret, ↓n_lstore, ↓b_maxl, ↓b_sipush, ↓ldI_hit, ↓ldI_skip, ↓ldL_hit, ↓ldL_skip, ↓ldA_hit, ↓ldA_skip, ↓ldelK_nil, ↓ldelK_hit, ↓ldelK_skipI, ↓ldelK_skipA, ↓ldelK_skipL, ↓ldel2K_nil, ↓ldel2K_hit, ↓ldel2K_hit2, ↓ldel2K_skipI, ↓ldel2K_skipA, ↓ldel2K_skipL, lget_hit, lget_skip, ldel_nil, ldel_hit, ldel_skipI, ldel_skipA, ldel_skipL, ldel2_nil, ldel2_hit, ldel2_hit2, ldel2_skipI, ldel2_skipA, ldel2_skipL, vc_0, mCall_P0, mCat_nil, mCat_I, mCat_L, mCat_A, mRcv_A, mArg_nil, mArg_I, mArg_L, mArg_A, tsg, swt_nil, swt_cons, lkw_nil, lkw_cons, ↓reduceIte, Nat.reduceAdd, Nat.reduceEqDiff, Nat.reduceLeDiff, Nat.reduceMul, true_and, and_true, and_self, List.mem_cons, List.not_mem_nil, or_false, or_self, false_or, true_implies, false_implies, not_true_eq_false, not_false_eq_true, nI00, nI10, nI01, nI11, forall_const, implies_true])
    (try simp (disch := omega) only [ixq, ixz, sb_in, sb_in0, upI_sb, upI_sb0, sb_out, nI_add, nI_mul, nI_subq, Nat.zero_add, forall_eq, u2_at, u2_row, upd_at, upd_ne, nI0b, nI1b, nI00, nI10, nI01, nI11, true_implies, false_implies, not_true_eq_false, not_false_eq_true, and_true, true_and, implies_true, c0, c1, cd, rm, c2])
    (refine vc_from P0_ok ok_X8_commonDivisor [9,55] 8 ?_; rw [t_X8_commonDivisor_55])
    (try simp only [↓w_X8_commonDivisor_0, ↓w_X8_commonDivisor_9, ↓w_X8_commonDivisor_55, ↓v_X8_commonDivisor_9, ↓v_X8_commonDivisor_55, ↓b_goto, ↓b_ic_ge, ↓b_iconst, ↓b_if_eq, ↓b_if_le, ↓n_iinc, ↓b_iload, ↓n_istore, ↓b_lcmp, ↓b_lconst, ↓b_lload, ↓b_lload_n, ↓b_lrem, ↓b_lret, ↓n_lstore, ↓b_maxl, ↓b_sipush, ↓ldI_hit, ↓ldI_skip, ↓ldL_hit, ↓ldL_skip, ↓ldA_hit, ↓ldA_skip, ↓ldelK_nil, ↓ldelK_hit, ↓ldelK_skipI, ↓ldelK_skipA, ↓ldelK_skipL, ↓ldel2K_nil, ↓ldel2K_hit, ↓ldel2K_hit2, ↓ldel2K_skipI, ↓ldel2K_skipA, ↓ldel2K_skipL, lget_hit, lget_skip, ldel_nil, ldel_hit, ldel_skipI, ldel_skipA, ldel_skipL, ldel2_nil, ldel2_hit, ldel2_hit2, ldel2_skipI, ldel2_skipA, ldel2_skipL, vc_0, mCall_P0, mCat_nil, mCat_I, mCat_L, mCat_A, mRcv_A, mArg_nil, mArg_I, mArg_L, mArg_A, tsg, swt_nil, swt_cons, lkw_nil, lkw_cons, ↓reduceIte, Nat.reduceAdd, Nat.reduceEqDiff, Nat.reduceLeDiff, Nat.reduceMul, true_and, and_true, and_self, List.mem_cons, List.not_mem_nil, or_false, or_self, false_or, true_implies, false_implies, not_true_eq_false, not_false_eq_true, nI00, nI10, nI01, nI11, forall_const, implies_true])
    (try simp (disch := omega) only [ixq, ixz, sb_in, sb_in0, upI_sb, upI_sb0, sb_out, nI_add, nI_mul, nI_subq, Nat.zero_add, forall_eq, u2_at, u2_row, upd_at, upd_ne, nI0b, nI1b, nI00, nI10, nI01, nI11, true_implies, false_implies, not_true_eq_false, not_false_eq_true, and_true, true_and, implies_true, mx])
    exact hK
  · have c2 : (lg_cmp (kL (a % b)) 0 = 0) = False := by rw [lg_cmp_eq, kL_e0 (by omega)]; exact eq_false hc
    have i2 := main 40 1 b (a % b) (by omega) r (by omega) (by omega) (by
      have := Nat.mul_le_mul hb (show a % b ≤ 40320 by omega)
      exact Nat.lt_of_le_of_lt this (by decide)) gcd_st
    clear main hK
    (try simp only [↓w_X8_commonDivisor_0, ↓w_X8_commonDivisor_9, ↓v_X8_commonDivisor_9, ↓v_X8_commonDivisor_55, ↓b_goto, ↓b_ic_ge, ↓b_iconst, ↓b_if_eq, ↓b_if_le, ↓n_iinc, ↓b_iload, ↓n_istore, ↓b_lcmp, ↓b_lconst, ↓b_lload, ↓b_lload_n, ↓b_lrem, ↓b_lret, ↓n_lstore, ↓b_maxl, ↓b_sipush, ↓ldI_hit, ↓ldI_skip, ↓ldL_hit, ↓ldL_skip, ↓ldA_hit, ↓ldA_skip, ↓ldelK_nil, ↓ldelK_hit, ↓ldelK_skipI, ↓ldelK_skipA, ↓ldelK_skipL, ↓ldel2K_nil, ↓ldel2K_hit, ↓ldel2K_hit2, ↓ldel2K_skipI, ↓ldel2K_skipA, ↓ldel2K_skipL, lget_hit, lget_skip, ldel_nil, ldel_hit, ldel_skipI, ldel_skipA, ldel_skipL, ldel2_nil, ldel2_hit, ldel2_hit2, ldel2_skipI, ldel2_skipA, ldel2_skipL, vc_0, mCall_P0, mCat_nil, mCat_I, mCat_L, mCat_A, mRcv_A, mArg_nil, mArg_I, mArg_L, mArg_A, tsg, swt_nil, swt_cons, lkw_nil, lkw_cons, ↓reduceIte, Nat.reduceAdd, Nat.reduceEqDiff, Nat.reduceLeDiff, Nat.reduceMul, true_and, and_true, and_self, List.mem_cons, List.not_mem_nil, or_false, or_self, false_or, true_implies, false_implies, not_true_eq_false, not_false_eq_true, nI00, nI10, nI01, nI11, forall_const, implies_true])
    (try simp (disch := omega) only [ixq, ixz, sb_in, sb_in0, upI_sb, upI_sb0, sb_out, nI_add, nI_mul, nI_subq, Nat.zero_add, forall_eq, u2_at, u2_row, upd_at, upd_ne, nI0b, nI1b, nI00, nI10, nI01, nI11, true_implies, false_implies, not_true_eq_false, not_false_eq_true, and_true, true_and, implies_true, c0, c1, cd, rm, c2])
    exact vc_back P0_ok ok_X8_commonDivisor [9,55] 8 t_X8_commonDivisor_9 (i2) (by simp) (rfl)
theorem c_comDivE {a b : Nat} {va vb : Int64} (ea : va = kL a) (eb : vb = kL b) (ha : a ≤ 2 ^ 60) (b0 : 0 < b) (hb : b ≤ 40320) (hK : K (.inr (.inl (kL (Nat.gcd a b)))) μ) : mMet X (h + 1) m_X8_commonDivisor [.inr (.inl va), .inr (.inl vb)] μ K := by
  rw [ea, eb]
  exact c_comDiv ha b0 hb hK
theorem WR_of {s f : Int64} (f1 : 1 ≤ f.toInt) (f2 : f.toInt ≤ 40320) (h : -(2 ^ 60) ≤ s.toInt) (h2 : s.toInt ≤ 2 ^ 60) : WR (s / kL (Nat.gcd s.toInt.natAbs f.toInt.natAbs)) (f / kL (Nat.gcd s.toInt.natAbs f.toInt.natAbs)) s f := by
  have g0 : 0 < Nat.gcd s.toInt.natAbs f.toInt.natAbs := Nat.gcd_pos_of_pos_right _ (by omega)
  have g1 : Nat.gcd s.toInt.natAbs f.toInt.natAbs ≤ f.toInt.natAbs := Nat.gcd_le_right _ (by omega)
  have eg : (Int.gcd s.toInt f.toInt : Int) = (Nat.gcd s.toInt.natAbs f.toInt.natAbs : Int) := rfl
  have ei := kL_i (n := Nat.gcd s.toInt.natAbs f.toInt.natAbs) (by omega)
  refine ⟨f1, f2, h, h2, ?_, ?_⟩
  · rw [eg, ← ei]
    refine l_dvd h h2 (by rw [ei]; omega) ?_
    rw [ei, ← eg]
    exact Int.gcd_dvd_left ..
  · rw [eg, ← ei]
    refine l_dvd (by omega) (by omega) (by rw [ei]; omega) ?_
    rw [ei, ← eg]
    exact Int.gcd_dvd_right ..
theorem c_setWorth {tot : Nat → Int32} {W T w : Nat} (hw : w < W) (w8 : W ≤ 8) (eT : nI 1 <<< (nI W &&& 31) = nI T) (hT : T = 2 ^ W) (T256 : T ≤ 256) (b1 : μ.1 (x + 4) 1 = nI W) (f15 : μ.1 x 15 = nI W) (hm : ∀ s, s < T → μ.1 (x + 161) s = tot s) (ht : ∀ s, s < 256 → ∃ k, k ≤ 158400 ∧ tot s = nI k) (hK : ∀ a b, WR a b (fo T (woF tot W w) 0) (mFac W).toInt64 → K (.inl 0) (upL (upL μ (x + 162) w a) (x + 163) w b)) : mMet X (h + 3) m_X8_setWorth [.inr (.inr (7, 0, x)), .inl (nI w)] μ K := by
  have bd := woF_b (W := W) ht (show w < 8 by omega) T (by omega)
  have ff := mFac_f w8
  have wr := WR_of (s := fo T (woF tot W w) 0) ff.1 ff.2 (by omega) (by omega)
  have hK := hK _ _ wr
  clear wr
  have T0 : 1 ≤ T := by rw [hT]; exact Nat.one_le_two_pow
  (refine vc_met2 P2_ok ok_X8_setWorth cm_X8_setWorth [13,85,91] 8 t_X8_setWorth_0 (Nat.le_of_ble_eq_true rfl) ?_; simp only [mArg_nil, mArg_I, mArg_L, mArg_A, Nat.reduceAdd])
  have main : ∀ i s, s + i = T → bb X P2 m_X8_setWorth (h + 2) K (vc X P2 m_X8_setWorth (h + 2) K k_X8_setWorth [13,85,91] 8) s_X8_setWorth_13 [(5, .inl (nI s)), (3, .inr (.inl (fo s (woF tot W w) 0))), (2, .inl (nI (T - 1))), (0, .inr (.inr (7, 0, x))), (1, .inl (nI w))] [] μ ∧ ∀ v6 v7 : Int64, ∀ c : Int32, bb X P2 m_X8_setWorth (h + 2) K (vc X P2 m_X8_setWorth (h + 2) K k_X8_setWorth [13,85,91] 8) s_X8_setWorth_13 [(5, .inl (nI s)), (3, .inr (.inl (fo s (woF tot W w) 0))), (7, .inr (.inl v7)), (6, .inl c), (2, .inl (nI (T - 1))), (0, .inr (.inr (7, 0, x))), (1, .inl (nI w))] [] μ := by
    intro i
    induction i with
    | zero =>
      intro s hs
      have es : s = T := by omega
      subst es
      generalize fo s (woF tot W w) 0 = u at bd hK ⊢
      have ab := l_abs (s := u) (by omega) (by omega)
      have f0 : (0 : Int64) ≤ (mFac W).toInt64 := Int64.le_iff_toInt_le.mpr (show (0 : Int) ≤ _ from by omega)
      have f1 := l_abs3 f0
      have g0 : 0 < Nat.gcd u.toInt.natAbs (mFac W).toInt64.toInt.natAbs := Nat.gcd_pos_of_pos_right _ (by omega)
      have g1 : Nat.gcd u.toInt.natAbs (mFac W).toInt64.toInt.natAbs ≤ (mFac W).toInt64.toInt.natAbs := Nat.gcd_le_right _ (by omega)
      have cd : (kL (Nat.gcd u.toInt.natAbs (mFac W).toInt64.toInt.natAbs) = 0) = False := by rw [kL_e0 (by omega)]; exact eq_false (by omega)
      have c1 : (nI (s - 1) < nI s) = True := by rw [nI_ltq (by omega) (by omega)]; exact eq_true (by omega)
      refine ⟨?_, fun v6 v7 c => ?_⟩
      · (try simp only [↓w_X8_setWorth_0, ↓w_X8_setWorth_13, ↓v_X8_setWorth_13, ↓v_X8_setWorth_85, ↓v_X8_setWorth_91, ↓b_absl, ↓b_aload_n, ↓b_callS1_1, ↓b_callS2_2, ↓b_callV1_1, ↓b_getA, ↓b_getI, ↓b_getstatic, ↓b_goto, ↓b_i2l, ↓b_iaload, ↓b_ialoadF, ↓b_iand, ↓b_ic_gt, ↓b_iconst, ↓b_if_ne, ↓n_iinc, ↓b_iload, ↓b_iload_n, ↓b_ior, ↓b_ishl, ↓b_ishr, ↓n_istore, ↓n_istore_n, ↓n_isub, ↓b_ladd, ↓n_lastore, ↓b_lconst, ↓b_ldiv, ↓b_lload, ↓b_lload_n, ↓b_lmul, ↓n_lstore, ↓n_lstore_n, ↓b_vret, ↓ldI_hit, ↓ldI_skip, ↓ldL_hit, ↓ldL_skip, ↓ldA_hit, ↓ldA_skip, ↓ldelK_nil, ↓ldelK_hit, ↓ldelK_skipI, ↓ldelK_skipA, ↓ldelK_skipL, ↓ldel2K_nil, ↓ldel2K_hit, ↓ldel2K_hit2, ↓ldel2K_skipI, ↓ldel2K_skipA, ↓ldel2K_skipL, qP2_J6_bitCount_0f7a4, qP2_X0_allWorks, qP2_X8_commonDivisor, ↓bI_b, bI_0, nnot, lget_hit, lget_skip, ldel_nil, ldel_hit, ldel_skipI, ldel_skipA, ldel_skipL, ldel2_nil, ldel2_hit, ldel2_hit2, ldel2_skipI, ldel2_skipA, ldel2_skipL, vc_0, mCat_nil, mCat_I, mCat_L, mCat_A, mRcv_A, mArg_nil, mArg_I, mArg_L, mArg_A, tsg, swt_nil, swt_cons, lkw_nil, lkw_cons, ↓reduceIte, Nat.reduceAdd, Nat.reduceEqDiff, Nat.reduceLeDiff, Nat.reduceMul, true_and, and_true, and_self, List.mem_cons, List.not_mem_nil, or_false, or_self, false_or, true_implies, false_implies, not_true_eq_false, not_false_eq_true, nI00, nI10, nI01, nI11, forall_const, implies_true])
        (try simp (disch := omega) only [ixq, ixz, sb_in, sb_in0, upI_sb, upI_sb0, sb_out, nI_add, nI_mul, nI_subq, Nat.zero_add, forall_eq, u2_at, u2_row, upd_at, upd_ne, nI0b, nI1b, nI00, nI10, nI01, nI11, true_implies, false_implies, not_true_eq_false, not_false_eq_true, and_true, true_and, implies_true, c1])
        (refine vc_from P2_ok ok_X8_setWorth [13,85,91] 8 ?_; rw [t_X8_setWorth_91])
        (try simp only [↓w_X8_setWorth_0, ↓w_X8_setWorth_13, ↓w_X8_setWorth_85, ↓w_X8_setWorth_91, ↓v_X8_setWorth_13, ↓v_X8_setWorth_85, ↓v_X8_setWorth_91, ↓b_absl, ↓b_aload_n, ↓b_callS1_1, ↓b_callS2_2, ↓b_callV1_1, ↓b_getA, ↓b_getI, ↓b_getstatic, ↓b_goto, ↓b_i2l, ↓b_iaload, ↓b_ialoadF, ↓b_iand, ↓b_ic_gt, ↓b_iconst, ↓b_if_ne, ↓n_iinc, ↓b_iload, ↓b_iload_n, ↓b_ior, ↓b_ishl, ↓b_ishr, ↓n_istore, ↓n_istore_n, ↓n_isub, ↓b_ladd, ↓n_lastore, ↓b_lconst, ↓b_ldiv, ↓b_lload, ↓b_lload_n, ↓b_lmul, ↓n_lstore, ↓n_lstore_n, ↓b_vret, ↓ldI_hit, ↓ldI_skip, ↓ldL_hit, ↓ldL_skip, ↓ldA_hit, ↓ldA_skip, ↓ldelK_nil, ↓ldelK_hit, ↓ldelK_skipI, ↓ldelK_skipA, ↓ldelK_skipL, ↓ldel2K_nil, ↓ldel2K_hit, ↓ldel2K_hit2, ↓ldel2K_skipI, ↓ldel2K_skipA, ↓ldel2K_skipL, qP2_J6_bitCount_0f7a4, qP2_X0_allWorks, qP2_X8_commonDivisor, ↓bI_b, bI_0, nnot, lget_hit, lget_skip, ldel_nil, ldel_hit, ldel_skipI, ldel_skipA, ldel_skipL, ldel2_nil, ldel2_hit, ldel2_hit2, ldel2_skipI, ldel2_skipA, ldel2_skipL, vc_0, mCat_nil, mCat_I, mCat_L, mCat_A, mRcv_A, mArg_nil, mArg_I, mArg_L, mArg_A, tsg, swt_nil, swt_cons, lkw_nil, lkw_cons, ↓reduceIte, Nat.reduceAdd, Nat.reduceEqDiff, Nat.reduceLeDiff, Nat.reduceMul, true_and, and_true, and_self, List.mem_cons, List.not_mem_nil, or_false, or_self, false_or, true_implies, false_implies, not_true_eq_false, not_false_eq_true, nI00, nI10, nI01, nI11, forall_const, implies_true])
        (try simp (disch := omega) only [ixq, ixz, sb_in, sb_in0, upI_sb, upI_sb0, sb_out, nI_add, nI_mul, nI_subq, Nat.zero_add, forall_eq, u2_at, u2_row, upd_at, upd_ne, nI0b, nI1b, nI00, nI10, nI01, nI11, true_implies, false_implies, not_true_eq_false, not_false_eq_true, and_true, true_and, implies_true, f15])
        refine c_comDivE ab f1 (by omega) (by omega) (by omega) ?_
        generalize Nat.gcd u.toInt.natAbs (mFac W).toInt64.toInt.natAbs = g at hK cd ⊢
        (try simp only [↓w_X8_setWorth_0, ↓w_X8_setWorth_13, ↓w_X8_setWorth_85, ↓w_X8_setWorth_91, ↓v_X8_setWorth_13, ↓v_X8_setWorth_85, ↓v_X8_setWorth_91, ↓b_absl, ↓b_aload_n, ↓b_callS1_1, ↓b_callS2_2, ↓b_callV1_1, ↓b_getA, ↓b_getI, ↓b_getstatic, ↓b_goto, ↓b_i2l, ↓b_iaload, ↓b_ialoadF, ↓b_iand, ↓b_ic_gt, ↓b_iconst, ↓b_if_ne, ↓n_iinc, ↓b_iload, ↓b_iload_n, ↓b_ior, ↓b_ishl, ↓b_ishr, ↓n_istore, ↓n_istore_n, ↓n_isub, ↓b_ladd, ↓n_lastore, ↓b_lconst, ↓b_ldiv, ↓b_lload, ↓b_lload_n, ↓b_lmul, ↓n_lstore, ↓n_lstore_n, ↓b_vret, ↓ldI_hit, ↓ldI_skip, ↓ldL_hit, ↓ldL_skip, ↓ldA_hit, ↓ldA_skip, ↓ldelK_nil, ↓ldelK_hit, ↓ldelK_skipI, ↓ldelK_skipA, ↓ldelK_skipL, ↓ldel2K_nil, ↓ldel2K_hit, ↓ldel2K_hit2, ↓ldel2K_skipI, ↓ldel2K_skipA, ↓ldel2K_skipL, qP2_J6_bitCount_0f7a4, qP2_X0_allWorks, qP2_X8_commonDivisor, ↓bI_b, bI_0, nnot, lget_hit, lget_skip, ldel_nil, ldel_hit, ldel_skipI, ldel_skipA, ldel_skipL, ldel2_nil, ldel2_hit, ldel2_hit2, ldel2_skipI, ldel2_skipA, ldel2_skipL, vc_0, mCat_nil, mCat_I, mCat_L, mCat_A, mRcv_A, mArg_nil, mArg_I, mArg_L, mArg_A, tsg, swt_nil, swt_cons, lkw_nil, lkw_cons, ↓reduceIte, Nat.reduceAdd, Nat.reduceEqDiff, Nat.reduceLeDiff, Nat.reduceMul, true_and, and_true, and_self, List.mem_cons, List.not_mem_nil, or_false, or_self, false_or, true_implies, false_implies, not_true_eq_false, not_false_eq_true, nI00, nI10, nI01, nI11, forall_const, implies_true])
        (try simp (disch := omega) only [ixq, ixz, sb_in, sb_in0, upI_sb, upI_sb0, sb_out, nI_add, nI_mul, nI_subq, Nat.zero_add, forall_eq, u2_at, u2_row, upd_at, upd_ne, nI0b, nI1b, nI00, nI10, nI01, nI11, true_implies, false_implies, not_true_eq_false, not_false_eq_true, and_true, true_and, implies_true, cd])
        exact hK
      · (try simp only [↓w_X8_setWorth_0, ↓w_X8_setWorth_13, ↓v_X8_setWorth_13, ↓v_X8_setWorth_85, ↓v_X8_setWorth_91, ↓b_absl, ↓b_aload_n, ↓b_callS1_1, ↓b_callS2_2, ↓b_callV1_1, ↓b_getA, ↓b_getI, ↓b_getstatic, ↓b_goto, ↓b_i2l, ↓b_iaload, ↓b_ialoadF, ↓b_iand, ↓b_ic_gt, ↓b_iconst, ↓b_if_ne, ↓n_iinc, ↓b_iload, ↓b_iload_n, ↓b_ior, ↓b_ishl, ↓b_ishr, ↓n_istore, ↓n_istore_n, ↓n_isub, ↓b_ladd, ↓n_lastore, ↓b_lconst, ↓b_ldiv, ↓b_lload, ↓b_lload_n, ↓b_lmul, ↓n_lstore, ↓n_lstore_n, ↓b_vret, ↓ldI_hit, ↓ldI_skip, ↓ldL_hit, ↓ldL_skip, ↓ldA_hit, ↓ldA_skip, ↓ldelK_nil, ↓ldelK_hit, ↓ldelK_skipI, ↓ldelK_skipA, ↓ldelK_skipL, ↓ldel2K_nil, ↓ldel2K_hit, ↓ldel2K_hit2, ↓ldel2K_skipI, ↓ldel2K_skipA, ↓ldel2K_skipL, qP2_J6_bitCount_0f7a4, qP2_X0_allWorks, qP2_X8_commonDivisor, ↓bI_b, bI_0, nnot, lget_hit, lget_skip, ldel_nil, ldel_hit, ldel_skipI, ldel_skipA, ldel_skipL, ldel2_nil, ldel2_hit, ldel2_hit2, ldel2_skipI, ldel2_skipA, ldel2_skipL, vc_0, mCat_nil, mCat_I, mCat_L, mCat_A, mRcv_A, mArg_nil, mArg_I, mArg_L, mArg_A, tsg, swt_nil, swt_cons, lkw_nil, lkw_cons, ↓reduceIte, Nat.reduceAdd, Nat.reduceEqDiff, Nat.reduceLeDiff, Nat.reduceMul, true_and, and_true, and_self, List.mem_cons, List.not_mem_nil, or_false, or_self, false_or, true_implies, false_implies, not_true_eq_false, not_false_eq_true, nI00, nI10, nI01, nI11, forall_const, implies_true])
        (try simp (disch := omega) only [ixq, ixz, sb_in, sb_in0, upI_sb, upI_sb0, sb_out, nI_add, nI_mul, nI_subq, Nat.zero_add, forall_eq, u2_at, u2_row, upd_at, upd_ne, nI0b, nI1b, nI00, nI10, nI01, nI11, true_implies, false_implies, not_true_eq_false, not_false_eq_true, and_true, true_and, implies_true, c1])
        (refine vc_from P2_ok ok_X8_setWorth [13,85,91] 8 ?_; rw [t_X8_setWorth_91])
        (try simp only [↓w_X8_setWorth_0, ↓w_X8_setWorth_13, ↓w_X8_setWorth_85, ↓w_X8_setWorth_91, ↓v_X8_setWorth_13, ↓v_X8_setWorth_85, ↓v_X8_setWorth_91, ↓b_absl, ↓b_aload_n, ↓b_callS1_1, ↓b_callS2_2, ↓b_callV1_1, ↓b_getA, ↓b_getI, ↓b_getstatic, ↓b_goto, ↓b_i2l, ↓b_iaload, ↓b_ialoadF, ↓b_iand, ↓b_ic_gt, ↓b_iconst, ↓b_if_ne, ↓n_iinc, ↓b_iload, ↓b_iload_n, ↓b_ior, ↓b_ishl, ↓b_ishr, ↓n_istore, ↓n_istore_n, ↓n_isub, ↓b_ladd, ↓n_lastore, ↓b_lconst, ↓b_ldiv, ↓b_lload, ↓b_lload_n, ↓b_lmul, ↓n_lstore, ↓n_lstore_n, ↓b_vret, ↓ldI_hit, ↓ldI_skip, ↓ldL_hit, ↓ldL_skip, ↓ldA_hit, ↓ldA_skip, ↓ldelK_nil, ↓ldelK_hit, ↓ldelK_skipI, ↓ldelK_skipA, ↓ldelK_skipL, ↓ldel2K_nil, ↓ldel2K_hit, ↓ldel2K_hit2, ↓ldel2K_skipI, ↓ldel2K_skipA, ↓ldel2K_skipL, qP2_J6_bitCount_0f7a4, qP2_X0_allWorks, qP2_X8_commonDivisor, ↓bI_b, bI_0, nnot, lget_hit, lget_skip, ldel_nil, ldel_hit, ldel_skipI, ldel_skipA, ldel_skipL, ldel2_nil, ldel2_hit, ldel2_hit2, ldel2_skipI, ldel2_skipA, ldel2_skipL, vc_0, mCat_nil, mCat_I, mCat_L, mCat_A, mRcv_A, mArg_nil, mArg_I, mArg_L, mArg_A, tsg, swt_nil, swt_cons, lkw_nil, lkw_cons, ↓reduceIte, Nat.reduceAdd, Nat.reduceEqDiff, Nat.reduceLeDiff, Nat.reduceMul, true_and, and_true, and_self, List.mem_cons, List.not_mem_nil, or_false, or_self, false_or, true_implies, false_implies, not_true_eq_false, not_false_eq_true, nI00, nI10, nI01, nI11, forall_const, implies_true])
        (try simp (disch := omega) only [ixq, ixz, sb_in, sb_in0, upI_sb, upI_sb0, sb_out, nI_add, nI_mul, nI_subq, Nat.zero_add, forall_eq, u2_at, u2_row, upd_at, upd_ne, nI0b, nI1b, nI00, nI10, nI01, nI11, true_implies, false_implies, not_true_eq_false, not_false_eq_true, and_true, true_and, implies_true, f15])
        refine c_comDivE ab f1 (by omega) (by omega) (by omega) ?_
        generalize Nat.gcd u.toInt.natAbs (mFac W).toInt64.toInt.natAbs = g at hK cd ⊢
        (try simp only [↓w_X8_setWorth_0, ↓w_X8_setWorth_13, ↓w_X8_setWorth_85, ↓w_X8_setWorth_91, ↓v_X8_setWorth_13, ↓v_X8_setWorth_85, ↓v_X8_setWorth_91, ↓b_absl, ↓b_aload_n, ↓b_callS1_1, ↓b_callS2_2, ↓b_callV1_1, ↓b_getA, ↓b_getI, ↓b_getstatic, ↓b_goto, ↓b_i2l, ↓b_iaload, ↓b_ialoadF, ↓b_iand, ↓b_ic_gt, ↓b_iconst, ↓b_if_ne, ↓n_iinc, ↓b_iload, ↓b_iload_n, ↓b_ior, ↓b_ishl, ↓b_ishr, ↓n_istore, ↓n_istore_n, ↓n_isub, ↓b_ladd, ↓n_lastore, ↓b_lconst, ↓b_ldiv, ↓b_lload, ↓b_lload_n, ↓b_lmul, ↓n_lstore, ↓n_lstore_n, ↓b_vret, ↓ldI_hit, ↓ldI_skip, ↓ldL_hit, ↓ldL_skip, ↓ldA_hit, ↓ldA_skip, ↓ldelK_nil, ↓ldelK_hit, ↓ldelK_skipI, ↓ldelK_skipA, ↓ldelK_skipL, ↓ldel2K_nil, ↓ldel2K_hit, ↓ldel2K_hit2, ↓ldel2K_skipI, ↓ldel2K_skipA, ↓ldel2K_skipL, qP2_J6_bitCount_0f7a4, qP2_X0_allWorks, qP2_X8_commonDivisor, ↓bI_b, bI_0, nnot, lget_hit, lget_skip, ldel_nil, ldel_hit, ldel_skipI, ldel_skipA, ldel_skipL, ldel2_nil, ldel2_hit, ldel2_hit2, ldel2_skipI, ldel2_skipA, ldel2_skipL, vc_0, mCat_nil, mCat_I, mCat_L, mCat_A, mRcv_A, mArg_nil, mArg_I, mArg_L, mArg_A, tsg, swt_nil, swt_cons, lkw_nil, lkw_cons, ↓reduceIte, Nat.reduceAdd, Nat.reduceEqDiff, Nat.reduceLeDiff, Nat.reduceMul, true_and, and_true, and_self, List.mem_cons, List.not_mem_nil, or_false, or_self, false_or, true_implies, false_implies, not_true_eq_false, not_false_eq_true, nI00, nI10, nI01, nI11, forall_const, implies_true])
        (try simp (disch := omega) only [ixq, ixz, sb_in, sb_in0, upI_sb, upI_sb0, sb_out, nI_add, nI_mul, nI_subq, Nat.zero_add, forall_eq, u2_at, u2_row, upd_at, upd_ne, nI0b, nI1b, nI00, nI10, nI01, nI11, true_implies, false_implies, not_true_eq_false, not_false_eq_true, and_true, true_and, implies_true, cd])
        exact hK
    | succ i ih =>
      intro s hs
      have i2 := ih (s + 1) (by omega)
      rw [fo_s] at i2
      clear ih hK bd
      have c1 : (nI (T - 1) < nI s) = False := by rw [nI_ltq (by omega) (by omega)]; exact eq_false (by omega)
      generalize fo s (woF tot W w) 0 = u at i2 ⊢
      unfold woF at i2
      by_cases hb : nI s >>> (nI w &&& 31) &&& nI 1 = nI 1
      · have hb' : (nI s >>> (nI w &&& 31) &&& nI 1 = 0) = False := by rw [hb]; exact eq_false (by decide)
        rw [if_pos hb] at i2
        refine ⟨?_, fun v6 v7 c => ?_⟩
        · have i3 := i2.1
          clear i2
          (try simp only [↓w_X8_setWorth_0, ↓w_X8_setWorth_13, ↓v_X8_setWorth_13, ↓v_X8_setWorth_85, ↓v_X8_setWorth_91, ↓b_absl, ↓b_aload_n, ↓b_callS1_1, ↓b_callS2_2, ↓b_callV1_1, ↓b_getA, ↓b_getI, ↓b_getstatic, ↓b_goto, ↓b_i2l, ↓b_iaload, ↓b_ialoadF, ↓b_iand, ↓b_ic_gt, ↓b_iconst, ↓b_if_ne, ↓n_iinc, ↓b_iload, ↓b_iload_n, ↓b_ior, ↓b_ishl, ↓b_ishr, ↓n_istore, ↓n_istore_n, ↓n_isub, ↓b_ladd, ↓n_lastore, ↓b_lconst, ↓b_ldiv, ↓b_lload, ↓b_lload_n, ↓b_lmul, ↓n_lstore, ↓n_lstore_n, ↓b_vret, ↓ldI_hit, ↓ldI_skip, ↓ldL_hit, ↓ldL_skip, ↓ldA_hit, ↓ldA_skip, ↓ldelK_nil, ↓ldelK_hit, ↓ldelK_skipI, ↓ldelK_skipA, ↓ldelK_skipL, ↓ldel2K_nil, ↓ldel2K_hit, ↓ldel2K_hit2, ↓ldel2K_skipI, ↓ldel2K_skipA, ↓ldel2K_skipL, qP2_J6_bitCount_0f7a4, qP2_X0_allWorks, qP2_X8_commonDivisor, ↓bI_b, bI_0, nnot, lget_hit, lget_skip, ldel_nil, ldel_hit, ldel_skipI, ldel_skipA, ldel_skipL, ldel2_nil, ldel2_hit, ldel2_hit2, ldel2_skipI, ldel2_skipA, ldel2_skipL, vc_0, mCat_nil, mCat_I, mCat_L, mCat_A, mRcv_A, mArg_nil, mArg_I, mArg_L, mArg_A, tsg, swt_nil, swt_cons, lkw_nil, lkw_cons, ↓reduceIte, Nat.reduceAdd, Nat.reduceEqDiff, Nat.reduceLeDiff, Nat.reduceMul, true_and, and_true, and_self, List.mem_cons, List.not_mem_nil, or_false, or_self, false_or, true_implies, false_implies, not_true_eq_false, not_false_eq_true, nI00, nI10, nI01, nI11, forall_const, implies_true, hb'])
          (try simp (disch := omega) only [ixq, ixz, sb_in, sb_in0, upI_sb, upI_sb0, sb_out, nI_add, nI_mul, nI_subq, Nat.zero_add, forall_eq, u2_at, u2_row, upd_at, upd_ne, nI0b, nI1b, nI00, nI10, nI01, nI11, true_implies, false_implies, not_true_eq_false, not_false_eq_true, and_true, true_and, implies_true, c1, hb'])
          (refine vc_from P2_ok ok_X8_setWorth [13,85,91] 8 ?_; rw [t_X8_setWorth_85])
          (try simp only [↓w_X8_setWorth_0, ↓w_X8_setWorth_13, ↓w_X8_setWorth_85, ↓w_X8_setWorth_91, ↓v_X8_setWorth_13, ↓v_X8_setWorth_85, ↓v_X8_setWorth_91, ↓b_absl, ↓b_aload_n, ↓b_callS1_1, ↓b_callS2_2, ↓b_callV1_1, ↓b_getA, ↓b_getI, ↓b_getstatic, ↓b_goto, ↓b_i2l, ↓b_iaload, ↓b_ialoadF, ↓b_iand, ↓b_ic_gt, ↓b_iconst, ↓b_if_ne, ↓n_iinc, ↓b_iload, ↓b_iload_n, ↓b_ior, ↓b_ishl, ↓b_ishr, ↓n_istore, ↓n_istore_n, ↓n_isub, ↓b_ladd, ↓n_lastore, ↓b_lconst, ↓b_ldiv, ↓b_lload, ↓b_lload_n, ↓b_lmul, ↓n_lstore, ↓n_lstore_n, ↓b_vret, ↓ldI_hit, ↓ldI_skip, ↓ldL_hit, ↓ldL_skip, ↓ldA_hit, ↓ldA_skip, ↓ldelK_nil, ↓ldelK_hit, ↓ldelK_skipI, ↓ldelK_skipA, ↓ldelK_skipL, ↓ldel2K_nil, ↓ldel2K_hit, ↓ldel2K_hit2, ↓ldel2K_skipI, ↓ldel2K_skipA, ↓ldel2K_skipL, qP2_J6_bitCount_0f7a4, qP2_X0_allWorks, qP2_X8_commonDivisor, ↓bI_b, bI_0, nnot, lget_hit, lget_skip, ldel_nil, ldel_hit, ldel_skipI, ldel_skipA, ldel_skipL, ldel2_nil, ldel2_hit, ldel2_hit2, ldel2_skipI, ldel2_skipA, ldel2_skipL, vc_0, mCat_nil, mCat_I, mCat_L, mCat_A, mRcv_A, mArg_nil, mArg_I, mArg_L, mArg_A, tsg, swt_nil, swt_cons, lkw_nil, lkw_cons, ↓reduceIte, Nat.reduceAdd, Nat.reduceEqDiff, Nat.reduceLeDiff, Nat.reduceMul, true_and, and_true, and_self, List.mem_cons, List.not_mem_nil, or_false, or_self, false_or, true_implies, false_implies, not_true_eq_false, not_false_eq_true, nI00, nI10, nI01, nI11, forall_const, implies_true])
          (try simp (disch := omega) only [ixq, ixz, sb_in, sb_in0, upI_sb, upI_sb0, sb_out, nI_add, nI_mul, nI_subq, Nat.zero_add, forall_eq, u2_at, u2_row, upd_at, upd_ne, nI0b, nI1b, nI00, nI10, nI01, nI11, true_implies, false_implies, not_true_eq_false, not_false_eq_true, and_true, true_and, implies_true])
          exact vc_back P2_ok ok_X8_setWorth [13,85,91] 8 t_X8_setWorth_13 (i3) (by simp) (rfl)
        · have i3 := i2.2 v6 v7 c
          clear i2
          (try simp only [↓w_X8_setWorth_0, ↓w_X8_setWorth_13, ↓v_X8_setWorth_13, ↓v_X8_setWorth_85, ↓v_X8_setWorth_91, ↓b_absl, ↓b_aload_n, ↓b_callS1_1, ↓b_callS2_2, ↓b_callV1_1, ↓b_getA, ↓b_getI, ↓b_getstatic, ↓b_goto, ↓b_i2l, ↓b_iaload, ↓b_ialoadF, ↓b_iand, ↓b_ic_gt, ↓b_iconst, ↓b_if_ne, ↓n_iinc, ↓b_iload, ↓b_iload_n, ↓b_ior, ↓b_ishl, ↓b_ishr, ↓n_istore, ↓n_istore_n, ↓n_isub, ↓b_ladd, ↓n_lastore, ↓b_lconst, ↓b_ldiv, ↓b_lload, ↓b_lload_n, ↓b_lmul, ↓n_lstore, ↓n_lstore_n, ↓b_vret, ↓ldI_hit, ↓ldI_skip, ↓ldL_hit, ↓ldL_skip, ↓ldA_hit, ↓ldA_skip, ↓ldelK_nil, ↓ldelK_hit, ↓ldelK_skipI, ↓ldelK_skipA, ↓ldelK_skipL, ↓ldel2K_nil, ↓ldel2K_hit, ↓ldel2K_hit2, ↓ldel2K_skipI, ↓ldel2K_skipA, ↓ldel2K_skipL, qP2_J6_bitCount_0f7a4, qP2_X0_allWorks, qP2_X8_commonDivisor, ↓bI_b, bI_0, nnot, lget_hit, lget_skip, ldel_nil, ldel_hit, ldel_skipI, ldel_skipA, ldel_skipL, ldel2_nil, ldel2_hit, ldel2_hit2, ldel2_skipI, ldel2_skipA, ldel2_skipL, vc_0, mCat_nil, mCat_I, mCat_L, mCat_A, mRcv_A, mArg_nil, mArg_I, mArg_L, mArg_A, tsg, swt_nil, swt_cons, lkw_nil, lkw_cons, ↓reduceIte, Nat.reduceAdd, Nat.reduceEqDiff, Nat.reduceLeDiff, Nat.reduceMul, true_and, and_true, and_self, List.mem_cons, List.not_mem_nil, or_false, or_self, false_or, true_implies, false_implies, not_true_eq_false, not_false_eq_true, nI00, nI10, nI01, nI11, forall_const, implies_true, hb'])
          (try simp (disch := omega) only [ixq, ixz, sb_in, sb_in0, upI_sb, upI_sb0, sb_out, nI_add, nI_mul, nI_subq, Nat.zero_add, forall_eq, u2_at, u2_row, upd_at, upd_ne, nI0b, nI1b, nI00, nI10, nI01, nI11, true_implies, false_implies, not_true_eq_false, not_false_eq_true, and_true, true_and, implies_true, c1, hb'])
          (refine vc_from P2_ok ok_X8_setWorth [13,85,91] 8 ?_; rw [t_X8_setWorth_85])
          (try simp only [↓w_X8_setWorth_0, ↓w_X8_setWorth_13, ↓w_X8_setWorth_85, ↓w_X8_setWorth_91, ↓v_X8_setWorth_13, ↓v_X8_setWorth_85, ↓v_X8_setWorth_91, ↓b_absl, ↓b_aload_n, ↓b_callS1_1, ↓b_callS2_2, ↓b_callV1_1, ↓b_getA, ↓b_getI, ↓b_getstatic, ↓b_goto, ↓b_i2l, ↓b_iaload, ↓b_ialoadF, ↓b_iand, ↓b_ic_gt, ↓b_iconst, ↓b_if_ne, ↓n_iinc, ↓b_iload, ↓b_iload_n, ↓b_ior, ↓b_ishl, ↓b_ishr, ↓n_istore, ↓n_istore_n, ↓n_isub, ↓b_ladd, ↓n_lastore, ↓b_lconst, ↓b_ldiv, ↓b_lload, ↓b_lload_n, ↓b_lmul, ↓n_lstore, ↓n_lstore_n, ↓b_vret, ↓ldI_hit, ↓ldI_skip, ↓ldL_hit, ↓ldL_skip, ↓ldA_hit, ↓ldA_skip, ↓ldelK_nil, ↓ldelK_hit, ↓ldelK_skipI, ↓ldelK_skipA, ↓ldelK_skipL, ↓ldel2K_nil, ↓ldel2K_hit, ↓ldel2K_hit2, ↓ldel2K_skipI, ↓ldel2K_skipA, ↓ldel2K_skipL, qP2_J6_bitCount_0f7a4, qP2_X0_allWorks, qP2_X8_commonDivisor, ↓bI_b, bI_0, nnot, lget_hit, lget_skip, ldel_nil, ldel_hit, ldel_skipI, ldel_skipA, ldel_skipL, ldel2_nil, ldel2_hit, ldel2_hit2, ldel2_skipI, ldel2_skipA, ldel2_skipL, vc_0, mCat_nil, mCat_I, mCat_L, mCat_A, mRcv_A, mArg_nil, mArg_I, mArg_L, mArg_A, tsg, swt_nil, swt_cons, lkw_nil, lkw_cons, ↓reduceIte, Nat.reduceAdd, Nat.reduceEqDiff, Nat.reduceLeDiff, Nat.reduceMul, true_and, and_true, and_self, List.mem_cons, List.not_mem_nil, or_false, or_self, false_or, true_implies, false_implies, not_true_eq_false, not_false_eq_true, nI00, nI10, nI01, nI11, forall_const, implies_true])
          (try simp (disch := omega) only [ixq, ixz, sb_in, sb_in0, upI_sb, upI_sb0, sb_out, nI_add, nI_mul, nI_subq, Nat.zero_add, forall_eq, u2_at, u2_row, upd_at, upd_ne, nI0b, nI1b, nI00, nI10, nI01, nI11, true_implies, false_implies, not_true_eq_false, not_false_eq_true, and_true, true_and, implies_true])
          exact vc_back P2_ok ok_X8_setWorth [13,85,91] 8 t_X8_setWorth_13 (i3) (by simp) (rfl)
      · have hz : nI s >>> (nI w &&& 31) &&& nI 1 = nI 0 := (and_1 (y := nI s >>> (nI w &&& 31))).resolve_right hb
        have hb' : (nI s >>> (nI w &&& 31) &&& nI 1 = 0) = True := by rw [hz]; exact eq_true rfl
        rw [if_neg hb] at i2
        have o8 : s ||| 2 ^ w < T := by
          rw [hT]
          exact Nat.or_lt_two_pow (by omega) (Nat.pow_lt_pow_right (by decide) hw)
        have oe := bit_or2 s (by omega) w (by omega)
        have pw := pcN_W W (by omega) s (by omega) w hw hb
        have m1 := hm (s ||| 2 ^ w) o8
        have m2 := hm s (by omega)
        generalize s ||| 2 ^ w = sw at o8 oe m1 i2
        refine ⟨?_, fun v6 v7 c => ?_⟩
        · have i3 := i2.2 0 ((mFac (pcN s)).toInt64 * (mFac (W - 1 - pcN s)).toInt64) (nI (pcN s))
          clear i2
          (try simp only [↓w_X8_setWorth_0, ↓w_X8_setWorth_13, ↓v_X8_setWorth_13, ↓v_X8_setWorth_85, ↓v_X8_setWorth_91, ↓b_absl, ↓b_aload_n, ↓b_callS1_1, ↓b_callS2_2, ↓b_callV1_1, ↓b_getA, ↓b_getI, ↓b_getstatic, ↓b_goto, ↓b_i2l, ↓b_iaload, ↓b_ialoadF, ↓b_iand, ↓b_ic_gt, ↓b_iconst, ↓b_if_ne, ↓n_iinc, ↓b_iload, ↓b_iload_n, ↓b_ior, ↓b_ishl, ↓b_ishr, ↓n_istore, ↓n_istore_n, ↓n_isub, ↓b_ladd, ↓n_lastore, ↓b_lconst, ↓b_ldiv, ↓b_lload, ↓b_lload_n, ↓b_lmul, ↓n_lstore, ↓n_lstore_n, ↓b_vret, ↓ldI_hit, ↓ldI_skip, ↓ldL_hit, ↓ldL_skip, ↓ldA_hit, ↓ldA_skip, ↓ldelK_nil, ↓ldelK_hit, ↓ldelK_skipI, ↓ldelK_skipA, ↓ldelK_skipL, ↓ldel2K_nil, ↓ldel2K_hit, ↓ldel2K_hit2, ↓ldel2K_skipI, ↓ldel2K_skipA, ↓ldel2K_skipL, qP2_J6_bitCount_0f7a4, qP2_X0_allWorks, qP2_X8_commonDivisor, ↓bI_b, bI_0, nnot, lget_hit, lget_skip, ldel_nil, ldel_hit, ldel_skipI, ldel_skipA, ldel_skipL, ldel2_nil, ldel2_hit, ldel2_hit2, ldel2_skipI, ldel2_skipA, ldel2_skipL, vc_0, mCat_nil, mCat_I, mCat_L, mCat_A, mRcv_A, mArg_nil, mArg_I, mArg_L, mArg_A, tsg, swt_nil, swt_cons, lkw_nil, lkw_cons, ↓reduceIte, Nat.reduceAdd, Nat.reduceEqDiff, Nat.reduceLeDiff, Nat.reduceMul, true_and, and_true, and_self, List.mem_cons, List.not_mem_nil, or_false, or_self, false_or, true_implies, false_implies, not_true_eq_false, not_false_eq_true, nI00, nI10, nI01, nI11, forall_const, implies_true, hb'])
          (try simp (disch := omega) only [ixq, ixz, sb_in, sb_in0, upI_sb, upI_sb0, sb_out, nI_add, nI_mul, nI_subq, Nat.zero_add, forall_eq, u2_at, u2_row, upd_at, upd_ne, nI0b, nI1b, nI00, nI10, nI01, nI11, true_implies, false_implies, not_true_eq_false, not_false_eq_true, and_true, true_and, implies_true, c1, hb'])
          refine c_bitCount (by omega) ?_
          generalize pcN s = pc at pw i3 ⊢
          (try simp only [↓w_X8_setWorth_0, ↓w_X8_setWorth_13, ↓w_X8_setWorth_85, ↓w_X8_setWorth_91, ↓v_X8_setWorth_13, ↓v_X8_setWorth_85, ↓v_X8_setWorth_91, ↓b_absl, ↓b_aload_n, ↓b_callS1_1, ↓b_callS2_2, ↓b_callV1_1, ↓b_getA, ↓b_getI, ↓b_getstatic, ↓b_goto, ↓b_i2l, ↓b_iaload, ↓b_ialoadF, ↓b_iand, ↓b_ic_gt, ↓b_iconst, ↓b_if_ne, ↓n_iinc, ↓b_iload, ↓b_iload_n, ↓b_ior, ↓b_ishl, ↓b_ishr, ↓n_istore, ↓n_istore_n, ↓n_isub, ↓b_ladd, ↓n_lastore, ↓b_lconst, ↓b_ldiv, ↓b_lload, ↓b_lload_n, ↓b_lmul, ↓n_lstore, ↓n_lstore_n, ↓b_vret, ↓ldI_hit, ↓ldI_skip, ↓ldL_hit, ↓ldL_skip, ↓ldA_hit, ↓ldA_skip, ↓ldelK_nil, ↓ldelK_hit, ↓ldelK_skipI, ↓ldelK_skipA, ↓ldelK_skipL, ↓ldel2K_nil, ↓ldel2K_hit, ↓ldel2K_hit2, ↓ldel2K_skipI, ↓ldel2K_skipA, ↓ldel2K_skipL, qP2_J6_bitCount_0f7a4, qP2_X0_allWorks, qP2_X8_commonDivisor, ↓bI_b, bI_0, nnot, lget_hit, lget_skip, ldel_nil, ldel_hit, ldel_skipI, ldel_skipA, ldel_skipL, ldel2_nil, ldel2_hit, ldel2_hit2, ldel2_skipI, ldel2_skipA, ldel2_skipL, vc_0, mCat_nil, mCat_I, mCat_L, mCat_A, mRcv_A, mArg_nil, mArg_I, mArg_L, mArg_A, tsg, swt_nil, swt_cons, lkw_nil, lkw_cons, ↓reduceIte, Nat.reduceAdd, Nat.reduceEqDiff, Nat.reduceLeDiff, Nat.reduceMul, true_and, and_true, and_self, List.mem_cons, List.not_mem_nil, or_false, or_self, false_or, true_implies, false_implies, not_true_eq_false, not_false_eq_true, nI00, nI10, nI01, nI11, forall_const, implies_true])
          (try simp (disch := omega) only [ixq, ixz, sb_in, sb_in0, upI_sb, upI_sb0, sb_out, nI_add, nI_mul, nI_subq, Nat.zero_add, forall_eq, u2_at, u2_row, upd_at, upd_ne, nI0b, nI1b, nI00, nI10, nI01, nI11, true_implies, false_implies, not_true_eq_false, not_false_eq_true, and_true, true_and, implies_true, f15, oe, m1, m2])
          exact vc_back P2_ok ok_X8_setWorth [13,85,91] 8 t_X8_setWorth_13 (i3) (by simp) (rfl)
        · have i3 := i2.2 0 ((mFac (pcN s)).toInt64 * (mFac (W - 1 - pcN s)).toInt64) (nI (pcN s))
          clear i2
          (try simp only [↓w_X8_setWorth_0, ↓w_X8_setWorth_13, ↓v_X8_setWorth_13, ↓v_X8_setWorth_85, ↓v_X8_setWorth_91, ↓b_absl, ↓b_aload_n, ↓b_callS1_1, ↓b_callS2_2, ↓b_callV1_1, ↓b_getA, ↓b_getI, ↓b_getstatic, ↓b_goto, ↓b_i2l, ↓b_iaload, ↓b_ialoadF, ↓b_iand, ↓b_ic_gt, ↓b_iconst, ↓b_if_ne, ↓n_iinc, ↓b_iload, ↓b_iload_n, ↓b_ior, ↓b_ishl, ↓b_ishr, ↓n_istore, ↓n_istore_n, ↓n_isub, ↓b_ladd, ↓n_lastore, ↓b_lconst, ↓b_ldiv, ↓b_lload, ↓b_lload_n, ↓b_lmul, ↓n_lstore, ↓n_lstore_n, ↓b_vret, ↓ldI_hit, ↓ldI_skip, ↓ldL_hit, ↓ldL_skip, ↓ldA_hit, ↓ldA_skip, ↓ldelK_nil, ↓ldelK_hit, ↓ldelK_skipI, ↓ldelK_skipA, ↓ldelK_skipL, ↓ldel2K_nil, ↓ldel2K_hit, ↓ldel2K_hit2, ↓ldel2K_skipI, ↓ldel2K_skipA, ↓ldel2K_skipL, qP2_J6_bitCount_0f7a4, qP2_X0_allWorks, qP2_X8_commonDivisor, ↓bI_b, bI_0, nnot, lget_hit, lget_skip, ldel_nil, ldel_hit, ldel_skipI, ldel_skipA, ldel_skipL, ldel2_nil, ldel2_hit, ldel2_hit2, ldel2_skipI, ldel2_skipA, ldel2_skipL, vc_0, mCat_nil, mCat_I, mCat_L, mCat_A, mRcv_A, mArg_nil, mArg_I, mArg_L, mArg_A, tsg, swt_nil, swt_cons, lkw_nil, lkw_cons, ↓reduceIte, Nat.reduceAdd, Nat.reduceEqDiff, Nat.reduceLeDiff, Nat.reduceMul, true_and, and_true, and_self, List.mem_cons, List.not_mem_nil, or_false, or_self, false_or, true_implies, false_implies, not_true_eq_false, not_false_eq_true, nI00, nI10, nI01, nI11, forall_const, implies_true, hb'])
          (try simp (disch := omega) only [ixq, ixz, sb_in, sb_in0, upI_sb, upI_sb0, sb_out, nI_add, nI_mul, nI_subq, Nat.zero_add, forall_eq, u2_at, u2_row, upd_at, upd_ne, nI0b, nI1b, nI00, nI10, nI01, nI11, true_implies, false_implies, not_true_eq_false, not_false_eq_true, and_true, true_and, implies_true, c1, hb'])
          refine c_bitCount (by omega) ?_
          generalize pcN s = pc at pw i3 ⊢
          (try simp only [↓w_X8_setWorth_0, ↓w_X8_setWorth_13, ↓w_X8_setWorth_85, ↓w_X8_setWorth_91, ↓v_X8_setWorth_13, ↓v_X8_setWorth_85, ↓v_X8_setWorth_91, ↓b_absl, ↓b_aload_n, ↓b_callS1_1, ↓b_callS2_2, ↓b_callV1_1, ↓b_getA, ↓b_getI, ↓b_getstatic, ↓b_goto, ↓b_i2l, ↓b_iaload, ↓b_ialoadF, ↓b_iand, ↓b_ic_gt, ↓b_iconst, ↓b_if_ne, ↓n_iinc, ↓b_iload, ↓b_iload_n, ↓b_ior, ↓b_ishl, ↓b_ishr, ↓n_istore, ↓n_istore_n, ↓n_isub, ↓b_ladd, ↓n_lastore, ↓b_lconst, ↓b_ldiv, ↓b_lload, ↓b_lload_n, ↓b_lmul, ↓n_lstore, ↓n_lstore_n, ↓b_vret, ↓ldI_hit, ↓ldI_skip, ↓ldL_hit, ↓ldL_skip, ↓ldA_hit, ↓ldA_skip, ↓ldelK_nil, ↓ldelK_hit, ↓ldelK_skipI, ↓ldelK_skipA, ↓ldelK_skipL, ↓ldel2K_nil, ↓ldel2K_hit, ↓ldel2K_hit2, ↓ldel2K_skipI, ↓ldel2K_skipA, ↓ldel2K_skipL, qP2_J6_bitCount_0f7a4, qP2_X0_allWorks, qP2_X8_commonDivisor, ↓bI_b, bI_0, nnot, lget_hit, lget_skip, ldel_nil, ldel_hit, ldel_skipI, ldel_skipA, ldel_skipL, ldel2_nil, ldel2_hit, ldel2_hit2, ldel2_skipI, ldel2_skipA, ldel2_skipL, vc_0, mCat_nil, mCat_I, mCat_L, mCat_A, mRcv_A, mArg_nil, mArg_I, mArg_L, mArg_A, tsg, swt_nil, swt_cons, lkw_nil, lkw_cons, ↓reduceIte, Nat.reduceAdd, Nat.reduceEqDiff, Nat.reduceLeDiff, Nat.reduceMul, true_and, and_true, and_self, List.mem_cons, List.not_mem_nil, or_false, or_self, false_or, true_implies, false_implies, not_true_eq_false, not_false_eq_true, nI00, nI10, nI01, nI11, forall_const, implies_true])
          (try simp (disch := omega) only [ixq, ixz, sb_in, sb_in0, upI_sb, upI_sb0, sb_out, nI_add, nI_mul, nI_subq, Nat.zero_add, forall_eq, u2_at, u2_row, upd_at, upd_ne, nI0b, nI1b, nI00, nI10, nI01, nI11, true_implies, false_implies, not_true_eq_false, not_false_eq_true, and_true, true_and, implies_true, f15, oe, m1, m2])
          exact vc_back P2_ok ok_X8_setWorth [13,85,91] 8 t_X8_setWorth_13 (i3) (by simp) (rfl)
  have i2 := (main T 0 (by omega)).1
  rw [fo_0] at i2
  clear main
  (try simp only [↓w_X8_setWorth_0, ↓w_X8_setWorth_85, ↓w_X8_setWorth_91, ↓v_X8_setWorth_13, ↓v_X8_setWorth_85, ↓v_X8_setWorth_91, ↓b_absl, ↓b_aload_n, ↓b_callS1_1, ↓b_callS2_2, ↓b_callV1_1, ↓b_getA, ↓b_getI, ↓b_getstatic, ↓b_goto, ↓b_i2l, ↓b_iaload, ↓b_ialoadF, ↓b_iand, ↓b_ic_gt, ↓b_iconst, ↓b_if_ne, ↓n_iinc, ↓b_iload, ↓b_iload_n, ↓b_ior, ↓b_ishl, ↓b_ishr, ↓n_istore, ↓n_istore_n, ↓n_isub, ↓b_ladd, ↓n_lastore, ↓b_lconst, ↓b_ldiv, ↓b_lload, ↓b_lload_n, ↓b_lmul, ↓n_lstore, ↓n_lstore_n, ↓b_vret, ↓ldI_hit, ↓ldI_skip, ↓ldL_hit, ↓ldL_skip, ↓ldA_hit, ↓ldA_skip, ↓ldelK_nil, ↓ldelK_hit, ↓ldelK_skipI, ↓ldelK_skipA, ↓ldelK_skipL, ↓ldel2K_nil, ↓ldel2K_hit, ↓ldel2K_hit2, ↓ldel2K_skipI, ↓ldel2K_skipA, ↓ldel2K_skipL, qP2_J6_bitCount_0f7a4, qP2_X0_allWorks, qP2_X8_commonDivisor, ↓bI_b, bI_0, nnot, lget_hit, lget_skip, ldel_nil, ldel_hit, ldel_skipI, ldel_skipA, ldel_skipL, ldel2_nil, ldel2_hit, ldel2_hit2, ldel2_skipI, ldel2_skipA, ldel2_skipL, vc_0, mCat_nil, mCat_I, mCat_L, mCat_A, mRcv_A, mArg_nil, mArg_I, mArg_L, mArg_A, tsg, swt_nil, swt_cons, lkw_nil, lkw_cons, ↓reduceIte, Nat.reduceAdd, Nat.reduceEqDiff, Nat.reduceLeDiff, Nat.reduceMul, true_and, and_true, and_self, List.mem_cons, List.not_mem_nil, or_false, or_self, false_or, true_implies, false_implies, not_true_eq_false, not_false_eq_true, nI00, nI10, nI01, nI11, forall_const, implies_true])
  (try simp (disch := omega) only [ixq, ixz, sb_in, sb_in0, upI_sb, upI_sb0, sb_out, nI_add, nI_mul, nI_subq, Nat.zero_add, forall_eq, u2_at, u2_row, upd_at, upd_ne, nI0b, nI1b, nI00, nI10, nI01, nI11, true_implies, false_implies, not_true_eq_false, not_false_eq_true, and_true, true_and, implies_true, b1, eT])
  exact i2
end MWo
