/-! write: a text as a list of bytes -/
def Tt (L : List Int32) (l : Int32) (r : Nat → Int32) : Prop := l = nI L.length ∧ ∀ j, j < L.length → r j = L.getD j 0
theorem Tt_put {L : List Int32} {l v : Int32} {r : Nat → Int32} (h : Tt L l r) : Tt (L ++ [v]) (nI (L.length + 1)) (upd r L.length v) := by
  refine ⟨by rw [List.length_append]; rfl, fun j hj => ?_⟩
  rw [List.length_append, List.length_singleton] at hj
  by_cases e : j = L.length
  · subst e
    rw [upd_at, List.getD_eq_getElem?_getD, List.getElem?_append_right (Nat.le_refl _), Nat.sub_self]
    rfl
  · rw [upd_ne e, h.2 j (by omega), List.getD_eq_getElem?_getD, List.getD_eq_getElem?_getD, List.getElem?_append_left (by omega)]
def nmL : Nat → Nat → List Int32
  | 0, _ => []
  | k + 1, n => nmL k (n / 32) ++ (if n % 32 = 0 then [] else [nI (n % 32 + 96)])
def dgL (n : Int32) : Nat → List Int32
  | 0 => []
  | k + 1 => dgL n k ++ (if nI (10 ^ (4 - k)) ≤ n ∨ k = 4 then [nI 48 + (n / nI (10 ^ (4 - k)) - n / nI (10 ^ (4 - k)) / nI 10 * nI 10)] else [])
theorem nmL_len : ∀ k n, (nmL k n).length ≤ k := by
  intro k
  induction k with
  | zero => intro n; exact Nat.le_refl 0
  | succ k ih =>
    intro n
    have := ih (n / 32)
    unfold nmL
    rw [List.length_append]
    split
    · rw [List.length_nil]; omega
    · rw [List.length_singleton]; omega
theorem nmL_0 : ∀ k, nmL k 0 = [] := by
  intro k
  induction k with
  | zero => rfl
  | succ k ih =>
    unfold nmL
    rw [show (0 : Nat) / 32 = 0 from rfl, ih]
    rfl
theorem nmL_wl : ∀ k n, wlN k n → ∀ d, nmL (k + d) n = nmL k n := by
  intro k
  induction k with
  | zero =>
    intro n h d
    rw [show n = 0 from h, nmL_0, nmL_0]
  | succ k ih =>
    intro n h d
    rw [show k + 1 + d = (k + d) + 1 by omega]
    show nmL (k + d) (n / 32) ++ _ = nmL k (n / 32) ++ _
    rw [ih _ h.2.2 d]
theorem dgL_len (n : Int32) : ∀ k, (dgL n k).length ≤ k := by
  intro k
  induction k with
  | zero => exact Nat.le_refl 0
  | succ k ih =>
    unfold dgL
    rw [List.length_append]
    split
    · rw [List.length_singleton]; omega
    · rw [List.length_nil]; omega
theorem dgL_up (n : Int32) {i : Nat} (hi : i < 5) : (dgL n (i + 1)).length ≤ (dgL n 5).length := by
  have key : ∀ d, (dgL n (i + 1)).length ≤ (dgL n (i + 1 + d)).length := by
    intro d
    induction d with
    | zero => exact Nat.le_refl _
    | succ d ih =>
      show _ ≤ (dgL n (i + 1 + d) ++ _).length
      rw [List.length_append]
      omega
  have k := key (4 - i)
  rw [show i + 1 + (4 - i) = 5 by omega] at k
  exact k
theorem dgL_3 {k : Nat} (hk : k ≤ 999) : (dgL (nI k) 5).length ≤ 3 := by
  have a0 : ¬ (nI (10 ^ (4 - 0)) ≤ nI k ∨ 0 = 4) := by
    rw [nI_lq (by decide) (by omega)]
    omega
  have a1 : ¬ (nI (10 ^ (4 - 1)) ≤ nI k ∨ 1 = 4) := by
    rw [nI_lq (by decide) (by omega)]
    omega
  have e2 : dgL (nI k) 2 = [] := by
    show ([] ++ (if nI (10 ^ (4 - 0)) ≤ nI k ∨ 0 = 4 then _ else [])) ++ (if nI (10 ^ (4 - 1)) ≤ nI k ∨ 1 = 4 then _ else []) = []
    rw [if_neg a0, if_neg a1]
    rfl
  have one : ∀ (c : Prop) [Decidable c] (v : Int32), (if c then [v] else []).length ≤ 1 := fun c _ v => by
    split
    · exact Nat.le_refl 1
    · exact Nat.zero_le 1
  show ((((dgL (nI k) 2 ++ (if _ then [_] else [])) ++ (if _ then [_] else [])) ++ (if _ then [_] else []))).length ≤ 3
  rw [e2, List.length_append, List.length_append, List.length_append, List.length_nil]
  have b1 := one
  refine Nat.le_trans (Nat.add_le_add (Nat.add_le_add (Nat.add_le_add (Nat.le_refl 0) (one _ _)) (one _ _)) (one _ _)) (by decide)
theorem shr_c {a s : Nat} (ha : a < 2 ^ 30) (hs : s < 32) : ((nI a) >>> (nI s)).toBitVec.toNat = a / 2 ^ s := by
  have e : (nI a >>> nI s).toBitVec = (nI a).toBitVec.sshiftRight s := by
    rw [Int32.toBitVec_shiftRight]
    have h : ((nI s).toBitVec.smod 32) = BitVec.ofNat 32 s := by
      revert hs
      revert s
      decide
    rw [h, BitVec.sshiftRight_eq', BitVec.toNat_ofNat, Nat.mod_eq_of_lt (by omega)]
  rw [e, BitVec.sshiftRight_eq_of_msb_false, BitVec.toNat_ushiftRight]
  · show (BitVec.ofNat 32 a).toNat >>> s = _
    rw [BitVec.toNat_ofNat, Nat.mod_eq_of_lt (by omega), Nat.shiftRight_eq_div_pow]
  · rw [BitVec.msb_eq_false_iff_two_mul_lt]
    show 2 * (BitVec.ofNat 32 a).toNat < _
    rw [BitVec.toNat_ofNat, Nat.mod_eq_of_lt (by omega)]
    omega
theorem let_d {a k : Nat} (ha : a < 2 ^ 30) (hk : k < 6) : (nI a >>> (nI (25 - 5 * k) &&& 31)) &&& nI 31 = nI (a / 32 ^ (5 - k) % 32) := by
  have e : nI (25 - 5 * k) &&& 31 = nI (25 - 5 * k) := by
    revert hk
    revert k
    decide
  rw [e, pk_and _ 5 (by decide), shr_c ha (by omega), show 25 - 5 * k = 5 * (5 - k) by omega, Nat.pow_mul]
theorem putF_T {L : List Int32} {T : Bk} {v : Int32} (h : Tt L (T 0 1) (T 1)) (hL : L.length < 136) : Tt (L ++ [v]) ((putF v T) 0 1) ((putF v T) 1) := by
  unfold putF
  rw [h.1, if_neg (by rw [nI_lq (by omega) (by omega)]; omega), nI_clamp (by omega), nI_add, u2_at, upd_at, u2_row (by decide), u2_at]
  exact Tt_put h
theorem Tt_ok {L : List Int32} {T : Bk} (h : Tt L (T 0 1) (T 1)) (hL : L.length ≤ 136) : tOk T := ⟨_, hL, h.1⟩
theorem name_T {L : List Int32} {T : Bk} {a : Nat} (ha : a < 2 ^ 30) (h : Tt L (T 0 1) (T 1)) (hL : L.length + 6 ≤ 136) : ∀ i, i ≤ 6 → Tt (L ++ nmL i (a / 32 ^ (6 - i))) ((fo i (letF (nI a)) T) 0 1) ((fo i (letF (nI a)) T) 1) := by
  intro i
  induction i with
  | zero =>
    intro _
    rw [fo_0, show nmL 0 _ = [] from rfl, List.append_nil]
    exact h
  | succ i ih =>
    intro hi
    have h1 := ih (by omega)
    have l1 := nmL_len i (a / 32 ^ (6 - i))
    rw [fo_s]
    generalize fo i (letF (nI a)) T = T1 at h1 ⊢
    have ed : a / 32 ^ (6 - i) = a / 32 ^ (6 - (i + 1)) / 32 := by
      rw [Nat.div_div_eq_div_mul, ← Nat.pow_succ, show (6 - (i + 1)).succ = 6 - i by omega]
    have e5 : 6 - (i + 1) = 5 - i := by omega
    rw [ed, e5] at h1 l1
    rw [e5]
    unfold nmL letF
    rw [let_d ha (by omega)]
    generalize a / 32 ^ (5 - i) = d at h1 l1 ⊢
    by_cases hz : d % 32 = 0
    · rw [if_pos hz, if_pos (by rw [hz]; decide), List.append_nil]
      exact h1
    · rw [if_neg hz, if_neg (by rw [nI_le0 (by omega)]; exact hz), nI_add, ← List.append_assoc]
      exact putF_T h1 (by rw [List.length_append]; omega)
theorem num_T {L : List Int32} {T : Bk} {n : Int32} (h : Tt L (T 0 1) (T 1)) (hL : L.length + (dgL n 5).length ≤ 136) : ∀ i, i ≤ 5 → Tt (L ++ dgL n i) ((fo i (digF n) T) 0 1) ((fo i (digF n) T) 1) := by
  intro i
  induction i with
  | zero =>
    intro _
    rw [fo_0, show dgL n 0 = [] from rfl, List.append_nil]
    exact h
  | succ i ih =>
    intro hi
    have h1 := ih (by omega)
    have l1 := dgL_up n (show i < 5 by omega)
    clear ih
    generalize (dgL n 5).length = M at hL l1
    rw [fo_s]
    generalize fo i (digF n) T = T1 at h1 ⊢
    unfold dgL at l1 ⊢
    unfold digF
    by_cases hc : nI (10 ^ (4 - i)) ≤ n ∨ i = 4
    · rw [if_pos hc] at l1 ⊢
      rw [if_pos hc, ← List.append_assoc]
      rw [List.length_append, List.length_singleton] at l1
      exact putF_T h1 (by rw [List.length_append]; omega)
    · rw [if_neg hc, if_neg hc, List.append_nil]
      exact h1
def frWt (Q Q' : Bk) : Prop := (∀ k, k ≠ 0 → k ≠ 18 → k ≠ 19 → Q' k = Q k) ∧ ∀ j, j ≠ 38 → Q' 0 j = Q 0 j
theorem frWt_r {Q : Bk} : frWt Q Q := ⟨fun _ _ _ _ => rfl, fun _ _ => rfl⟩
theorem frWt_t {Q Q1 Q2 : Bk} (h : frWt Q Q1) (h2 : frWt Q1 Q2) : frWt Q Q2 := ⟨fun k a b c => (h2.1 k a b c).trans (h.1 k a b c), fun j hj => (h2.2 j hj).trans (h.2 j hj)⟩
theorem frWt_u {Q : Bk} {k j : Nat} {v : Int32} (hk : k = 18 ∨ k = 19 ∨ k = 0 ∧ j = 38) : frWt Q (u2 Q k j v) := by
  refine ⟨fun i a b c => u2_row (by omega), fun i hi => ?_⟩
  by_cases k0 : k = 0
  · subst k0
    rw [u2_at, upd_ne (by omega)]
  · rw [u2_row (by omega)]
theorem pv_6 : ∀ c, c < 7 → nI c + (-1) = (if c = 0 then -1 else nI (c - 1)) := by decide
theorem kL_div {a b : Nat} (ha : a < 2 ^ 62) (hb : b < 2 ^ 62) (b0 : 0 < b) : kL a / kL b = kL (a / b) := by
  apply kL_of
  rw [l_div (by rw [kL_i (by omega)]; omega) (by rw [kL_i (by omega)]; omega) (by rw [kL_i (by omega)]; omega), kL_i (by omega), kL_i (by omega)]
  exact (Int.ofNat_tdiv a b).symm
theorem kL_32 (d : Nat) : (kL d).toInt32 = nI d := by
  unfold kL
  rw [Int64.toInt32_ofInt]
  exact Int32.ofInt_eq_ofNat
section MXt
variable {X : mC} {h x m : Nat} {μ μ1 : Mem} {K : MV → Mem → Prop} {Q : Bk} {L : List Int32}
theorem c_putR {v : Int32} (ht : Tt L (Q 0 38) (Q 18)) (hL : L.length < 136) (hK : ∀ Q', frWt Q Q' → Q' 19 = Q 19 → Tt (L ++ [v]) (Q' 0 38) (Q' 18) → K (.inl 0) (sb μ m 21 Q')) : mMet X (h + 1) m_X9_put [.inr (.inr (8, 0, m)), .inl v] (sb μ m 21 Q) K := by
  have e := ht.1
  have hK := hK (u2 (u2 Q 18 L.length v) 0 38 (nI (L.length + 1))) (frWt_t (frWt_u (Or.inl rfl)) (frWt_u (Or.inr (Or.inr ⟨rfl, rfl⟩)))) (by rw [u2_row (by decide), u2_row (by decide)]) (by
    rw [u2_at, upd_at, u2_row (by decide), u2_at]
    exact Tt_put ht)
  (refine vc_met2 P0_ok ok_X9_put cm_X9_put [] 6 t_X9_put_0 (Nat.le_of_ble_eq_true rfl) ?_; simp only [mArg_nil, mArg_I, mArg_L, mArg_A, Nat.reduceAdd])
  (try simp only [↓w_X9_put_0, ↓b_aload_n, ↓b_dupA, ↓b_dupI, ↓b_getA, ↓b_getI, ↓b_iadd, ↓n_iastore, ↓b_iconst, ↓b_iload_n, ↓n_putI, ↓b_vret, ↓ldI_hit, ↓ldI_skip, ↓ldL_hit, ↓ldL_skip, ↓ldA_hit, ↓ldA_skip, ↓ldelK_nil, ↓ldelK_hit, ↓ldelK_skipI, ↓ldelK_skipA, ↓ldelK_skipL, lget_hit, lget_skip, ldel_nil, ldel_hit, ldel_skipI, ldel_skipA, ldel_skipL, ldel2_nil, ldel2_hit, ldel2_hit2, ldel2_skipI, ldel2_skipA, ldel2_skipL, vc_0, mCall_P0, mCat_nil, mCat_I, mCat_L, mCat_A, mRcv_A, mArg_nil, mArg_I, mArg_L, mArg_A, tsg, swt_nil, swt_cons, lkw_nil, lkw_cons, ↓reduceIte, Nat.reduceAdd, Nat.reduceEqDiff, Nat.reduceLeDiff, Nat.reduceMul, true_and, and_true, and_self, List.mem_cons, List.not_mem_nil, or_false, or_self, false_or, true_implies, false_implies, not_true_eq_false, not_false_eq_true, nI00, nI10, nI01, nI11, forall_const, implies_true])
  (try simp (disch := omega) only [ixq, ixz, sb_in, sb_in0, upI_sb, upI_sb0, sb_out, nI_add, nI_mul, nI_subq, Nat.zero_add, forall_eq, u2_row, upd_at, upd_ne, nI0b, nI1b, nI00, nI10, nI01, nI11, true_implies, false_implies, not_true_eq_false, not_false_eq_true, and_true, true_and, implies_true, e])
  exact hK
theorem c_putNameR {a : Nat} (ha : nameN a) (ht : Tt L (Q 0 38) (Q 18)) (hL : L.length + 6 ≤ 136) (hK : ∀ Q', frWt Q Q' → Tt (L ++ nmL 6 a) (Q' 0 38) (Q' 18) → K (.inl 0) (sb μ m 21 Q')) : mMet X (h + 2) m_X9_putName [.inr (.inr (8, 0, m)), .inr (.inl (lN (cvN 6 a)))] (sb μ m 21 Q) K := by
  obtain ⟨k, k1, k6, hw⟩ := ha
  have e1 : cvN 6 a = cvN k a := by
    have := wl_cv k a hw (6 - k)
    rwa [show k + (6 - k) = 6 by omega] at this
  have e2 : nmL 6 a = nmL k a := by
    have := nmL_wl k a hw (6 - k)
    rwa [show k + (6 - k) = 6 by omega] at this
  have e3 : lN (cvN k a) = kL (cvN k a) := (Int64.ofInt_eq_ofNat).symm
  rw [e1, e3]
  rw [e2] at hK
  clear e1 e2 e3
  have lets : ∀ j, j ≤ k → wlN (k - j) (a / 32 ^ j) := by
    intro j
    induction j with
    | zero => intro _; rw [Nat.sub_zero, Nat.pow_zero, Nat.div_one]; exact hw
    | succ j ih =>
      intro hj
      have z := ih (by omega)
      rw [show k - j = (k - (j + 1)) + 1 by omega] at z
      have := z.2.2
      rw [Nat.div_div_eq_div_mul, ← Nat.pow_succ] at this
      exact this
  (refine vc_met2 P0_ok ok_X9_putName cm_X9_putName [5,42,47,69] 8 t_X9_putName_0 (Nat.le_of_ble_eq_true rfl) ?_; simp only [mArg_nil, mArg_I, mArg_L, mArg_A, Nat.reduceAdd])
  have back : ∀ c i Q', c + i = k → frWt Q Q' → (∀ j, j < k → Q' 19 j = nI (a / 32 ^ j % 32 + 96)) → Tt (L ++ nmL i (a / 32 ^ c)) (Q' 0 38) (Q' 18) → bb X P0 m_X9_putName (h + 1) K (vc X P0 m_X9_putName (h + 1) K k_X9_putName [5,42,47,69] 8) s_X9_putName_47 [(4, .inl (if c = 0 then -1 else nI (c - 1))), (3, .inl (nI k)), (0, .inr (.inr (8, 0, m))), (1, .inr (.inl (kL (cvN k a))))] [] (sb μ m 21 Q') := by
    intro c
    induction c with
    | zero =>
      intro i Q' hc hf h19 h1
      have ei : i = k := by omega
      subst ei
      rw [Nat.pow_zero, Nat.div_one] at h1
      have hK := hK Q' hf h1
      rw [if_pos rfl]
      have c1 : ((-1 : Int32) < 0) = True := eq_true (by decide)
      generalize (-1 : Int32) = z at c1 ⊢
      (try simp only [↓w_X9_putName_0, ↓w_X9_putName_5, ↓w_X9_putName_42, ↓w_X9_putName_47, ↓v_X9_putName_5, ↓v_X9_putName_42, ↓v_X9_putName_47, ↓v_X9_putName_69, ↓b_aload_n, ↓b_bipush, ↓b_callV2_0, ↓b_getA, ↓b_goto, ↓b_iadd, ↓b_iaload, ↓n_iastore, ↓b_iconst, ↓b_if_le, ↓b_if_lt, ↓n_iinc, ↓b_iload, ↓b_iload_n, ↓n_istore, ↓n_istore_n, ↓n_isub, ↓b_l2i, ↓b_lcmp, ↓b_lconst, ↓b_ldc2_w, ↓b_ldiv, ↓b_lload, ↓b_lload_n, ↓b_lrem, ↓n_lstore, ↓b_vret, ↓ldI_hit, ↓ldI_skip, ↓ldL_hit, ↓ldL_skip, ↓ldA_hit, ↓ldA_skip, ↓ldelK_nil, ↓ldelK_hit, ↓ldelK_skipI, ↓ldelK_skipA, ↓ldelK_skipL, ↓ldel2K_nil, ↓ldel2K_hit, ↓ldel2K_hit2, ↓ldel2K_skipI, ↓ldel2K_skipA, ↓ldel2K_skipL, lget_hit, lget_skip, ldel_nil, ldel_hit, ldel_skipI, ldel_skipA, ldel_skipL, ldel2_nil, ldel2_hit, ldel2_hit2, ldel2_skipI, ldel2_skipA, ldel2_skipL, vc_0, mCall_P0, mCat_nil, mCat_I, mCat_L, mCat_A, mRcv_A, mArg_nil, mArg_I, mArg_L, mArg_A, tsg, swt_nil, swt_cons, lkw_nil, lkw_cons, ↓reduceIte, Nat.reduceAdd, Nat.reduceEqDiff, Nat.reduceLeDiff, Nat.reduceMul, true_and, and_true, and_self, List.mem_cons, List.not_mem_nil, or_false, or_self, false_or, true_implies, false_implies, not_true_eq_false, not_false_eq_true, nI00, nI10, nI01, nI11, forall_const, implies_true, c1])
      (refine vc_from P0_ok ok_X9_putName [5,42,47,69] 8 ?_; rw [t_X9_putName_69])
      (try simp only [↓w_X9_putName_0, ↓w_X9_putName_5, ↓w_X9_putName_42, ↓w_X9_putName_47, ↓w_X9_putName_69, ↓v_X9_putName_5, ↓v_X9_putName_42, ↓v_X9_putName_47, ↓v_X9_putName_69, ↓b_aload_n, ↓b_bipush, ↓b_callV2_0, ↓b_getA, ↓b_goto, ↓b_iadd, ↓b_iaload, ↓n_iastore, ↓b_iconst, ↓b_if_le, ↓b_if_lt, ↓n_iinc, ↓b_iload, ↓b_iload_n, ↓n_istore, ↓n_istore_n, ↓n_isub, ↓b_l2i, ↓b_lcmp, ↓b_lconst, ↓b_ldc2_w, ↓b_ldiv, ↓b_lload, ↓b_lload_n, ↓b_lrem, ↓n_lstore, ↓b_vret, ↓ldI_hit, ↓ldI_skip, ↓ldL_hit, ↓ldL_skip, ↓ldA_hit, ↓ldA_skip, ↓ldelK_nil, ↓ldelK_hit, ↓ldelK_skipI, ↓ldelK_skipA, ↓ldelK_skipL, ↓ldel2K_nil, ↓ldel2K_hit, ↓ldel2K_hit2, ↓ldel2K_skipI, ↓ldel2K_skipA, ↓ldel2K_skipL, lget_hit, lget_skip, ldel_nil, ldel_hit, ldel_skipI, ldel_skipA, ldel_skipL, ldel2_nil, ldel2_hit, ldel2_hit2, ldel2_skipI, ldel2_skipA, ldel2_skipL, vc_0, mCall_P0, mCat_nil, mCat_I, mCat_L, mCat_A, mRcv_A, mArg_nil, mArg_I, mArg_L, mArg_A, tsg, swt_nil, swt_cons, lkw_nil, lkw_cons, ↓reduceIte, Nat.reduceAdd, Nat.reduceEqDiff, Nat.reduceLeDiff, Nat.reduceMul, true_and, and_true, and_self, List.mem_cons, List.not_mem_nil, or_false, or_self, false_or, true_implies, false_implies, not_true_eq_false, not_false_eq_true, nI00, nI10, nI01, nI11, forall_const, implies_true])
      exact hK
    | succ c ih =>
      intro i Q' hc hf h19 h1
      have hz : a / 32 ^ c % 32 ≠ 0 := by
        have z := lets c (by omega)
        rw [show k - c = (k - c - 1) + 1 by omega] at z
        have := z.1
        omega
      have l1 := nmL_len i (a / 32 ^ (c + 1))
      have v1 := h19 c (by omega)
      have e2 := pv_6 c (by omega)
      have eL : L ++ nmL i (a / 32 ^ (c + 1)) ++ [nI (a / 32 ^ c % 32 + 96)] = L ++ nmL (i + 1) (a / 32 ^ c) := by
        have e : a / 32 ^ (c + 1) = a / 32 ^ c / 32 := by rw [Nat.div_div_eq_div_mul, ← Nat.pow_succ]
        rw [List.append_assoc, e]
        show _ = L ++ (nmL i (a / 32 ^ c / 32) ++ (if a / 32 ^ c % 32 = 0 then [] else [nI (a / 32 ^ c % 32 + 96)]))
        rw [if_neg hz]
      have i2 := fun Q2 f2 g2 h2 => ih (i + 1) Q2 (by omega) f2 g2 h2
      clear ih hK
      rw [if_neg (by omega), show c + 1 - 1 = c by omega]
      have c1 : (nI c < 0) = False := nI_lz (by omega)
      (try simp only [↓w_X9_putName_0, ↓w_X9_putName_5, ↓w_X9_putName_42, ↓w_X9_putName_47, ↓v_X9_putName_5, ↓v_X9_putName_42, ↓v_X9_putName_47, ↓v_X9_putName_69, ↓b_aload_n, ↓b_bipush, ↓b_callV2_0, ↓b_getA, ↓b_goto, ↓b_iadd, ↓b_iaload, ↓n_iastore, ↓b_iconst, ↓b_if_le, ↓b_if_lt, ↓n_iinc, ↓b_iload, ↓b_iload_n, ↓n_istore, ↓n_istore_n, ↓n_isub, ↓b_l2i, ↓b_lcmp, ↓b_lconst, ↓b_ldc2_w, ↓b_ldiv, ↓b_lload, ↓b_lload_n, ↓b_lrem, ↓n_lstore, ↓b_vret, ↓ldI_hit, ↓ldI_skip, ↓ldL_hit, ↓ldL_skip, ↓ldA_hit, ↓ldA_skip, ↓ldelK_nil, ↓ldelK_hit, ↓ldelK_skipI, ↓ldelK_skipA, ↓ldelK_skipL, ↓ldel2K_nil, ↓ldel2K_hit, ↓ldel2K_hit2, ↓ldel2K_skipI, ↓ldel2K_skipA, ↓ldel2K_skipL, lget_hit, lget_skip, ldel_nil, ldel_hit, ldel_skipI, ldel_skipA, ldel_skipL, ldel2_nil, ldel2_hit, ldel2_hit2, ldel2_skipI, ldel2_skipA, ldel2_skipL, vc_0, mCall_P0, mCat_nil, mCat_I, mCat_L, mCat_A, mRcv_A, mArg_nil, mArg_I, mArg_L, mArg_A, tsg, swt_nil, swt_cons, lkw_nil, lkw_cons, ↓reduceIte, Nat.reduceAdd, Nat.reduceEqDiff, Nat.reduceLeDiff, Nat.reduceMul, true_and, and_true, and_self, List.mem_cons, List.not_mem_nil, or_false, or_self, false_or, true_implies, false_implies, not_true_eq_false, not_false_eq_true, nI00, nI10, nI01, nI11, forall_const, implies_true, c1])
      (try simp (disch := omega) only [ixq, ixz, sb_in, sb_in0, upI_sb, upI_sb0, sb_out, nI_add, nI_mul, nI_subq, Nat.zero_add, forall_eq, u2_at, u2_row, upd_at, upd_ne, nI0b, nI1b, nI00, nI10, nI01, nI11, true_implies, false_implies, not_true_eq_false, not_false_eq_true, and_true, true_and, implies_true, v1])
      refine c_putR h1 (by rw [List.length_append]; omega) (fun Q2 f2 g2 h2 => ?_)
      rw [eL] at h2
      have i3 := i2 Q2 (frWt_t hf f2) (fun j hj => by rw [g2]; exact h19 j hj) h2
      clear i2
      rw [← e2] at i3
      (try simp only [↓w_X9_putName_0, ↓w_X9_putName_5, ↓w_X9_putName_42, ↓w_X9_putName_47, ↓v_X9_putName_5, ↓v_X9_putName_42, ↓v_X9_putName_47, ↓v_X9_putName_69, ↓b_aload_n, ↓b_bipush, ↓b_callV2_0, ↓b_getA, ↓b_goto, ↓b_iadd, ↓b_iaload, ↓n_iastore, ↓b_iconst, ↓b_if_le, ↓b_if_lt, ↓n_iinc, ↓b_iload, ↓b_iload_n, ↓n_istore, ↓n_istore_n, ↓n_isub, ↓b_l2i, ↓b_lcmp, ↓b_lconst, ↓b_ldc2_w, ↓b_ldiv, ↓b_lload, ↓b_lload_n, ↓b_lrem, ↓n_lstore, ↓b_vret, ↓ldI_hit, ↓ldI_skip, ↓ldL_hit, ↓ldL_skip, ↓ldA_hit, ↓ldA_skip, ↓ldelK_nil, ↓ldelK_hit, ↓ldelK_skipI, ↓ldelK_skipA, ↓ldelK_skipL, ↓ldel2K_nil, ↓ldel2K_hit, ↓ldel2K_hit2, ↓ldel2K_skipI, ↓ldel2K_skipA, ↓ldel2K_skipL, lget_hit, lget_skip, ldel_nil, ldel_hit, ldel_skipI, ldel_skipA, ldel_skipL, ldel2_nil, ldel2_hit, ldel2_hit2, ldel2_skipI, ldel2_skipA, ldel2_skipL, vc_0, mCall_P0, mCat_nil, mCat_I, mCat_L, mCat_A, mRcv_A, mArg_nil, mArg_I, mArg_L, mArg_A, tsg, swt_nil, swt_cons, lkw_nil, lkw_cons, ↓reduceIte, Nat.reduceAdd, Nat.reduceEqDiff, Nat.reduceLeDiff, Nat.reduceMul, true_and, and_true, and_self, List.mem_cons, List.not_mem_nil, or_false, or_self, false_or, true_implies, false_implies, not_true_eq_false, not_false_eq_true, nI00, nI10, nI01, nI11, forall_const, implies_true])
      (try simp (disch := omega) only [ixq, ixz, sb_in, sb_in0, upI_sb, upI_sb0, sb_out, nI_add, nI_mul, nI_subq, Nat.zero_add, forall_eq, u2_at, u2_row, upd_at, upd_ne, nI0b, nI1b, nI00, nI10, nI01, nI11, true_implies, false_implies, not_true_eq_false, not_false_eq_true, and_true, true_and, implies_true])
      exact vc_back P0_ok ok_X9_putName [5,42,47,69] 8 t_X9_putName_47 (i3) (by simp) (rfl)
  have main : ∀ i j Q', j + i = k → frWt Q Q' → (∀ t, t < j → Q' 19 t = nI (a / 32 ^ t % 32 + 96)) → Tt L (Q' 0 38) (Q' 18) → bb X P0 m_X9_putName (h + 1) K (vc X P0 m_X9_putName (h + 1) K k_X9_putName [5,42,47,69] 8) s_X9_putName_5 [(4, .inr (.inl (kL (cvN i (a / 32 ^ j))))), (3, .inl (nI j)), (0, .inr (.inr (8, 0, m))), (1, .inr (.inl (kL (cvN k a))))] [] (sb μ m 21 Q') := by
    intro i
    induction i with
    | zero =>
      intro j Q' hj hf h19 h1
      have ej : j = k := by omega
      subst ej
      have i3 := back j 0 Q' (by omega) hf h19 (by rw [show nmL 0 _ = [] from rfl, List.append_nil]; exact h1)
      rw [if_neg (by omega)] at i3
      clear back hK
      have c1 : (lg_cmp (kL (cvN 0 (a / 32 ^ j))) 0 ≤ 0) = True := by rw [show cvN 0 (a / 32 ^ j) = 0 from rfl, lg_cmp_le, kL_le0 (by omega)]; exact eq_true rfl
      generalize kL (cvN 0 (a / 32 ^ j)) = z at c1 ⊢
      (try simp only [↓w_X9_putName_0, ↓w_X9_putName_5, ↓v_X9_putName_5, ↓v_X9_putName_42, ↓v_X9_putName_47, ↓v_X9_putName_69, ↓b_aload_n, ↓b_bipush, ↓b_callV2_0, ↓b_getA, ↓b_goto, ↓b_iadd, ↓b_iaload, ↓n_iastore, ↓b_iconst, ↓b_if_le, ↓b_if_lt, ↓n_iinc, ↓b_iload, ↓b_iload_n, ↓n_istore, ↓n_istore_n, ↓n_isub, ↓b_l2i, ↓b_lcmp, ↓b_lconst, ↓b_ldc2_w, ↓b_ldiv, ↓b_lload, ↓b_lload_n, ↓b_lrem, ↓n_lstore, ↓b_vret, ↓ldI_hit, ↓ldI_skip, ↓ldL_hit, ↓ldL_skip, ↓ldA_hit, ↓ldA_skip, ↓ldelK_nil, ↓ldelK_hit, ↓ldelK_skipI, ↓ldelK_skipA, ↓ldelK_skipL, ↓ldel2K_nil, ↓ldel2K_hit, ↓ldel2K_hit2, ↓ldel2K_skipI, ↓ldel2K_skipA, ↓ldel2K_skipL, lget_hit, lget_skip, ldel_nil, ldel_hit, ldel_skipI, ldel_skipA, ldel_skipL, ldel2_nil, ldel2_hit, ldel2_hit2, ldel2_skipI, ldel2_skipA, ldel2_skipL, vc_0, mCall_P0, mCat_nil, mCat_I, mCat_L, mCat_A, mRcv_A, mArg_nil, mArg_I, mArg_L, mArg_A, tsg, swt_nil, swt_cons, lkw_nil, lkw_cons, ↓reduceIte, Nat.reduceAdd, Nat.reduceEqDiff, Nat.reduceLeDiff, Nat.reduceMul, true_and, and_true, and_self, List.mem_cons, List.not_mem_nil, or_false, or_self, false_or, true_implies, false_implies, not_true_eq_false, not_false_eq_true, nI00, nI10, nI01, nI11, forall_const, implies_true, c1])
      (refine vc_from P0_ok ok_X9_putName [5,42,47,69] 8 ?_; rw [t_X9_putName_42])
      (try simp only [↓w_X9_putName_0, ↓w_X9_putName_5, ↓w_X9_putName_42, ↓w_X9_putName_69, ↓v_X9_putName_5, ↓v_X9_putName_42, ↓v_X9_putName_47, ↓v_X9_putName_69, ↓b_aload_n, ↓b_bipush, ↓b_callV2_0, ↓b_getA, ↓b_goto, ↓b_iadd, ↓b_iaload, ↓n_iastore, ↓b_iconst, ↓b_if_le, ↓b_if_lt, ↓n_iinc, ↓b_iload, ↓b_iload_n, ↓n_istore, ↓n_istore_n, ↓n_isub, ↓b_l2i, ↓b_lcmp, ↓b_lconst, ↓b_ldc2_w, ↓b_ldiv, ↓b_lload, ↓b_lload_n, ↓b_lrem, ↓n_lstore, ↓b_vret, ↓ldI_hit, ↓ldI_skip, ↓ldL_hit, ↓ldL_skip, ↓ldA_hit, ↓ldA_skip, ↓ldelK_nil, ↓ldelK_hit, ↓ldelK_skipI, ↓ldelK_skipA, ↓ldelK_skipL, ↓ldel2K_nil, ↓ldel2K_hit, ↓ldel2K_hit2, ↓ldel2K_skipI, ↓ldel2K_skipA, ↓ldel2K_skipL, lget_hit, lget_skip, ldel_nil, ldel_hit, ldel_skipI, ldel_skipA, ldel_skipL, ldel2_nil, ldel2_hit, ldel2_hit2, ldel2_skipI, ldel2_skipA, ldel2_skipL, vc_0, mCall_P0, mCat_nil, mCat_I, mCat_L, mCat_A, mRcv_A, mArg_nil, mArg_I, mArg_L, mArg_A, tsg, swt_nil, swt_cons, lkw_nil, lkw_cons, ↓reduceIte, Nat.reduceAdd, Nat.reduceEqDiff, Nat.reduceLeDiff, Nat.reduceMul, true_and, and_true, and_self, List.mem_cons, List.not_mem_nil, or_false, or_self, false_or, true_implies, false_implies, not_true_eq_false, not_false_eq_true, nI00, nI10, nI01, nI11, forall_const, implies_true])
      (try simp (disch := omega) only [ixq, ixz, sb_in, sb_in0, upI_sb, upI_sb0, sb_out, nI_add, nI_mul, nI_subq, Nat.zero_add, forall_eq, u2_at, u2_row, upd_at, upd_ne, nI0b, nI1b, nI00, nI10, nI01, nI11, true_implies, false_implies, not_true_eq_false, not_false_eq_true, and_true, true_and, implies_true])
      exact i3
    | succ i ih =>
      intro j Q' hj hf h19 h1
      clear back hK
      have z := lets j (by omega)
      rw [show k - j = i + 1 by omega] at z
      have en : a / 32 ^ (j + 1) = a / 32 ^ j / 32 := by rw [Nat.div_div_eq_div_mul, ← Nat.pow_succ]
      have i2 := ih (j + 1) (u2 Q' 19 j (nI (a / 32 ^ j % 32 + 96))) (by omega) (frWt_t hf (frWt_u (Or.inr (Or.inl rfl)))) (fun t ht => by
        rw [u2_at]
        by_cases e : t = j
        · rw [e, upd_at]
        · rw [upd_ne e]
          exact h19 t (by omega)) (by rw [u2_row (by decide), u2_row (by decide)]; exact h1)
      clear ih
      rw [en] at i2
      generalize a / 32 ^ j = n at z i2 ⊢
      have cl : cvN (i + 1) n < 27 ^ (i + 1) := cv_lt (i + 1) n (wl_dg (i + 1) n z 0)
      have c62 : cvN (i + 1) n < 2 ^ 62 := Nat.lt_of_lt_of_le cl (Nat.le_trans (Nat.pow_le_pow_right (by decide) (show i + 1 ≤ 6 by omega)) (by decide))
      have cv : cvN (i + 1) n = 27 * cvN i (n / 32) + n % 32 := rfl
      have z1 := z.1
      have z2 := z.2.1
      have c1 : (lg_cmp (kL (cvN (i + 1) n)) 0 ≤ 0) = False := by rw [lg_cmp_le, kL_le0 c62]; exact eq_false (by omega)
      have c2 : ((27 : Int64) = 0) = False := eq_false (by decide)
      have d1 : kL (cvN (i + 1) n) / 27 = kL (cvN i (n / 32)) := by
        have e := kL_div (a := cvN (i + 1) n) (b := 27) c62 (by decide) (by decide)
        rw [show cvN (i + 1) n / 27 = cvN i (n / 32) by omega] at e
        exact e
      have r1 : (kL (cvN (i + 1) n) - kL (cvN i (n / 32)) * 27).toInt32 = nI (n % 32) := by
        have e := kL_rem (a := cvN (i + 1) n) (b := 27) c62 (by decide) (by decide)
        rw [show cvN (i + 1) n % 27 = n % 32 by omega, show kL 27 = 27 from rfl, d1] at e
        rw [e]
        exact kL_32 _
      clear cv cl c62
      generalize kL (cvN (i + 1) n) = V at c1 d1 r1 ⊢
      generalize kL (cvN i (n / 32)) = V2 at d1 r1 i2
      (try simp only [↓w_X9_putName_0, ↓w_X9_putName_5, ↓w_X9_putName_47, ↓w_X9_putName_69, ↓v_X9_putName_5, ↓v_X9_putName_42, ↓v_X9_putName_47, ↓v_X9_putName_69, ↓b_aload_n, ↓b_bipush, ↓b_callV2_0, ↓b_getA, ↓b_goto, ↓b_iadd, ↓b_iaload, ↓n_iastore, ↓b_iconst, ↓b_if_le, ↓b_if_lt, ↓n_iinc, ↓b_iload, ↓b_iload_n, ↓n_istore, ↓n_istore_n, ↓n_isub, ↓b_l2i, ↓b_lcmp, ↓b_lconst, ↓b_ldc2_w, ↓b_ldiv, ↓b_lload, ↓b_lload_n, ↓b_lrem, ↓n_lstore, ↓b_vret, ↓ldI_hit, ↓ldI_skip, ↓ldL_hit, ↓ldL_skip, ↓ldA_hit, ↓ldA_skip, ↓ldelK_nil, ↓ldelK_hit, ↓ldelK_skipI, ↓ldelK_skipA, ↓ldelK_skipL, ↓ldel2K_nil, ↓ldel2K_hit, ↓ldel2K_hit2, ↓ldel2K_skipI, ↓ldel2K_skipA, ↓ldel2K_skipL, lget_hit, lget_skip, ldel_nil, ldel_hit, ldel_skipI, ldel_skipA, ldel_skipL, ldel2_nil, ldel2_hit, ldel2_hit2, ldel2_skipI, ldel2_skipA, ldel2_skipL, vc_0, mCall_P0, mCat_nil, mCat_I, mCat_L, mCat_A, mRcv_A, mArg_nil, mArg_I, mArg_L, mArg_A, tsg, swt_nil, swt_cons, lkw_nil, lkw_cons, ↓reduceIte, Nat.reduceAdd, Nat.reduceEqDiff, Nat.reduceLeDiff, Nat.reduceMul, true_and, and_true, and_self, List.mem_cons, List.not_mem_nil, or_false, or_self, false_or, true_implies, false_implies, not_true_eq_false, not_false_eq_true, nI00, nI10, nI01, nI11, forall_const, implies_true, c1, c2])
      (try simp (disch := omega) only [ixq, ixz, sb_in, sb_in0, upI_sb, upI_sb0, sb_out, nI_add, nI_mul, nI_subq, Nat.zero_add, forall_eq, u2_row, upd_at, upd_ne, nI0b, nI1b, nI00, nI10, nI01, nI11, true_implies, false_implies, not_true_eq_false, not_false_eq_true, and_true, true_and, implies_true, d1, r1])
      exact vc_back P0_ok ok_X9_putName [5,42,47,69] 8 t_X9_putName_5 (i2) (by simp) (rfl)
  have i2 := main k 0 Q (by omega) frWt_r (fun t ht => absurd ht (Nat.not_lt_zero t)) ht
  clear main back
  rw [Nat.pow_zero, Nat.div_one] at i2
  (try simp only [↓w_X9_putName_0, ↓w_X9_putName_42, ↓w_X9_putName_47, ↓w_X9_putName_69, ↓v_X9_putName_5, ↓v_X9_putName_42, ↓v_X9_putName_47, ↓v_X9_putName_69, ↓b_aload_n, ↓b_bipush, ↓b_callV2_0, ↓b_getA, ↓b_goto, ↓b_iadd, ↓b_iaload, ↓n_iastore, ↓b_iconst, ↓b_if_le, ↓b_if_lt, ↓n_iinc, ↓b_iload, ↓b_iload_n, ↓n_istore, ↓n_istore_n, ↓n_isub, ↓b_l2i, ↓b_lcmp, ↓b_lconst, ↓b_ldc2_w, ↓b_ldiv, ↓b_lload, ↓b_lload_n, ↓b_lrem, ↓n_lstore, ↓b_vret, ↓ldI_hit, ↓ldI_skip, ↓ldL_hit, ↓ldL_skip, ↓ldA_hit, ↓ldA_skip, ↓ldelK_nil, ↓ldelK_hit, ↓ldelK_skipI, ↓ldelK_skipA, ↓ldelK_skipL, ↓ldel2K_nil, ↓ldel2K_hit, ↓ldel2K_hit2, ↓ldel2K_skipI, ↓ldel2K_skipA, ↓ldel2K_skipL, lget_hit, lget_skip, ldel_nil, ldel_hit, ldel_skipI, ldel_skipA, ldel_skipL, ldel2_nil, ldel2_hit, ldel2_hit2, ldel2_skipI, ldel2_skipA, ldel2_skipL, vc_0, mCall_P0, mCat_nil, mCat_I, mCat_L, mCat_A, mRcv_A, mArg_nil, mArg_I, mArg_L, mArg_A, tsg, swt_nil, swt_cons, lkw_nil, lkw_cons, ↓reduceIte, Nat.reduceAdd, Nat.reduceEqDiff, Nat.reduceLeDiff, Nat.reduceMul, true_and, and_true, and_self, List.mem_cons, List.not_mem_nil, or_false, or_self, false_or, true_implies, false_implies, not_true_eq_false, not_false_eq_true, nI00, nI10, nI01, nI11, forall_const, implies_true])
  (try simp (disch := omega) only [ixq, ixz, sb_in, sb_in0, upI_sb, upI_sb0, sb_out, nI_add, nI_mul, nI_subq, Nat.zero_add, forall_eq, u2_at, u2_row, upd_at, upd_ne, nI0b, nI1b, nI00, nI10, nI01, nI11, true_implies, false_implies, not_true_eq_false, not_false_eq_true, and_true, true_and, implies_true])
  exact i2
theorem c_putNumR {n : Int32} (n0 : 0 ≤ n) (ht : Tt L (Q 0 38) (Q 18)) (hL : L.length + (dgL n 5).length ≤ 136) (hK : ∀ Q', frWt Q Q' → Tt (L ++ dgL n 5) (Q' 0 38) (Q' 18) → K (.inl 0) (sb μ m 21 Q')) : mMet X (h + 2) m_X9_putNumber [.inr (.inr (8, 0, m)), .inl n] (sb μ m 21 Q) K := by
  have l1 : ∀ i, i < 5 → (dgL n (i + 1)).length ≤ (dgL n 5).length := fun i hi => dgL_up n hi
  (refine vc_met2 P0_ok ok_X9_putNumber cm_X9_putNumber [4,27,35] 8 t_X9_putNumber_0 (Nat.le_of_ble_eq_true rfl) ?_; simp only [mArg_nil, mArg_I, mArg_L, mArg_A, Nat.reduceAdd])
  have main : ∀ i k Q', k + i = 4 → frWt Q Q' → Tt (L ++ dgL n k) (Q' 0 38) (Q' 18) → bb X P0 m_X9_putNumber (h + 1) K (vc X P0 m_X9_putNumber (h + 1) K k_X9_putNumber [4,27,35] 8) s_X9_putNumber_4 [(2, .inl (nI (10 ^ (4 - k)))), (0, .inr (.inr (8, 0, m))), (1, .inl n)] [] (sb μ m 21 Q') := by
    intro i
    induction i with
    | zero =>
      intro k Q' hk hf h1
      have ek : k = 4 := by omega
      subst ek
      have l2 := l1 4 (by omega)
      have e4 : dgL n 5 = dgL n 4 ++ [nI 48 + (n - n / nI 10 * nI 10)] := by
        show dgL n 4 ++ (if nI (10 ^ (4 - 4)) ≤ n ∨ 4 = 4 then [nI 48 + (n / nI (10 ^ (4 - 4)) - n / nI (10 ^ (4 - 4)) / nI 10 * nI 10)] else []) = _
        rw [if_pos (Or.inr rfl), show nI (10 ^ (4 - 4)) = 1 from rfl, Int32.div_one]
      have c1 : (nI (10 ^ (4 - 4)) ≤ nI 1) = True := eq_true (by decide)
      rw [e4, ← List.append_assoc] at hK
      rw [e4, List.length_append, List.length_singleton] at hL
      (try simp only [↓w_X9_putNumber_0, ↓w_X9_putNumber_4, ↓v_X9_putNumber_4, ↓v_X9_putNumber_27, ↓v_X9_putNumber_35, ↓b_aload_n, ↓b_bipush, ↓b_callV2_0, ↓b_goto, ↓b_iadd, ↓b_ic_le, ↓b_ic_lt, ↓b_iconst, ↓b_idiv, ↓b_iload_n, ↓b_irem, ↓n_istore_n, ↓b_sipush, ↓b_vret, ↓ldI_hit, ↓ldI_skip, ↓ldL_hit, ↓ldL_skip, ↓ldA_hit, ↓ldA_skip, ↓ldelK_nil, ↓ldelK_hit, ↓ldelK_skipI, ↓ldelK_skipA, ↓ldelK_skipL, lget_hit, lget_skip, ldel_nil, ldel_hit, ldel_skipI, ldel_skipA, ldel_skipL, ldel2_nil, ldel2_hit, ldel2_hit2, ldel2_skipI, ldel2_skipA, ldel2_skipL, vc_0, mCall_P0, mCat_nil, mCat_I, mCat_L, mCat_A, mRcv_A, mArg_nil, mArg_I, mArg_L, mArg_A, tsg, swt_nil, swt_cons, lkw_nil, lkw_cons, ↓reduceIte, Nat.reduceAdd, Nat.reduceEqDiff, Nat.reduceLeDiff, Nat.reduceMul, true_and, and_true, and_self, List.mem_cons, List.not_mem_nil, or_false, or_self, false_or, true_implies, false_implies, not_true_eq_false, not_false_eq_true, nI00, nI10, nI01, nI11, forall_const, implies_true, c1])
      (refine vc_from P0_ok ok_X9_putNumber [4,27,35] 8 ?_; rw [t_X9_putNumber_35])
      (try simp only [↓w_X9_putNumber_0, ↓w_X9_putNumber_4, ↓w_X9_putNumber_27, ↓w_X9_putNumber_35, ↓v_X9_putNumber_4, ↓v_X9_putNumber_27, ↓v_X9_putNumber_35, ↓b_aload_n, ↓b_bipush, ↓b_callV2_0, ↓b_goto, ↓b_iadd, ↓b_ic_le, ↓b_ic_lt, ↓b_iconst, ↓b_idiv, ↓b_iload_n, ↓b_irem, ↓n_istore_n, ↓b_sipush, ↓b_vret, ↓ldI_hit, ↓ldI_skip, ↓ldL_hit, ↓ldL_skip, ↓ldA_hit, ↓ldA_skip, ↓ldelK_nil, ↓ldelK_hit, ↓ldelK_skipI, ↓ldelK_skipA, ↓ldelK_skipL, lget_hit, lget_skip, ldel_nil, ldel_hit, ldel_skipI, ldel_skipA, ldel_skipL, ldel2_nil, ldel2_hit, ldel2_hit2, ldel2_skipI, ldel2_skipA, ldel2_skipL, vc_0, mCall_P0, mCat_nil, mCat_I, mCat_L, mCat_A, mRcv_A, mArg_nil, mArg_I, mArg_L, mArg_A, tsg, swt_nil, swt_cons, lkw_nil, lkw_cons, ↓reduceIte, Nat.reduceAdd, Nat.reduceEqDiff, Nat.reduceLeDiff, Nat.reduceMul, true_and, and_true, and_self, List.mem_cons, List.not_mem_nil, or_false, or_self, false_or, true_implies, false_implies, not_true_eq_false, not_false_eq_true, nI00, nI10, nI01, nI11, forall_const, implies_true])
      refine ⟨by decide, ?_⟩
      refine c_putR h1 (by rw [List.length_append]; omega) (fun Q2 f2 _ h2 => ?_)
      (try simp only [↓w_X9_putNumber_0, ↓w_X9_putNumber_4, ↓w_X9_putNumber_27, ↓w_X9_putNumber_35, ↓v_X9_putNumber_4, ↓v_X9_putNumber_27, ↓v_X9_putNumber_35, ↓b_aload_n, ↓b_bipush, ↓b_callV2_0, ↓b_goto, ↓b_iadd, ↓b_ic_le, ↓b_ic_lt, ↓b_iconst, ↓b_idiv, ↓b_iload_n, ↓b_irem, ↓n_istore_n, ↓b_sipush, ↓b_vret, ↓ldI_hit, ↓ldI_skip, ↓ldL_hit, ↓ldL_skip, ↓ldA_hit, ↓ldA_skip, ↓ldelK_nil, ↓ldelK_hit, ↓ldelK_skipI, ↓ldelK_skipA, ↓ldelK_skipL, lget_hit, lget_skip, ldel_nil, ldel_hit, ldel_skipI, ldel_skipA, ldel_skipL, ldel2_nil, ldel2_hit, ldel2_hit2, ldel2_skipI, ldel2_skipA, ldel2_skipL, vc_0, mCall_P0, mCat_nil, mCat_I, mCat_L, mCat_A, mRcv_A, mArg_nil, mArg_I, mArg_L, mArg_A, tsg, swt_nil, swt_cons, lkw_nil, lkw_cons, ↓reduceIte, Nat.reduceAdd, Nat.reduceEqDiff, Nat.reduceLeDiff, Nat.reduceMul, true_and, and_true, and_self, List.mem_cons, List.not_mem_nil, or_false, or_self, false_or, true_implies, false_implies, not_true_eq_false, not_false_eq_true, nI00, nI10, nI01, nI11, forall_const, implies_true])
      exact hK Q2 (frWt_t hf f2) h2
    | succ i ih =>
      intro k Q' hk hf h1
      clear hK
      have l2 := l1 k (by omega)
      have c1 : (nI (10 ^ (4 - k)) ≤ nI 1) = False := eq_false (by
        have : k = 0 ∨ k = 1 ∨ k = 2 ∨ k = 3 := by omega
        rcases this with rfl | rfl | rfl | rfl <;> decide)
      have c2 : (nI (10 ^ (4 - k)) = 0) = False := eq_false (by
        have : k = 0 ∨ k = 1 ∨ k = 2 ∨ k = 3 := by omega
        rcases this with rfl | rfl | rfl | rfl <;> decide)
      have ed : nI (10 ^ (4 - k)) / nI 10 = nI (10 ^ (4 - (k + 1))) := by
        have : k = 0 ∨ k = 1 ∨ k = 2 ∨ k = 3 := by omega
        rcases this with rfl | rfl | rfl | rfl <;> decide
      have t10 : (nI 10 = 0) = False := eq_false (by decide)
      have fin : ∀ Q2, frWt Q Q2 → Tt (L ++ dgL n (k + 1)) (Q2 0 38) (Q2 18) → bb X P0 m_X9_putNumber (h + 1) K (vc X P0 m_X9_putNumber (h + 1) K k_X9_putNumber [4,27,35] 8) s_X9_putNumber_27 [(2, .inl (nI (10 ^ (4 - k)))), (0, .inr (.inr (8, 0, m))), (1, .inl n)] [] (sb μ m 21 Q2) := by
        intro Q2 f2 h2
        have i2 := ih (k + 1) Q2 (by omega) f2 h2
        clear ih
        (try simp only [↓w_X9_putNumber_0, ↓w_X9_putNumber_4, ↓w_X9_putNumber_27, ↓w_X9_putNumber_35, ↓v_X9_putNumber_4, ↓v_X9_putNumber_27, ↓v_X9_putNumber_35, ↓b_aload_n, ↓b_bipush, ↓b_callV2_0, ↓b_goto, ↓b_iadd, ↓b_ic_le, ↓b_ic_lt, ↓b_iconst, ↓b_idiv, ↓b_iload_n, ↓b_irem, ↓n_istore_n, ↓b_sipush, ↓b_vret, ↓ldI_hit, ↓ldI_skip, ↓ldL_hit, ↓ldL_skip, ↓ldA_hit, ↓ldA_skip, ↓ldelK_nil, ↓ldelK_hit, ↓ldelK_skipI, ↓ldelK_skipA, ↓ldelK_skipL, lget_hit, lget_skip, ldel_nil, ldel_hit, ldel_skipI, ldel_skipA, ldel_skipL, ldel2_nil, ldel2_hit, ldel2_hit2, ldel2_skipI, ldel2_skipA, ldel2_skipL, vc_0, mCall_P0, mCat_nil, mCat_I, mCat_L, mCat_A, mRcv_A, mArg_nil, mArg_I, mArg_L, mArg_A, tsg, swt_nil, swt_cons, lkw_nil, lkw_cons, ↓reduceIte, Nat.reduceAdd, Nat.reduceEqDiff, Nat.reduceLeDiff, Nat.reduceMul, true_and, and_true, and_self, List.mem_cons, List.not_mem_nil, or_false, or_self, false_or, true_implies, false_implies, not_true_eq_false, not_false_eq_true, nI00, nI10, nI01, nI11, forall_const, implies_true, t10])
        (try simp (disch := omega) only [ixq, ixz, sb_in, sb_in0, upI_sb, upI_sb0, sb_out, nI_add, nI_mul, nI_subq, Nat.zero_add, forall_eq, u2_at, u2_row, upd_at, upd_ne, nI0b, nI1b, nI00, nI10, nI01, nI11, true_implies, false_implies, not_true_eq_false, not_false_eq_true, and_true, true_and, implies_true, ed])
        exact vc_back P0_ok ok_X9_putNumber [4,27,35] 8 t_X9_putNumber_4 (i2) (by simp) (rfl)
      clear ih
      generalize hp : nI (10 ^ (4 - k)) = p at c1 c2 fin ⊢
      by_cases hc : p ≤ n
      · have e1 : dgL n (k + 1) = dgL n k ++ [nI 48 + (n / p - n / p / nI 10 * nI 10)] := by
          show dgL n k ++ (if nI (10 ^ (4 - k)) ≤ n ∨ k = 4 then [nI 48 + (n / nI (10 ^ (4 - k)) - n / nI (10 ^ (4 - k)) / nI 10 * nI 10)] else []) = _
          rw [hp, if_pos (Or.inl hc)]
        have hc' : (n < p) = False := eq_false (Int32.not_lt.mpr hc)
        rw [e1, List.length_append, List.length_singleton] at l2
        rw [e1, ← List.append_assoc] at fin
        (try simp only [↓w_X9_putNumber_0, ↓w_X9_putNumber_4, ↓v_X9_putNumber_4, ↓v_X9_putNumber_27, ↓v_X9_putNumber_35, ↓b_aload_n, ↓b_bipush, ↓b_callV2_0, ↓b_goto, ↓b_iadd, ↓b_ic_le, ↓b_ic_lt, ↓b_iconst, ↓b_idiv, ↓b_iload_n, ↓b_irem, ↓n_istore_n, ↓b_sipush, ↓b_vret, ↓ldI_hit, ↓ldI_skip, ↓ldL_hit, ↓ldL_skip, ↓ldA_hit, ↓ldA_skip, ↓ldelK_nil, ↓ldelK_hit, ↓ldelK_skipI, ↓ldelK_skipA, ↓ldelK_skipL, lget_hit, lget_skip, ldel_nil, ldel_hit, ldel_skipI, ldel_skipA, ldel_skipL, ldel2_nil, ldel2_hit, ldel2_hit2, ldel2_skipI, ldel2_skipA, ldel2_skipL, vc_0, mCall_P0, mCat_nil, mCat_I, mCat_L, mCat_A, mRcv_A, mArg_nil, mArg_I, mArg_L, mArg_A, tsg, swt_nil, swt_cons, lkw_nil, lkw_cons, ↓reduceIte, Nat.reduceAdd, Nat.reduceEqDiff, Nat.reduceLeDiff, Nat.reduceMul, true_and, and_true, and_self, List.mem_cons, List.not_mem_nil, or_false, or_self, false_or, true_implies, false_implies, not_true_eq_false, not_false_eq_true, nI00, nI10, nI01, nI11, forall_const, implies_true, c1, c2, t10, hc'])
        refine c_putR h1 (by rw [List.length_append]; omega) (fun Q2 f2 _ h2 => ?_)
        (try simp only [↓w_X9_putNumber_0, ↓w_X9_putNumber_4, ↓v_X9_putNumber_4, ↓v_X9_putNumber_27, ↓v_X9_putNumber_35, ↓b_aload_n, ↓b_bipush, ↓b_callV2_0, ↓b_goto, ↓b_iadd, ↓b_ic_le, ↓b_ic_lt, ↓b_iconst, ↓b_idiv, ↓b_iload_n, ↓b_irem, ↓n_istore_n, ↓b_sipush, ↓b_vret, ↓ldI_hit, ↓ldI_skip, ↓ldL_hit, ↓ldL_skip, ↓ldA_hit, ↓ldA_skip, ↓ldelK_nil, ↓ldelK_hit, ↓ldelK_skipI, ↓ldelK_skipA, ↓ldelK_skipL, lget_hit, lget_skip, ldel_nil, ldel_hit, ldel_skipI, ldel_skipA, ldel_skipL, ldel2_nil, ldel2_hit, ldel2_hit2, ldel2_skipI, ldel2_skipA, ldel2_skipL, vc_0, mCall_P0, mCat_nil, mCat_I, mCat_L, mCat_A, mRcv_A, mArg_nil, mArg_I, mArg_L, mArg_A, tsg, swt_nil, swt_cons, lkw_nil, lkw_cons, ↓reduceIte, Nat.reduceAdd, Nat.reduceEqDiff, Nat.reduceLeDiff, Nat.reduceMul, true_and, and_true, and_self, List.mem_cons, List.not_mem_nil, or_false, or_self, false_or, true_implies, false_implies, not_true_eq_false, not_false_eq_true, nI00, nI10, nI01, nI11, forall_const, implies_true])
        exact fin Q2 (frWt_t hf f2) h2
      · have e1 : dgL n (k + 1) = dgL n k := by
          show dgL n k ++ (if nI (10 ^ (4 - k)) ≤ n ∨ k = 4 then [nI 48 + (n / nI (10 ^ (4 - k)) - n / nI (10 ^ (4 - k)) / nI 10 * nI 10)] else []) = _
          rw [hp, if_neg (fun z => z.elim hc (fun z => by omega)), List.append_nil]
        have hc' : (n < p) = True := eq_true (Int32.not_le.mp hc)
        rw [e1] at fin
        have f2 := fin Q' hf h1
        clear fin
        (try simp only [↓w_X9_putNumber_0, ↓w_X9_putNumber_4, ↓v_X9_putNumber_4, ↓v_X9_putNumber_27, ↓v_X9_putNumber_35, ↓b_aload_n, ↓b_bipush, ↓b_callV2_0, ↓b_goto, ↓b_iadd, ↓b_ic_le, ↓b_ic_lt, ↓b_iconst, ↓b_idiv, ↓b_iload_n, ↓b_irem, ↓n_istore_n, ↓b_sipush, ↓b_vret, ↓ldI_hit, ↓ldI_skip, ↓ldL_hit, ↓ldL_skip, ↓ldA_hit, ↓ldA_skip, ↓ldelK_nil, ↓ldelK_hit, ↓ldelK_skipI, ↓ldelK_skipA, ↓ldelK_skipL, lget_hit, lget_skip, ldel_nil, ldel_hit, ldel_skipI, ldel_skipA, ldel_skipL, ldel2_nil, ldel2_hit, ldel2_hit2, ldel2_skipI, ldel2_skipA, ldel2_skipL, vc_0, mCall_P0, mCat_nil, mCat_I, mCat_L, mCat_A, mRcv_A, mArg_nil, mArg_I, mArg_L, mArg_A, tsg, swt_nil, swt_cons, lkw_nil, lkw_cons, ↓reduceIte, Nat.reduceAdd, Nat.reduceEqDiff, Nat.reduceLeDiff, Nat.reduceMul, true_and, and_true, and_self, List.mem_cons, List.not_mem_nil, or_false, or_self, false_or, true_implies, false_implies, not_true_eq_false, not_false_eq_true, nI00, nI10, nI01, nI11, forall_const, implies_true, c1, hc'])
        exact vc_back P0_ok ok_X9_putNumber [4,27,35] 8 t_X9_putNumber_27 (f2) (by simp) (rfl)
  have i2 := main 4 0 Q (by omega) frWt_r (by rw [show dgL n 0 = [] from rfl, List.append_nil]; exact ht)
  clear main
  (try simp only [↓w_X9_putNumber_0, ↓w_X9_putNumber_27, ↓w_X9_putNumber_35, ↓v_X9_putNumber_4, ↓v_X9_putNumber_27, ↓v_X9_putNumber_35, ↓b_aload_n, ↓b_bipush, ↓b_callV2_0, ↓b_goto, ↓b_iadd, ↓b_ic_le, ↓b_ic_lt, ↓b_iconst, ↓b_idiv, ↓b_iload_n, ↓b_irem, ↓n_istore_n, ↓b_sipush, ↓b_vret, ↓ldI_hit, ↓ldI_skip, ↓ldL_hit, ↓ldL_skip, ↓ldA_hit, ↓ldA_skip, ↓ldelK_nil, ↓ldelK_hit, ↓ldelK_skipI, ↓ldelK_skipA, ↓ldelK_skipL, lget_hit, lget_skip, ldel_nil, ldel_hit, ldel_skipI, ldel_skipA, ldel_skipL, ldel2_nil, ldel2_hit, ldel2_hit2, ldel2_skipI, ldel2_skipA, ldel2_skipL, vc_0, mCall_P0, mCat_nil, mCat_I, mCat_L, mCat_A, mRcv_A, mArg_nil, mArg_I, mArg_L, mArg_A, tsg, swt_nil, swt_cons, lkw_nil, lkw_cons, ↓reduceIte, Nat.reduceAdd, Nat.reduceEqDiff, Nat.reduceLeDiff, Nat.reduceMul, true_and, and_true, and_self, List.mem_cons, List.not_mem_nil, or_false, or_self, false_or, true_implies, false_implies, not_true_eq_false, not_false_eq_true, nI00, nI10, nI01, nI11, forall_const, implies_true])
  (try simp (disch := omega) only [ixq, ixz, sb_in, sb_in0, upI_sb, upI_sb0, sb_out, nI_add, nI_mul, nI_subq, Nat.zero_add, forall_eq, u2_at, u2_row, upd_at, upd_ne, nI0b, nI1b, nI00, nI10, nI01, nI11, true_implies, false_implies, not_true_eq_false, not_false_eq_true, and_true, true_and, implies_true])
  exact i2
end MXt
