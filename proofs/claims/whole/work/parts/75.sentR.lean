/-! the reference reads a SENTENCE: field 41 nodes, 42 ones, 43 within, 44 top, row 20 the nodes -/
def frT (Q Q' : Bk) : Prop := (∀ k, k ≠ 0 → k ≠ 20 → Q' k = Q k) ∧ ∀ j, j < 5 ∨ j = 10 ∨ (13 < j ∧ (j < 41 ∨ 44 < j)) → Q' 0 j = Q 0 j
def frU (Q Q' : Bk) : Prop := (∀ k, k ≠ 0 → k ≠ 20 → Q' k = Q k) ∧ ∀ j, j < 5 ∨ (13 < j ∧ (j < 41 ∨ 44 < j)) → Q' 0 j = Q 0 j
theorem frT_G {Q Q' : Bk} (h : frG Q Q') : frT Q Q' := ⟨fun k a _ => h.1 k a, fun j hj => h.2 j (by omega)⟩
theorem frT_t {Q Q1 Q2 : Bk} (h : frT Q Q1) (h2 : frT Q1 Q2) : frT Q Q2 := ⟨fun k a b => (h2.1 k a b).trans (h.1 k a b), fun j hj => (h2.2 j hj).trans (h.2 j hj)⟩
theorem frT_f {Q : Bk} {j : Nat} {x : Int32} (h1 : 41 ≤ j) (h2 : j ≤ 44) : frT Q (u2 Q 0 j x) := ⟨fun k h0 _ => u2_row h0, fun i hi => by rw [u2_at, upd_ne (by omega)]⟩
theorem frU_P {Q Q' : Bk} (h : frP Q Q') : frU Q Q' := ⟨fun k a _ => h.1 k a, fun j hj => h.2 j (by omega)⟩
theorem frU_t {Q Q1 Q2 : Bk} (h : frT Q Q1) (h2 : frU Q1 Q2) : frU Q Q2 := ⟨fun k a b => (h2.1 k a b).trans (h.1 k a b), fun j hj => (h2.2 j hj).trans (h.2 j (by omega))⟩
theorem frU_r {Q Q1 Q2 : Bk} (h : frU Q Q1) (h2 : frT Q1 Q2) : frU Q Q2 := ⟨fun k a b => (h2.1 k a b).trans (h.1 k a b), fun j hj => (h2.2 j (by omega)).trans (h.2 j hj)⟩
def laysF (s : Nat) (a b c d : Int32) (Q : Bk) : Bk := u2 (u2 (u2 (u2 (u2 Q 20 (4 * s) a) 20 (4 * s + 1) b) 20 (4 * s + 2) c) 20 (4 * s + 3) d) 0 41 (nI (s + 1))
theorem frT_lays {s : Nat} {a b c d : Int32} {Q : Bk} : frT Q (laysF s a b c d Q) := by
  unfold laysF
  refine ⟨fun k h0 h20 => ?_, fun j hj => ?_⟩
  · rw [u2_row h0, u2_row h20, u2_row h20, u2_row h20, u2_row h20]
  · rw [u2_at, upd_ne (by omega), u2_row (by decide), u2_row (by decide), u2_row (by decide), u2_row (by decide)]
theorem lays_at {s : Nat} {a b c d : Int32} {Q : Bk} : laysF s a b c d Q 20 (4 * s) = a ∧ laysF s a b c d Q 20 (4 * s + 1) = b ∧ laysF s a b c d Q 20 (4 * s + 2) = c ∧ laysF s a b c d Q 20 (4 * s + 3) = d ∧ (∀ j, j < 4 * s → laysF s a b c d Q 20 j = Q 20 j) ∧ laysF s a b c d Q 0 41 = nI (s + 1) ∧ ∀ j, j ≠ 41 → laysF s a b c d Q 0 j = Q 0 j := by
  unfold laysF
  refine ⟨?_, ?_, ?_, ?_, fun j hj => ?_, ?_, fun j hj => ?_⟩ <;> simp (disch := omega) only [u2_at, u2_row, upd_at, upd_ne]
theorem TK_lays {s : Nat} {a b c d : Int32} {Q T : Bk} {w : Int64} (h : TK Q w T) : TK (laysF s a b c d Q) w T := by
  unfold laysF
  exact TK_13 (TK_r (by decide) (TK_r (by decide) (TK_r (by decide) (TK_r (by decide) h)))) (by decide)
/-- both sides while a SENTENCE is read: s steps, o ones -/
def SR (Q S : Bk) (s o : Nat) : Prop := Q 0 41 = nI s ∧ Q 0 42 = nI o ∧ S 0 0 = nI o ∧ S 0 1 = nI s ∧ o ≤ 20 ∧ s ≤ 2 * o
/-- what was laid stays -/
def SG (Q S Q' S' : Bk) (s : Nat) : Prop := (∀ j, j < 4 * s → Q' 20 j = Q 20 j) ∧ ∀ i, i < s → S' 1 i = S 1 i ∧ S' 2 i = S 2 i ∧ S' 3 i = S 3 i
theorem SG_t {Q S Q1 S1 Q2 S2 : Bk} {s s1 : Nat} (h : SG Q S Q1 S1 s) (h2 : SG Q1 S1 Q2 S2 s1) (hs : s ≤ s1) : SG Q S Q2 S2 s := ⟨fun j hj => (h2.1 j (by omega)).trans (h.1 j hj), fun i hi => by
  have a := h.2 i hi
  have b := h2.2 i (by omega)
  exact ⟨b.1.trans a.1, b.2.1.trans a.2.1, b.2.2.trans a.2.2⟩⟩
def OUTS (K : MV → Mem → Prop) (μ : Mem) (m s o : Nat) (Q S : Bk) (p : PR) : Prop :=
  (p.1 = nI 1 → ∀ Q' w' k s' o' d l, frT Q Q' → Q' 0 43 = Q 0 43 → Q' 0 44 = nI k → SR Q' p.2.2 s' o' → SG Q S Q' p.2.2 s → o < o' → s' + 1 ≤ s + 2 * (o' - o) → k < s' → ND (Q' 20) p.2.2 d k s s' l → l + o ≤ o' → TK Q' w' p.2.1 → K (.inl (nI 1)) (sb (upL μ m 12 w') m 21 Q')) ∧
  (p.1 = nI 0 → ∀ Q' w', frU Q Q' → Q' 0 10 = p.2.1 0 10 → Q' 0 11 = p.2.1 0 11 → K (.inl (nI 0)) (sb (upL μ m 12 w') m 21 Q'))
section MSr
variable {X : mC} {h m : Nat} {K : MV → Mem → Prop} {μ : Mem} {Q T B S : Bk} {w : Int64} {G W s o : Nat}
theorem OUTS_0 {p : PR} {e : Int32} {T' B' : Bk} (hO : OUTS K μ m s o Q S p) (hp : p = (nI 0, failF e T', B')) {Q' : Bk} {w' : Int64} (hf : frU Q Q') (h10 : Q' 0 10 = e) (h11 : Q' 0 11 = T' 0 6) : K (.inl (nI 0)) (sb (upL μ m 12 w') m 21 Q') := by
  subst hp
  exact hO.2 rfl Q' w' hf (h10.trans (failF_10 (T := T')).symm) (h11.trans (failF_11 (e := e)).symm)
theorem OUTS_1 {p : PR} {T' B' : Bk} (hO : OUTS K μ m s o Q S p) (hp : p = (nI 1, T', B')) {Q' : Bk} {w' : Int64} {k s' o' d l : Nat} (h1 : frT Q Q') (h2 : Q' 0 43 = Q 0 43) (h3 : Q' 0 44 = nI k) (h4 : SR Q' B' s' o') (h5 : SG Q S Q' B' s) (h6 : o < o') (h7 : s' + 1 ≤ s + 2 * (o' - o)) (h8 : k < s') (h9 : ND (Q' 20) B' d k s s' l) (h10 : l + o ≤ o') (ht : TK Q' w' T') : K (.inl (nI 1)) (sb (upL μ m 12 w') m 21 Q') := by
  subst hp
  exact hO.1 rfl Q' w' k s' o' d l h1 h2 h3 h4 h5 h6 h7 h8 h9 h10 ht
theorem c_laysR {a b c d : Int32} (hs : s < 60) (h41 : Q 0 41 = nI s) (hK : K (.inl (nI s)) (sb μ m 21 (laysF s a b c d Q))) : mMet X (h + 1) m_X9_lays [.inr (.inr (8, 0, m)), .inl a, .inl b, .inl c, .inl d] (sb μ m 21 Q) K := by
  unfold laysF at hK
  (refine vc_met2 P0_ok ok_X9_lays cm_X9_lays [] 4 t_X9_lays_0 (Nat.le_of_ble_eq_true rfl) ?_; simp only [mArg_nil, mArg_I, mArg_L, mArg_A, Nat.reduceAdd])
  simp only [↓w_X9_lays_0, ↓b_aload_n, ↓b_dupA, ↓b_dupI, ↓b_getA, ↓b_getI, ↓b_iadd, ↓n_iastore, ↓b_iconst, ↓b_iload, ↓b_iload_n, ↓b_imul, ↓b_iret, ↓n_istore, ↓n_isub, ↓n_putI, ↓ldI_hit, ↓ldI_skip, ↓ldL_hit, ↓ldL_skip, ↓ldA_hit, ↓ldA_skip, ↓ldelK_nil, ↓ldelK_hit, ↓ldelK_skipI, ↓ldelK_skipA, ↓ldelK_skipL, lget_hit, lget_skip, ldel_nil, ldel_hit, ldel_skipI, ldel_skipA, ldel_skipL, ldel2_nil, ldel2_hit, ldel2_hit2, ldel2_skipI, ldel2_skipA, ldel2_skipL, vc_0, mCall_P0, mCat_nil, mCat_I, mCat_L, mCat_A, mRcv_A, mArg_nil, mArg_I, mArg_L, mArg_A, tsg, swt_nil, swt_cons, lkw_nil, lkw_cons, ↓reduceIte, Nat.reduceAdd, Nat.reduceEqDiff, Nat.reduceLeDiff, Nat.reduceMul, true_and, and_true, and_self, List.mem_cons, List.not_mem_nil, or_false, or_self, false_or, true_implies, false_implies, not_true_eq_false, not_false_eq_true, nI00, nI10, nI01, nI11, forall_const, implies_true]
  simp (disch := omega) only [ixq, ixz, sb_in, sb_in0, upI_sb, upI_sb0, sb_out, nI_add, nI_mul, nI_subq, Nat.zero_add, forall_eq, u2_at, u2_row, upd_at, upd_ne, nI0b, nI1b, nI00, nI10, nI01, nI11, true_implies, false_implies, not_true_eq_false, not_false_eq_true, and_true, true_and, implies_true, h41]
  have e : s + 1 - 1 = s := by omega
  rw [e]
  exact hK
end MSr
