/-! a BROOK is read -/
theorem nI_m1 {n : Nat} (h : n < 2 ^ 31) : (nI n = -1) = False := by
  apply propext
  refine ⟨fun e => ?_, False.elim⟩
  have : ¬ nI n < 0 := nI_pos h
  rw [e] at this
  exact this (by decide)
def nmF (f : Nat → Int32) (v : Int32) (n : Nat) : Int32 := fo n (fun j r => if r = -1 ∧ f j = v then nI j else r) (-1)
theorem nmF_none {f : Nat → Int32} {v : Int32} : ∀ n, (∀ j, j < n → ¬ f j = v) → nmF f v n = -1 := by
  intro n
  induction n with
  | zero => intro _; rfl
  | succ n ih =>
    intro h
    unfold nmF
    rw [fo_s]
    have e := ih (fun j hj => h j (by omega))
    unfold nmF at e
    rw [e, if_neg (fun z => h n (by omega) z.2)]
theorem nmF_hit {f : Nat → Int32} {v : Int32} {i : Nat} (hf : f i = v) (hi : ∀ j, j < i → ¬ f j = v) : ∀ n, i < n → n < 2 ^ 31 → nmF f v n = nI i := by
  intro n
  induction n with
  | zero => intro h; omega
  | succ n ih =>
    intro h hn
    unfold nmF
    rw [fo_s]
    by_cases hin : i = n
    · subst hin
      have e := nmF_none (f := f) (v := v) i hi
      unfold nmF at e
      rw [e, if_pos ⟨rfl, hf⟩]
    · have e := ih (by omega) (by omega)
      unfold nmF at e
      rw [e, if_neg (fun z => by have := z.1; rw [nI_m1 (by omega)] at this; exact this)]
theorem nmF_or {f : Nat → Int32} {v : Int32} : ∀ n, n < 2 ^ 31 → (nmF f v n = -1 ∧ ∀ j, j < n → ¬ f j = v) ∨ ∃ i, i < n ∧ nmF f v n = nI i ∧ f i = v ∧ ∀ j, j < i → ¬ f j = v := by
  intro n
  induction n with
  | zero => intro _; exact Or.inl ⟨rfl, fun j hj => absurd hj (Nat.not_lt_zero j)⟩
  | succ n ih =>
    intro hn
    rcases ih (by omega) with ⟨e, h1⟩ | ⟨i, hi, e, hf, h1⟩
    · by_cases hv : f n = v
      · exact Or.inr ⟨n, by omega, nmF_hit hv h1 (n + 1) (by omega) hn, hv, h1⟩
      · refine Or.inl ⟨nmF_none (n + 1) (all_s h1 hv), all_s h1 hv⟩
    · exact Or.inr ⟨i, by omega, nmF_hit hf h1 (n + 1) (by omega) hn, hf, h1⟩
def findF (f : Nat → Int32) (n : Nat) (T : Bk) : Int32 × Bk :=
  if T 0 5 = nI 2 ∧ T 0 8 = -1 then (if nmF f (T 0 7) n = -1 then (-1, failF (nI 3) T) else (nmF f (T 0 7) n, T)) else (-1, failF (nI 1) T)
theorem findF_ok {f : Nat → Int32} {n : Nat} {T : Bk} (h : tpOk T) : tpOk (findF f n T).2 := by
  unfold findF
  split
  · split
    · exact failF_ok h
    · exact h
  · exact failF_ok h
theorem findF_or {f : Nat → Int32} {n : Nat} {T : Bk} (hn : n < 2 ^ 31) : (findF f n T).1 = -1 ∨ ∃ i, i < n ∧ (findF f n T).1 = nI i ∧ (findF f n T).2 = T := by
  unfold findF
  split
  · split
    · exact Or.inl rfl
    · rename_i hc
      rcases nmF_or (f := f) (v := T 0 7) n hn with ⟨e, _⟩ | ⟨i, hi, e, _⟩
      · exact absurd e hc
      · exact Or.inr ⟨i, hi, e, rfl⟩
  · exact Or.inl rfl
def cellF (G W : Nat) (B T : Bk) : Int32 × Bk :=
  let a := findF (B 2) W (advF T)
  if a.1 = -1 then (-1, a.2) else
  let g := findF (B 1) G (advF a.2)
  if g.1 = -1 then (-1, g.2) else (a.1 * nI 6 + g.1, g.2)
theorem cellF_ok {G W : Nat} {B T : Bk} (h : tpOk T) : tpOk (cellF G W B T).2 := by
  unfold cellF
  simp only
  have h1 := findF_ok (f := B 2) (n := W) (advF_ok h)
  generalize findF (B 2) W (advF T) = a at h1 ⊢
  have h2 := findF_ok (f := B 1) (n := G) (advF_ok h1)
  generalize findF (B 1) G (advF a.2) = g at h2 ⊢
  by_cases c1 : a.1 = -1
  · rw [if_pos c1]; exact h1
  · rw [if_neg c1]
    by_cases c2 : g.1 = -1
    · rw [if_pos c2]; exact h2
    · rw [if_neg c2]; exact h2
theorem cellF_or {G W : Nat} {B T : Bk} (hG : G ≤ 6) (hW : W ≤ 8) : (cellF G W B T).1 = -1 ∨ ∃ w g, w < W ∧ g < G ∧ (cellF G W B T).1 = nI (w * 6 + g) ∧ (findF (B 2) W (advF T)).1 = nI w ∧ (findF (B 2) W (advF T)).2 = advF T ∧ (findF (B 1) G (advF (advF T))).1 = nI g ∧ (cellF G W B T).2 = advF (advF T) := by
  unfold cellF
  simp only
  rcases findF_or (f := B 2) (n := W) (T := advF T) (by omega) with e | ⟨w, hw, e, e2⟩
  · rw [if_pos e]; exact Or.inl rfl
  · rw [if_neg (by rw [e, nI_m1 (by omega)]; exact id), e2]
    rcases findF_or (f := B 1) (n := G) (T := advF (advF T)) (by omega) with k | ⟨g, hg, k, k2⟩
    · rw [if_pos k]; exact Or.inl rfl
    · rw [if_neg (by rw [k, nI_m1 (by omega)]; exact id)]
      exact Or.inr ⟨w, g, hw, hg, by rw [e, k, nI_mul, nI_add], e, rfl, k, k2⟩
def newF (G W : Nat) (B T : Bk) : Int32 × Bk :=
  if T 0 5 = nI 2 ∧ T 0 8 = -1 then (if nmF (B 1) (T 0 7) G = -1 ∧ nmF (B 2) (T 0 7) W = -1 then (nI 1, T) else (nI 0, failF (nI 3) T)) else (nI 0, failF (nI 1) T)
theorem newF_or {G W : Nat} {B T : Bk} : ((newF G W B T).1 = nI 1 ∧ (newF G W B T).2 = T) ∨ (newF G W B T).1 = nI 0 := by
  unfold newF
  split
  · split
    · exact Or.inl ⟨rfl, rfl⟩
    · exact Or.inr rfl
  · exact Or.inr rfl
abbrev PR : Type := Int32 × Bk × Bk
def rNewF (k c : Nat) (T B : Bk) : PR :=
  if 0 < B k c then (nI 0, failF (nI 3) T, B) else
  if numP (nI 1) (nI 9) (advF T) then (nI 1, numF (advF T), u2 B k c (advF T 0 7)) else (nI 0, failF (numE (advF T)) (advF T), B)
def rAmountF (G W k : Nat) (T B : Bk) : PR :=
  let p := cellF G W B T
  if p.1 = -1 then (nI 0, p.2, B) else rNewF k (cl p.1) p.2 B
def rTakesF (G W : Nat) (T B : Bk) : PR :=
  let p := cellF G W B T
  if p.1 = -1 then (nI 0, p.2, B) else
  let c := cl p.1
  let q := rNewF 7 c p.2 B
  if q.1 = 0 then (nI 0, q.2) else
  if numP (q.2.2 7 c) (nI 99) q.2.1 then
    (let B2 := u2 q.2.2 8 c (q.2.1 0 7)
     let T2 := numF q.2.1
     if numP (nI 0) (B2 8 c) T2 then (nI 1, numF T2, u2 B2 9 c (T2 0 7)) else (nI 0, failF (numE T2) T2, B2))
  else (nI 0, failF (numE q.2.1) q.2.1, q.2.2)
def rGoodF (G W : Nat) (T B : Bk) : PR :=
  if G = 6 then (nI 0, failF (nI 4) T, B) else
  let p := newF G W B (advF T)
  if p.1 = 0 then (nI 0, p.2, B) else
  let B1 := u2 B 1 G (p.2 0 7)
  let T2 := advF p.2
  if numP (nI 0) (nI 9) T2 then (nI 1, numF T2, u2 (u2 B1 3 G (T2 0 7)) 0 0 (nI (G + 1))) else (nI 0, failF (numE T2) T2, B1)
def rWorkF (G W : Nat) (T B : Bk) : PR :=
  if W = 8 then (nI 0, failF (nI 4) T, B) else
  let p := newF G W B (advF T)
  if p.1 = 0 then (nI 0, p.2, B) else
  let B1 := u2 (u2 (u2 B 2 W (p.2 0 7)) 4 W (nI 0)) 5 W (nI 11)
  let T2 := advF p.2
  if T2 0 5 = nI 3 then
    (if numP (nI 0) (nI 11) T2 then
      (let B2 := u2 B1 4 W (T2 0 7)
       let T3 := numF T2
       if numP (T2 0 7) (nI 11) T3 then (nI 1, numF T3, u2 (u2 B2 5 W (T3 0 7)) 0 1 (nI (W + 1))) else (nI 0, failF (numE T3) T3, B2))
     else (nI 0, failF (numE T2) T2, B1))
  else (nI 1, T2, u2 B1 0 1 (nI (W + 1)))
def rMakesF (W : Nat) (T B : Bk) : PR :=
  let p := findF (B 2) W (advF T)
  if p.1 = -1 then (nI 0, p.2, B) else
  let w := cl p.1
  if 0 < B 6 w then (nI 0, failF (nI 3) p.2, B) else
  let T2 := advF p.2
  if numP (nI 1) (nI 99) T2 then (nI 1, numF T2, u2 B 6 w (T2 0 7)) else (nI 0, failF (numE T2) T2, B)
def rJoinF (T B : Bk) : PR := if B 0 3 = 0 then (nI 1, advF T, u2 B 0 3 (nI 1)) else (nI 0, failF (nI 3) T, B)
section MRd
variable {X : mC} {h t b : Nat} {K : MV → Mem → Prop} {μ : Mem} {T B : Bk} {G W : Nat}
theorem c_workNamed {v : Int32} (hB : ∀ k, k < 12 → μ.1 (b + k) = B k) (hW : B 0 1 = nI W) (hW8 : W ≤ 8) (hK : K (.inl (nmF (B 2) v W)) μ) : mMet X (h + 1) m_X0_workNamed [.inr (.inr (0, 0, b)), .inl v] μ K := by
  have hB0 : μ.1 b = B 0 := hB 0 (by omega)
  (refine vc_met2 P0_ok ok_X0_workNamed cm_X0_workNamed [2] 6 t_X0_workNamed_0 (Nat.le_of_ble_eq_true rfl) ?_; simp only [mArg_nil, mArg_I, mArg_L, mArg_A, Nat.reduceAdd])
  simp only [↓w_X0_workNamed_0, ↓w_X0_workNamed_22, ↓w_X0_workNamed_28, ↓v_X0_workNamed_2, ↓v_X0_workNamed_22, ↓v_X0_workNamed_28, ↓b_aload_n, ↓b_getA, ↓b_getI, ↓b_goto, ↓b_iaload, ↓b_ic_ge, ↓b_ic_ne, ↓b_iconst, ↓n_iinc, ↓b_iload_n, ↓b_iret, ↓n_istore_n, ↓ldI_hit, ↓ldI_skip, ↓ldL_hit, ↓ldL_skip, ↓ldA_hit, ↓ldA_skip, ↓ldelK_nil, ↓ldelK_hit, ↓ldelK_skipI, ↓ldelK_skipA, ↓ldelK_skipL, lget_hit, lget_skip, ldel_nil, ldel_hit, ldel_skipI, ldel_skipA, ldel_skipL, ldel2_nil, ldel2_hit, ldel2_hit2, ldel2_skipI, ldel2_skipA, ldel2_skipL, vc_0, mCall_P0, mCat_nil, mCat_I, mCat_L, mCat_A, mRcv_A, mArg_nil, mArg_I, mArg_L, mArg_A, tsg, swt_nil, swt_cons, lkw_nil, lkw_cons, ↓reduceIte, Nat.reduceAdd, Nat.reduceEqDiff, Nat.reduceLeDiff, Nat.reduceMul, true_and, and_true, and_self, List.mem_cons, List.not_mem_nil, or_false, or_self, false_or, true_implies, false_implies, not_true_eq_false, not_false_eq_true, nI00, nI10, nI01, nI11, forall_const, implies_true]
  rintro _ rfl
  refine loop_up (fun i => (∀ j, j < i → ¬ B 2 j = v) → bb X P0 m_X0_workNamed (h) K (vc X P0 m_X0_workNamed (h) K k_X0_workNamed [2] 6) s_X0_workNamed_2 [(2, .inl (nI i)), (0, .inr (.inr (0, 0, b))), (1, .inl v)] [] μ) W ?_ ?_ (fun i hi => absurd hi (Nat.not_lt_zero i))
  · intro hv
    (try simp only [↓w_X0_workNamed_0, ↓w_X0_workNamed_2, ↓w_X0_workNamed_22, ↓w_X0_workNamed_28, ↓v_X0_workNamed_2, ↓v_X0_workNamed_22, ↓v_X0_workNamed_28, ↓b_aload_n, ↓b_getA, ↓b_getI, ↓b_goto, ↓b_iaload, ↓b_ic_ge, ↓b_ic_ne, ↓b_iconst, ↓n_iinc, ↓b_iload_n, ↓b_iret, ↓n_istore_n, ↓ldI_hit, ↓ldI_skip, ↓ldL_hit, ↓ldL_skip, ↓ldA_hit, ↓ldA_skip, ↓ldelK_nil, ↓ldelK_hit, ↓ldelK_skipI, ↓ldelK_skipA, ↓ldelK_skipL, lget_hit, lget_skip, ldel_nil, ldel_hit, ldel_skipI, ldel_skipA, ldel_skipL, ldel2_nil, ldel2_hit, ldel2_hit2, ldel2_skipI, ldel2_skipA, ldel2_skipL, vc_0, mCall_P0, mCat_nil, mCat_I, mCat_L, mCat_A, mRcv_A, mArg_nil, mArg_I, mArg_L, mArg_A, tsg, swt_nil, swt_cons, lkw_nil, lkw_cons, ↓reduceIte, Nat.reduceAdd, Nat.reduceEqDiff, Nat.reduceLeDiff, Nat.reduceMul, true_and, and_true, and_self, List.mem_cons, List.not_mem_nil, or_false, or_self, false_or, true_implies, false_implies, not_true_eq_false, not_false_eq_true, nI00, nI10, nI01, nI11, forall_const, implies_true]); (try simp (disch := omega) only [ixq, ixz, sb_in, sb_in0, upI_sb, upI_sb0, sb_out, nI_add, nI_mul, nI_subq, Nat.zero_add, forall_eq, u2_at, u2_row, upd_at, upd_ne, nI0b, nI1b, nI00, nI10, nI01, nI11, true_implies, false_implies, not_true_eq_false, not_false_eq_true, and_true, true_and, implies_true, hB, hB0, hW, nI_lq])
    rw [nmF_none W hv] at hK
    exact ⟨fun _ => hK, fun hc => absurd (Nat.le_refl W) hc⟩
  · intro i hi ih hv
    (try simp only [↓w_X0_workNamed_0, ↓w_X0_workNamed_2, ↓w_X0_workNamed_22, ↓w_X0_workNamed_28, ↓v_X0_workNamed_2, ↓v_X0_workNamed_22, ↓v_X0_workNamed_28, ↓b_aload_n, ↓b_getA, ↓b_getI, ↓b_goto, ↓b_iaload, ↓b_ic_ge, ↓b_ic_ne, ↓b_iconst, ↓n_iinc, ↓b_iload_n, ↓b_iret, ↓n_istore_n, ↓ldI_hit, ↓ldI_skip, ↓ldL_hit, ↓ldL_skip, ↓ldA_hit, ↓ldA_skip, ↓ldelK_nil, ↓ldelK_hit, ↓ldelK_skipI, ↓ldelK_skipA, ↓ldelK_skipL, lget_hit, lget_skip, ldel_nil, ldel_hit, ldel_skipI, ldel_skipA, ldel_skipL, ldel2_nil, ldel2_hit, ldel2_hit2, ldel2_skipI, ldel2_skipA, ldel2_skipL, vc_0, mCall_P0, mCat_nil, mCat_I, mCat_L, mCat_A, mRcv_A, mArg_nil, mArg_I, mArg_L, mArg_A, tsg, swt_nil, swt_cons, lkw_nil, lkw_cons, ↓reduceIte, Nat.reduceAdd, Nat.reduceEqDiff, Nat.reduceLeDiff, Nat.reduceMul, true_and, and_true, and_self, List.mem_cons, List.not_mem_nil, or_false, or_self, false_or, true_implies, false_implies, not_true_eq_false, not_false_eq_true, nI00, nI10, nI01, nI11, forall_const, implies_true]); (try simp (disch := omega) only [ixq, ixz, sb_in, sb_in0, upI_sb, upI_sb0, sb_out, nI_add, nI_mul, nI_subq, Nat.zero_add, forall_eq, u2_at, u2_row, upd_at, upd_ne, nI0b, nI1b, nI00, nI10, nI01, nI11, true_implies, false_implies, not_true_eq_false, not_false_eq_true, and_true, true_and, implies_true, hB, hB0, hW, nI_lq])
    refine ⟨fun hc => absurd hc (by omega), fun _ => ⟨fun he => ?_, fun he => ?_⟩⟩
    · exact vc_back P0_ok ok_X0_workNamed [2] 6 t_X0_workNamed_2 (ih (all_s hv he)) (by simp) (rfl)
    · rw [nmF_hit he hv W hi (by omega)] at hK
      exact hK
theorem c_goodNamed {v : Int32} (hB : ∀ k, k < 12 → μ.1 (b + k) = B k) (hG : B 0 0 = nI G) (hG6 : G ≤ 6) (hK : K (.inl (nmF (B 1) v G)) μ) : mMet X (h + 1) m_X0_goodNamed [.inr (.inr (0, 0, b)), .inl v] μ K := by
  have hB0 : μ.1 b = B 0 := hB 0 (by omega)
  (refine vc_met2 P0_ok ok_X0_goodNamed cm_X0_goodNamed [2] 6 t_X0_goodNamed_0 (Nat.le_of_ble_eq_true rfl) ?_; simp only [mArg_nil, mArg_I, mArg_L, mArg_A, Nat.reduceAdd])
  simp only [↓w_X0_goodNamed_0, ↓w_X0_goodNamed_22, ↓w_X0_goodNamed_28, ↓v_X0_goodNamed_2, ↓v_X0_goodNamed_22, ↓v_X0_goodNamed_28, ↓b_aload_n, ↓b_getA, ↓b_getI, ↓b_goto, ↓b_iaload, ↓b_ic_ge, ↓b_ic_ne, ↓b_iconst, ↓n_iinc, ↓b_iload_n, ↓b_iret, ↓n_istore_n, ↓ldI_hit, ↓ldI_skip, ↓ldL_hit, ↓ldL_skip, ↓ldA_hit, ↓ldA_skip, ↓ldelK_nil, ↓ldelK_hit, ↓ldelK_skipI, ↓ldelK_skipA, ↓ldelK_skipL, lget_hit, lget_skip, ldel_nil, ldel_hit, ldel_skipI, ldel_skipA, ldel_skipL, ldel2_nil, ldel2_hit, ldel2_hit2, ldel2_skipI, ldel2_skipA, ldel2_skipL, vc_0, mCall_P0, mCat_nil, mCat_I, mCat_L, mCat_A, mRcv_A, mArg_nil, mArg_I, mArg_L, mArg_A, tsg, swt_nil, swt_cons, lkw_nil, lkw_cons, ↓reduceIte, Nat.reduceAdd, Nat.reduceEqDiff, Nat.reduceLeDiff, Nat.reduceMul, true_and, and_true, and_self, List.mem_cons, List.not_mem_nil, or_false, or_self, false_or, true_implies, false_implies, not_true_eq_false, not_false_eq_true, nI00, nI10, nI01, nI11, forall_const, implies_true]
  rintro _ rfl
  refine loop_up (fun i => (∀ j, j < i → ¬ B 1 j = v) → bb X P0 m_X0_goodNamed (h) K (vc X P0 m_X0_goodNamed (h) K k_X0_goodNamed [2] 6) s_X0_goodNamed_2 [(2, .inl (nI i)), (0, .inr (.inr (0, 0, b))), (1, .inl v)] [] μ) G ?_ ?_ (fun i hi => absurd hi (Nat.not_lt_zero i))
  · intro hv
    (try simp only [↓w_X0_goodNamed_0, ↓w_X0_goodNamed_2, ↓w_X0_goodNamed_22, ↓w_X0_goodNamed_28, ↓v_X0_goodNamed_2, ↓v_X0_goodNamed_22, ↓v_X0_goodNamed_28, ↓b_aload_n, ↓b_getA, ↓b_getI, ↓b_goto, ↓b_iaload, ↓b_ic_ge, ↓b_ic_ne, ↓b_iconst, ↓n_iinc, ↓b_iload_n, ↓b_iret, ↓n_istore_n, ↓ldI_hit, ↓ldI_skip, ↓ldL_hit, ↓ldL_skip, ↓ldA_hit, ↓ldA_skip, ↓ldelK_nil, ↓ldelK_hit, ↓ldelK_skipI, ↓ldelK_skipA, ↓ldelK_skipL, lget_hit, lget_skip, ldel_nil, ldel_hit, ldel_skipI, ldel_skipA, ldel_skipL, ldel2_nil, ldel2_hit, ldel2_hit2, ldel2_skipI, ldel2_skipA, ldel2_skipL, vc_0, mCall_P0, mCat_nil, mCat_I, mCat_L, mCat_A, mRcv_A, mArg_nil, mArg_I, mArg_L, mArg_A, tsg, swt_nil, swt_cons, lkw_nil, lkw_cons, ↓reduceIte, Nat.reduceAdd, Nat.reduceEqDiff, Nat.reduceLeDiff, Nat.reduceMul, true_and, and_true, and_self, List.mem_cons, List.not_mem_nil, or_false, or_self, false_or, true_implies, false_implies, not_true_eq_false, not_false_eq_true, nI00, nI10, nI01, nI11, forall_const, implies_true]); (try simp (disch := omega) only [ixq, ixz, sb_in, sb_in0, upI_sb, upI_sb0, sb_out, nI_add, nI_mul, nI_subq, Nat.zero_add, forall_eq, u2_at, u2_row, upd_at, upd_ne, nI0b, nI1b, nI00, nI10, nI01, nI11, true_implies, false_implies, not_true_eq_false, not_false_eq_true, and_true, true_and, implies_true, hB, hB0, hG, nI_lq])
    rw [nmF_none G hv] at hK
    exact ⟨fun _ => hK, fun hc => absurd (Nat.le_refl G) hc⟩
  · intro i hi ih hv
    (try simp only [↓w_X0_goodNamed_0, ↓w_X0_goodNamed_2, ↓w_X0_goodNamed_22, ↓w_X0_goodNamed_28, ↓v_X0_goodNamed_2, ↓v_X0_goodNamed_22, ↓v_X0_goodNamed_28, ↓b_aload_n, ↓b_getA, ↓b_getI, ↓b_goto, ↓b_iaload, ↓b_ic_ge, ↓b_ic_ne, ↓b_iconst, ↓n_iinc, ↓b_iload_n, ↓b_iret, ↓n_istore_n, ↓ldI_hit, ↓ldI_skip, ↓ldL_hit, ↓ldL_skip, ↓ldA_hit, ↓ldA_skip, ↓ldelK_nil, ↓ldelK_hit, ↓ldelK_skipI, ↓ldelK_skipA, ↓ldelK_skipL, lget_hit, lget_skip, ldel_nil, ldel_hit, ldel_skipI, ldel_skipA, ldel_skipL, ldel2_nil, ldel2_hit, ldel2_hit2, ldel2_skipI, ldel2_skipA, ldel2_skipL, vc_0, mCall_P0, mCat_nil, mCat_I, mCat_L, mCat_A, mRcv_A, mArg_nil, mArg_I, mArg_L, mArg_A, tsg, swt_nil, swt_cons, lkw_nil, lkw_cons, ↓reduceIte, Nat.reduceAdd, Nat.reduceEqDiff, Nat.reduceLeDiff, Nat.reduceMul, true_and, and_true, and_self, List.mem_cons, List.not_mem_nil, or_false, or_self, false_or, true_implies, false_implies, not_true_eq_false, not_false_eq_true, nI00, nI10, nI01, nI11, forall_const, implies_true]); (try simp (disch := omega) only [ixq, ixz, sb_in, sb_in0, upI_sb, upI_sb0, sb_out, nI_add, nI_mul, nI_subq, Nat.zero_add, forall_eq, u2_at, u2_row, upd_at, upd_ne, nI0b, nI1b, nI00, nI10, nI01, nI11, true_implies, false_implies, not_true_eq_false, not_false_eq_true, and_true, true_and, implies_true, hB, hB0, hG, nI_lq])
    refine ⟨fun hc => absurd hc (by omega), fun _ => ⟨fun he => ?_, fun he => ?_⟩⟩
    · exact vc_back P0_ok ok_X0_goodNamed [2] 6 t_X0_goodNamed_2 (ih (all_s hv he)) (by simp) (rfl)
    · rw [nmF_hit he hv G hi (by omega)] at hK
      exact hK
theorem sbB (hd : t + 3 ≤ b) (hB : ∀ k, k < 12 → μ.1 (b + k) = B k) : ∀ k, k < 12 → (sb μ t 3 T).1 (b + k) = B k := fun k hk => by rw [sb_out (by omega)]; exact hB k hk
theorem c_findWork (hB : ∀ k, k < 12 → μ.1 (b + k) = B k) (hW : B 0 1 = nI W) (hW8 : W ≤ 8) (hd : t + 3 ≤ b) (hK : K (.inl (findF (B 2) W T).1) (sb μ t 3 (findF (B 2) W T).2)) : mMet X (h + 2) m_X0_findWork [.inr (.inr (0, 0, b)), .inr (.inr (5, 0, t))] (sb μ t 3 T) K := by
  unfold findF at hK
  (refine vc_met2 P0_ok ok_X0_findWork cm_X0_findWork [] 6 t_X0_findWork_0 (Nat.le_of_ble_eq_true rfl) ?_; simp only [mArg_nil, mArg_I, mArg_L, mArg_A, Nat.reduceAdd])
  (try simp only [↓w_X0_findWork_0, ↓w_X0_findWork_15, ↓w_X0_findWork_35, ↓v_X0_findWork_15, ↓v_X0_findWork_35, ↓b_aload_n, ↓b_callV1_1, ↓b_callV2_1, ↓b_getI, ↓b_ic_ne, ↓b_iconst, ↓b_if_ne, ↓b_iload_n, ↓b_iret, ↓n_istore_n, ↓b_popA, ↓b_popI, ↓ldI_hit, ↓ldI_skip, ↓ldL_hit, ↓ldL_skip, ↓ldA_hit, ↓ldA_skip, ↓ldelK_nil, ↓ldelK_hit, ↓ldelK_skipI, ↓ldelK_skipA, ↓ldelK_skipL, lget_hit, lget_skip, ldel_nil, ldel_hit, ldel_skipI, ldel_skipA, ldel_skipL, ldel2_nil, ldel2_hit, ldel2_hit2, ldel2_skipI, ldel2_skipA, ldel2_skipL, vc_0, mCall_P0, mCat_nil, mCat_I, mCat_L, mCat_A, mRcv_A, mArg_nil, mArg_I, mArg_L, mArg_A, tsg, swt_nil, swt_cons, lkw_nil, lkw_cons, ↓reduceIte, Nat.reduceAdd, Nat.reduceEqDiff, Nat.reduceLeDiff, Nat.reduceMul, true_and, and_true, and_self, List.mem_cons, List.not_mem_nil, or_false, or_self, false_or, true_implies, false_implies, not_true_eq_false, not_false_eq_true, nI00, nI10, nI01, nI11, forall_const, implies_true]); (try simp (disch := omega) only [ixq, ixz, sb_in, sb_in0, upI_sb, upI_sb0, sb_out, nI_add, nI_mul, nI_subq, Nat.zero_add, forall_eq, u2_at, u2_row, upd_at, upd_ne, nI0b, nI1b, nI00, nI10, nI01, nI11, true_implies, false_implies, not_true_eq_false, not_false_eq_true, and_true, true_and, implies_true])
  refine c_isName ?_
  by_cases hc : T 0 5 = nI 2 ∧ T 0 8 = -1
  · rw [bI_t hc]
    rw [if_pos hc] at hK
    (try simp only [↓w_X0_findWork_0, ↓w_X0_findWork_15, ↓w_X0_findWork_35, ↓v_X0_findWork_15, ↓v_X0_findWork_35, ↓b_aload_n, ↓b_callV1_1, ↓b_callV2_1, ↓b_getI, ↓b_ic_ne, ↓b_iconst, ↓b_if_ne, ↓b_iload_n, ↓b_iret, ↓n_istore_n, ↓b_popA, ↓b_popI, ↓ldI_hit, ↓ldI_skip, ↓ldL_hit, ↓ldL_skip, ↓ldA_hit, ↓ldA_skip, ↓ldelK_nil, ↓ldelK_hit, ↓ldelK_skipI, ↓ldelK_skipA, ↓ldelK_skipL, lget_hit, lget_skip, ldel_nil, ldel_hit, ldel_skipI, ldel_skipA, ldel_skipL, ldel2_nil, ldel2_hit, ldel2_hit2, ldel2_skipI, ldel2_skipA, ldel2_skipL, vc_0, mCall_P0, mCat_nil, mCat_I, mCat_L, mCat_A, mRcv_A, mArg_nil, mArg_I, mArg_L, mArg_A, tsg, swt_nil, swt_cons, lkw_nil, lkw_cons, ↓reduceIte, Nat.reduceAdd, Nat.reduceEqDiff, Nat.reduceLeDiff, Nat.reduceMul, true_and, and_true, and_self, List.mem_cons, List.not_mem_nil, or_false, or_self, false_or, true_implies, false_implies, not_true_eq_false, not_false_eq_true, nI00, nI10, nI01, nI11, forall_const, implies_true]); (try simp (disch := omega) only [ixq, ixz, sb_in, sb_in0, upI_sb, upI_sb0, sb_out, nI_add, nI_mul, nI_subq, Nat.zero_add, forall_eq, u2_at, u2_row, upd_at, upd_ne, nI0b, nI1b, nI00, nI10, nI01, nI11, true_implies, false_implies, not_true_eq_false, not_false_eq_true, and_true, true_and, implies_true])
    refine c_workNamed (sbB hd hB) hW hW8 ?_
    (try simp only [↓w_X0_findWork_0, ↓w_X0_findWork_15, ↓w_X0_findWork_35, ↓v_X0_findWork_15, ↓v_X0_findWork_35, ↓b_aload_n, ↓b_callV1_1, ↓b_callV2_1, ↓b_getI, ↓b_ic_ne, ↓b_iconst, ↓b_if_ne, ↓b_iload_n, ↓b_iret, ↓n_istore_n, ↓b_popA, ↓b_popI, ↓ldI_hit, ↓ldI_skip, ↓ldL_hit, ↓ldL_skip, ↓ldA_hit, ↓ldA_skip, ↓ldelK_nil, ↓ldelK_hit, ↓ldelK_skipI, ↓ldelK_skipA, ↓ldelK_skipL, lget_hit, lget_skip, ldel_nil, ldel_hit, ldel_skipI, ldel_skipA, ldel_skipL, ldel2_nil, ldel2_hit, ldel2_hit2, ldel2_skipI, ldel2_skipA, ldel2_skipL, vc_0, mCall_P0, mCat_nil, mCat_I, mCat_L, mCat_A, mRcv_A, mArg_nil, mArg_I, mArg_L, mArg_A, tsg, swt_nil, swt_cons, lkw_nil, lkw_cons, ↓reduceIte, Nat.reduceAdd, Nat.reduceEqDiff, Nat.reduceLeDiff, Nat.reduceMul, true_and, and_true, and_self, List.mem_cons, List.not_mem_nil, or_false, or_self, false_or, true_implies, false_implies, not_true_eq_false, not_false_eq_true, nI00, nI10, nI01, nI11, forall_const, implies_true]); (try simp (disch := omega) only [ixq, ixz, sb_in, sb_in0, upI_sb, upI_sb0, sb_out, nI_add, nI_mul, nI_subq, Nat.zero_add, forall_eq, u2_at, u2_row, upd_at, upd_ne, nI0b, nI1b, nI00, nI10, nI01, nI11, true_implies, false_implies, not_true_eq_false, not_false_eq_true, and_true, true_and, implies_true])
    refine ⟨fun hm => ?_, fun hm => ?_⟩
    · rw [if_neg hm] at hK
      exact hK
    · rw [if_pos hm] at hK
      refine c_fail ?_
      (try simp only [↓w_X0_findWork_0, ↓w_X0_findWork_15, ↓w_X0_findWork_35, ↓v_X0_findWork_15, ↓v_X0_findWork_35, ↓b_aload_n, ↓b_callV1_1, ↓b_callV2_1, ↓b_getI, ↓b_ic_ne, ↓b_iconst, ↓b_if_ne, ↓b_iload_n, ↓b_iret, ↓n_istore_n, ↓b_popA, ↓b_popI, ↓ldI_hit, ↓ldI_skip, ↓ldL_hit, ↓ldL_skip, ↓ldA_hit, ↓ldA_skip, ↓ldelK_nil, ↓ldelK_hit, ↓ldelK_skipI, ↓ldelK_skipA, ↓ldelK_skipL, lget_hit, lget_skip, ldel_nil, ldel_hit, ldel_skipI, ldel_skipA, ldel_skipL, ldel2_nil, ldel2_hit, ldel2_hit2, ldel2_skipI, ldel2_skipA, ldel2_skipL, vc_0, mCall_P0, mCat_nil, mCat_I, mCat_L, mCat_A, mRcv_A, mArg_nil, mArg_I, mArg_L, mArg_A, tsg, swt_nil, swt_cons, lkw_nil, lkw_cons, ↓reduceIte, Nat.reduceAdd, Nat.reduceEqDiff, Nat.reduceLeDiff, Nat.reduceMul, true_and, and_true, and_self, List.mem_cons, List.not_mem_nil, or_false, or_self, false_or, true_implies, false_implies, not_true_eq_false, not_false_eq_true, nI00, nI10, nI01, nI11, forall_const, implies_true]); (try simp (disch := omega) only [ixq, ixz, sb_in, sb_in0, upI_sb, upI_sb0, sb_out, nI_add, nI_mul, nI_subq, Nat.zero_add, forall_eq, u2_at, u2_row, upd_at, upd_ne, nI0b, nI1b, nI00, nI10, nI01, nI11, true_implies, false_implies, not_true_eq_false, not_false_eq_true, and_true, true_and, implies_true])
      rw [hm]
      exact hK
  · rw [bI_f hc]
    rw [if_neg hc] at hK
    (try simp only [↓w_X0_findWork_0, ↓w_X0_findWork_15, ↓w_X0_findWork_35, ↓v_X0_findWork_15, ↓v_X0_findWork_35, ↓b_aload_n, ↓b_callV1_1, ↓b_callV2_1, ↓b_getI, ↓b_ic_ne, ↓b_iconst, ↓b_if_ne, ↓b_iload_n, ↓b_iret, ↓n_istore_n, ↓b_popA, ↓b_popI, ↓ldI_hit, ↓ldI_skip, ↓ldL_hit, ↓ldL_skip, ↓ldA_hit, ↓ldA_skip, ↓ldelK_nil, ↓ldelK_hit, ↓ldelK_skipI, ↓ldelK_skipA, ↓ldelK_skipL, lget_hit, lget_skip, ldel_nil, ldel_hit, ldel_skipI, ldel_skipA, ldel_skipL, ldel2_nil, ldel2_hit, ldel2_hit2, ldel2_skipI, ldel2_skipA, ldel2_skipL, vc_0, mCall_P0, mCat_nil, mCat_I, mCat_L, mCat_A, mRcv_A, mArg_nil, mArg_I, mArg_L, mArg_A, tsg, swt_nil, swt_cons, lkw_nil, lkw_cons, ↓reduceIte, Nat.reduceAdd, Nat.reduceEqDiff, Nat.reduceLeDiff, Nat.reduceMul, true_and, and_true, and_self, List.mem_cons, List.not_mem_nil, or_false, or_self, false_or, true_implies, false_implies, not_true_eq_false, not_false_eq_true, nI00, nI10, nI01, nI11, forall_const, implies_true]); (try simp (disch := omega) only [ixq, ixz, sb_in, sb_in0, upI_sb, upI_sb0, sb_out, nI_add, nI_mul, nI_subq, Nat.zero_add, forall_eq, u2_at, u2_row, upd_at, upd_ne, nI0b, nI1b, nI00, nI10, nI01, nI11, true_implies, false_implies, not_true_eq_false, not_false_eq_true, and_true, true_and, implies_true])
    refine c_fail ?_
    (try simp only [↓w_X0_findWork_0, ↓w_X0_findWork_15, ↓w_X0_findWork_35, ↓v_X0_findWork_15, ↓v_X0_findWork_35, ↓b_aload_n, ↓b_callV1_1, ↓b_callV2_1, ↓b_getI, ↓b_ic_ne, ↓b_iconst, ↓b_if_ne, ↓b_iload_n, ↓b_iret, ↓n_istore_n, ↓b_popA, ↓b_popI, ↓ldI_hit, ↓ldI_skip, ↓ldL_hit, ↓ldL_skip, ↓ldA_hit, ↓ldA_skip, ↓ldelK_nil, ↓ldelK_hit, ↓ldelK_skipI, ↓ldelK_skipA, ↓ldelK_skipL, lget_hit, lget_skip, ldel_nil, ldel_hit, ldel_skipI, ldel_skipA, ldel_skipL, ldel2_nil, ldel2_hit, ldel2_hit2, ldel2_skipI, ldel2_skipA, ldel2_skipL, vc_0, mCall_P0, mCat_nil, mCat_I, mCat_L, mCat_A, mRcv_A, mArg_nil, mArg_I, mArg_L, mArg_A, tsg, swt_nil, swt_cons, lkw_nil, lkw_cons, ↓reduceIte, Nat.reduceAdd, Nat.reduceEqDiff, Nat.reduceLeDiff, Nat.reduceMul, true_and, and_true, and_self, List.mem_cons, List.not_mem_nil, or_false, or_self, false_or, true_implies, false_implies, not_true_eq_false, not_false_eq_true, nI00, nI10, nI01, nI11, forall_const, implies_true]); (try simp (disch := omega) only [ixq, ixz, sb_in, sb_in0, upI_sb, upI_sb0, sb_out, nI_add, nI_mul, nI_subq, Nat.zero_add, forall_eq, u2_at, u2_row, upd_at, upd_ne, nI0b, nI1b, nI00, nI10, nI01, nI11, true_implies, false_implies, not_true_eq_false, not_false_eq_true, and_true, true_and, implies_true])
    exact hK
theorem c_findGood (hB : ∀ k, k < 12 → μ.1 (b + k) = B k) (hG : B 0 0 = nI G) (hG6 : G ≤ 6) (hd : t + 3 ≤ b) (hK : K (.inl (findF (B 1) G T).1) (sb μ t 3 (findF (B 1) G T).2)) : mMet X (h + 2) m_X0_findGood [.inr (.inr (0, 0, b)), .inr (.inr (5, 0, t))] (sb μ t 3 T) K := by
  unfold findF at hK
  (refine vc_met2 P0_ok ok_X0_findGood cm_X0_findGood [] 6 t_X0_findGood_0 (Nat.le_of_ble_eq_true rfl) ?_; simp only [mArg_nil, mArg_I, mArg_L, mArg_A, Nat.reduceAdd])
  (try simp only [↓w_X0_findGood_0, ↓w_X0_findGood_15, ↓w_X0_findGood_35, ↓v_X0_findGood_15, ↓v_X0_findGood_35, ↓b_aload_n, ↓b_callV1_1, ↓b_callV2_1, ↓b_getI, ↓b_ic_ne, ↓b_iconst, ↓b_if_ne, ↓b_iload_n, ↓b_iret, ↓n_istore_n, ↓b_popA, ↓b_popI, ↓ldI_hit, ↓ldI_skip, ↓ldL_hit, ↓ldL_skip, ↓ldA_hit, ↓ldA_skip, ↓ldelK_nil, ↓ldelK_hit, ↓ldelK_skipI, ↓ldelK_skipA, ↓ldelK_skipL, lget_hit, lget_skip, ldel_nil, ldel_hit, ldel_skipI, ldel_skipA, ldel_skipL, ldel2_nil, ldel2_hit, ldel2_hit2, ldel2_skipI, ldel2_skipA, ldel2_skipL, vc_0, mCall_P0, mCat_nil, mCat_I, mCat_L, mCat_A, mRcv_A, mArg_nil, mArg_I, mArg_L, mArg_A, tsg, swt_nil, swt_cons, lkw_nil, lkw_cons, ↓reduceIte, Nat.reduceAdd, Nat.reduceEqDiff, Nat.reduceLeDiff, Nat.reduceMul, true_and, and_true, and_self, List.mem_cons, List.not_mem_nil, or_false, or_self, false_or, true_implies, false_implies, not_true_eq_false, not_false_eq_true, nI00, nI10, nI01, nI11, forall_const, implies_true]); (try simp (disch := omega) only [ixq, ixz, sb_in, sb_in0, upI_sb, upI_sb0, sb_out, nI_add, nI_mul, nI_subq, Nat.zero_add, forall_eq, u2_at, u2_row, upd_at, upd_ne, nI0b, nI1b, nI00, nI10, nI01, nI11, true_implies, false_implies, not_true_eq_false, not_false_eq_true, and_true, true_and, implies_true])
  refine c_isName ?_
  by_cases hc : T 0 5 = nI 2 ∧ T 0 8 = -1
  · rw [bI_t hc]
    rw [if_pos hc] at hK
    (try simp only [↓w_X0_findGood_0, ↓w_X0_findGood_15, ↓w_X0_findGood_35, ↓v_X0_findGood_15, ↓v_X0_findGood_35, ↓b_aload_n, ↓b_callV1_1, ↓b_callV2_1, ↓b_getI, ↓b_ic_ne, ↓b_iconst, ↓b_if_ne, ↓b_iload_n, ↓b_iret, ↓n_istore_n, ↓b_popA, ↓b_popI, ↓ldI_hit, ↓ldI_skip, ↓ldL_hit, ↓ldL_skip, ↓ldA_hit, ↓ldA_skip, ↓ldelK_nil, ↓ldelK_hit, ↓ldelK_skipI, ↓ldelK_skipA, ↓ldelK_skipL, lget_hit, lget_skip, ldel_nil, ldel_hit, ldel_skipI, ldel_skipA, ldel_skipL, ldel2_nil, ldel2_hit, ldel2_hit2, ldel2_skipI, ldel2_skipA, ldel2_skipL, vc_0, mCall_P0, mCat_nil, mCat_I, mCat_L, mCat_A, mRcv_A, mArg_nil, mArg_I, mArg_L, mArg_A, tsg, swt_nil, swt_cons, lkw_nil, lkw_cons, ↓reduceIte, Nat.reduceAdd, Nat.reduceEqDiff, Nat.reduceLeDiff, Nat.reduceMul, true_and, and_true, and_self, List.mem_cons, List.not_mem_nil, or_false, or_self, false_or, true_implies, false_implies, not_true_eq_false, not_false_eq_true, nI00, nI10, nI01, nI11, forall_const, implies_true]); (try simp (disch := omega) only [ixq, ixz, sb_in, sb_in0, upI_sb, upI_sb0, sb_out, nI_add, nI_mul, nI_subq, Nat.zero_add, forall_eq, u2_at, u2_row, upd_at, upd_ne, nI0b, nI1b, nI00, nI10, nI01, nI11, true_implies, false_implies, not_true_eq_false, not_false_eq_true, and_true, true_and, implies_true])
    refine c_goodNamed (sbB hd hB) hG hG6 ?_
    (try simp only [↓w_X0_findGood_0, ↓w_X0_findGood_15, ↓w_X0_findGood_35, ↓v_X0_findGood_15, ↓v_X0_findGood_35, ↓b_aload_n, ↓b_callV1_1, ↓b_callV2_1, ↓b_getI, ↓b_ic_ne, ↓b_iconst, ↓b_if_ne, ↓b_iload_n, ↓b_iret, ↓n_istore_n, ↓b_popA, ↓b_popI, ↓ldI_hit, ↓ldI_skip, ↓ldL_hit, ↓ldL_skip, ↓ldA_hit, ↓ldA_skip, ↓ldelK_nil, ↓ldelK_hit, ↓ldelK_skipI, ↓ldelK_skipA, ↓ldelK_skipL, lget_hit, lget_skip, ldel_nil, ldel_hit, ldel_skipI, ldel_skipA, ldel_skipL, ldel2_nil, ldel2_hit, ldel2_hit2, ldel2_skipI, ldel2_skipA, ldel2_skipL, vc_0, mCall_P0, mCat_nil, mCat_I, mCat_L, mCat_A, mRcv_A, mArg_nil, mArg_I, mArg_L, mArg_A, tsg, swt_nil, swt_cons, lkw_nil, lkw_cons, ↓reduceIte, Nat.reduceAdd, Nat.reduceEqDiff, Nat.reduceLeDiff, Nat.reduceMul, true_and, and_true, and_self, List.mem_cons, List.not_mem_nil, or_false, or_self, false_or, true_implies, false_implies, not_true_eq_false, not_false_eq_true, nI00, nI10, nI01, nI11, forall_const, implies_true]); (try simp (disch := omega) only [ixq, ixz, sb_in, sb_in0, upI_sb, upI_sb0, sb_out, nI_add, nI_mul, nI_subq, Nat.zero_add, forall_eq, u2_at, u2_row, upd_at, upd_ne, nI0b, nI1b, nI00, nI10, nI01, nI11, true_implies, false_implies, not_true_eq_false, not_false_eq_true, and_true, true_and, implies_true])
    refine ⟨fun hm => ?_, fun hm => ?_⟩
    · rw [if_neg hm] at hK
      exact hK
    · rw [if_pos hm] at hK
      refine c_fail ?_
      (try simp only [↓w_X0_findGood_0, ↓w_X0_findGood_15, ↓w_X0_findGood_35, ↓v_X0_findGood_15, ↓v_X0_findGood_35, ↓b_aload_n, ↓b_callV1_1, ↓b_callV2_1, ↓b_getI, ↓b_ic_ne, ↓b_iconst, ↓b_if_ne, ↓b_iload_n, ↓b_iret, ↓n_istore_n, ↓b_popA, ↓b_popI, ↓ldI_hit, ↓ldI_skip, ↓ldL_hit, ↓ldL_skip, ↓ldA_hit, ↓ldA_skip, ↓ldelK_nil, ↓ldelK_hit, ↓ldelK_skipI, ↓ldelK_skipA, ↓ldelK_skipL, lget_hit, lget_skip, ldel_nil, ldel_hit, ldel_skipI, ldel_skipA, ldel_skipL, ldel2_nil, ldel2_hit, ldel2_hit2, ldel2_skipI, ldel2_skipA, ldel2_skipL, vc_0, mCall_P0, mCat_nil, mCat_I, mCat_L, mCat_A, mRcv_A, mArg_nil, mArg_I, mArg_L, mArg_A, tsg, swt_nil, swt_cons, lkw_nil, lkw_cons, ↓reduceIte, Nat.reduceAdd, Nat.reduceEqDiff, Nat.reduceLeDiff, Nat.reduceMul, true_and, and_true, and_self, List.mem_cons, List.not_mem_nil, or_false, or_self, false_or, true_implies, false_implies, not_true_eq_false, not_false_eq_true, nI00, nI10, nI01, nI11, forall_const, implies_true]); (try simp (disch := omega) only [ixq, ixz, sb_in, sb_in0, upI_sb, upI_sb0, sb_out, nI_add, nI_mul, nI_subq, Nat.zero_add, forall_eq, u2_at, u2_row, upd_at, upd_ne, nI0b, nI1b, nI00, nI10, nI01, nI11, true_implies, false_implies, not_true_eq_false, not_false_eq_true, and_true, true_and, implies_true])
      rw [hm]
      exact hK
  · rw [bI_f hc]
    rw [if_neg hc] at hK
    (try simp only [↓w_X0_findGood_0, ↓w_X0_findGood_15, ↓w_X0_findGood_35, ↓v_X0_findGood_15, ↓v_X0_findGood_35, ↓b_aload_n, ↓b_callV1_1, ↓b_callV2_1, ↓b_getI, ↓b_ic_ne, ↓b_iconst, ↓b_if_ne, ↓b_iload_n, ↓b_iret, ↓n_istore_n, ↓b_popA, ↓b_popI, ↓ldI_hit, ↓ldI_skip, ↓ldL_hit, ↓ldL_skip, ↓ldA_hit, ↓ldA_skip, ↓ldelK_nil, ↓ldelK_hit, ↓ldelK_skipI, ↓ldelK_skipA, ↓ldelK_skipL, lget_hit, lget_skip, ldel_nil, ldel_hit, ldel_skipI, ldel_skipA, ldel_skipL, ldel2_nil, ldel2_hit, ldel2_hit2, ldel2_skipI, ldel2_skipA, ldel2_skipL, vc_0, mCall_P0, mCat_nil, mCat_I, mCat_L, mCat_A, mRcv_A, mArg_nil, mArg_I, mArg_L, mArg_A, tsg, swt_nil, swt_cons, lkw_nil, lkw_cons, ↓reduceIte, Nat.reduceAdd, Nat.reduceEqDiff, Nat.reduceLeDiff, Nat.reduceMul, true_and, and_true, and_self, List.mem_cons, List.not_mem_nil, or_false, or_self, false_or, true_implies, false_implies, not_true_eq_false, not_false_eq_true, nI00, nI10, nI01, nI11, forall_const, implies_true]); (try simp (disch := omega) only [ixq, ixz, sb_in, sb_in0, upI_sb, upI_sb0, sb_out, nI_add, nI_mul, nI_subq, Nat.zero_add, forall_eq, u2_at, u2_row, upd_at, upd_ne, nI0b, nI1b, nI00, nI10, nI01, nI11, true_implies, false_implies, not_true_eq_false, not_false_eq_true, and_true, true_and, implies_true])
    refine c_fail ?_
    (try simp only [↓w_X0_findGood_0, ↓w_X0_findGood_15, ↓w_X0_findGood_35, ↓v_X0_findGood_15, ↓v_X0_findGood_35, ↓b_aload_n, ↓b_callV1_1, ↓b_callV2_1, ↓b_getI, ↓b_ic_ne, ↓b_iconst, ↓b_if_ne, ↓b_iload_n, ↓b_iret, ↓n_istore_n, ↓b_popA, ↓b_popI, ↓ldI_hit, ↓ldI_skip, ↓ldL_hit, ↓ldL_skip, ↓ldA_hit, ↓ldA_skip, ↓ldelK_nil, ↓ldelK_hit, ↓ldelK_skipI, ↓ldelK_skipA, ↓ldelK_skipL, lget_hit, lget_skip, ldel_nil, ldel_hit, ldel_skipI, ldel_skipA, ldel_skipL, ldel2_nil, ldel2_hit, ldel2_hit2, ldel2_skipI, ldel2_skipA, ldel2_skipL, vc_0, mCall_P0, mCat_nil, mCat_I, mCat_L, mCat_A, mRcv_A, mArg_nil, mArg_I, mArg_L, mArg_A, tsg, swt_nil, swt_cons, lkw_nil, lkw_cons, ↓reduceIte, Nat.reduceAdd, Nat.reduceEqDiff, Nat.reduceLeDiff, Nat.reduceMul, true_and, and_true, and_self, List.mem_cons, List.not_mem_nil, or_false, or_self, false_or, true_implies, false_implies, not_true_eq_false, not_false_eq_true, nI00, nI10, nI01, nI11, forall_const, implies_true]); (try simp (disch := omega) only [ixq, ixz, sb_in, sb_in0, upI_sb, upI_sb0, sb_out, nI_add, nI_mul, nI_subq, Nat.zero_add, forall_eq, u2_at, u2_row, upd_at, upd_ne, nI0b, nI1b, nI00, nI10, nI01, nI11, true_implies, false_implies, not_true_eq_false, not_false_eq_true, and_true, true_and, implies_true])
    exact hK
theorem c_takeCell (hT : tpOk T) (hB : ∀ k, k < 12 → μ.1 (b + k) = B k) (hG : B 0 0 = nI G) (hG6 : G ≤ 6) (hW : B 0 1 = nI W) (hW8 : W ≤ 8) (hd : t + 3 ≤ b) (hK : K (.inl (cellF G W B T).1) (sb μ t 3 (cellF G W B T).2)) : mMet X (h + 3) m_X0_takeCell [.inr (.inr (0, 0, b)), .inr (.inr (5, 0, t))] (sb μ t 3 T) K := by
  unfold cellF at hK
  simp only at hK
  (refine vc_met2 P0_ok ok_X0_takeCell cm_X0_takeCell [] 6 t_X0_takeCell_0 (Nat.le_of_ble_eq_true rfl) ?_; simp only [mArg_nil, mArg_I, mArg_L, mArg_A, Nat.reduceAdd])
  (try simp only [↓w_X0_takeCell_0, ↓w_X0_takeCell_17, ↓w_X0_takeCell_36, ↓w_X0_takeCell_42, ↓v_X0_takeCell_17, ↓v_X0_takeCell_36, ↓v_X0_takeCell_42, ↓b_aload_n, ↓b_bipush, ↓b_callV1_0, ↓b_callV2_1, ↓b_goto, ↓b_iadd, ↓b_ic_ne, ↓b_iconst, ↓b_iload_n, ↓b_imul, ↓b_iret, ↓n_istore_n, ↓ldI_hit, ↓ldI_skip, ↓ldL_hit, ↓ldL_skip, ↓ldA_hit, ↓ldA_skip, ↓ldelK_nil, ↓ldelK_hit, ↓ldelK_skipI, ↓ldelK_skipA, ↓ldelK_skipL, lget_hit, lget_skip, ldel_nil, ldel_hit, ldel_skipI, ldel_skipA, ldel_skipL, ldel2_nil, ldel2_hit, ldel2_hit2, ldel2_skipI, ldel2_skipA, ldel2_skipL, vc_0, mCall_P0, mCat_nil, mCat_I, mCat_L, mCat_A, mRcv_A, mArg_nil, mArg_I, mArg_L, mArg_A, tsg, swt_nil, swt_cons, lkw_nil, lkw_cons, ↓reduceIte, Nat.reduceAdd, Nat.reduceEqDiff, Nat.reduceLeDiff, Nat.reduceMul, true_and, and_true, and_self, List.mem_cons, List.not_mem_nil, or_false, or_self, false_or, true_implies, false_implies, not_true_eq_false, not_false_eq_true, nI00, nI10, nI01, nI11, forall_const, implies_true]); (try simp (disch := omega) only [ixq, ixz, sb_in, sb_in0, upI_sb, upI_sb0, sb_out, nI_add, nI_mul, nI_subq, Nat.zero_add, forall_eq, u2_at, u2_row, upd_at, upd_ne, nI0b, nI1b, nI00, nI10, nI01, nI11, true_implies, false_implies, not_true_eq_false, not_false_eq_true, and_true, true_and, implies_true])
  refine c_advance hT ?_
  refine c_findWork hB hW hW8 hd ?_
  have t1 := findF_ok (f := B 2) (n := W) (advF_ok hT)
  generalize findF (B 2) W (advF T) = a at hK t1 ⊢
  (try simp only [↓w_X0_takeCell_0, ↓w_X0_takeCell_17, ↓w_X0_takeCell_36, ↓w_X0_takeCell_42, ↓v_X0_takeCell_17, ↓v_X0_takeCell_36, ↓v_X0_takeCell_42, ↓b_aload_n, ↓b_bipush, ↓b_callV1_0, ↓b_callV2_1, ↓b_goto, ↓b_iadd, ↓b_ic_ne, ↓b_iconst, ↓b_iload_n, ↓b_imul, ↓b_iret, ↓n_istore_n, ↓ldI_hit, ↓ldI_skip, ↓ldL_hit, ↓ldL_skip, ↓ldA_hit, ↓ldA_skip, ↓ldelK_nil, ↓ldelK_hit, ↓ldelK_skipI, ↓ldelK_skipA, ↓ldelK_skipL, lget_hit, lget_skip, ldel_nil, ldel_hit, ldel_skipI, ldel_skipA, ldel_skipL, ldel2_nil, ldel2_hit, ldel2_hit2, ldel2_skipI, ldel2_skipA, ldel2_skipL, vc_0, mCall_P0, mCat_nil, mCat_I, mCat_L, mCat_A, mRcv_A, mArg_nil, mArg_I, mArg_L, mArg_A, tsg, swt_nil, swt_cons, lkw_nil, lkw_cons, ↓reduceIte, Nat.reduceAdd, Nat.reduceEqDiff, Nat.reduceLeDiff, Nat.reduceMul, true_and, and_true, and_self, List.mem_cons, List.not_mem_nil, or_false, or_self, false_or, true_implies, false_implies, not_true_eq_false, not_false_eq_true, nI00, nI10, nI01, nI11, forall_const, implies_true]); (try simp (disch := omega) only [ixq, ixz, sb_in, sb_in0, upI_sb, upI_sb0, sb_out, nI_add, nI_mul, nI_subq, Nat.zero_add, forall_eq, u2_at, u2_row, upd_at, upd_ne, nI0b, nI1b, nI00, nI10, nI01, nI11, true_implies, false_implies, not_true_eq_false, not_false_eq_true, and_true, true_and, implies_true])
  refine ⟨fun hm => ?_, fun hm => ?_⟩
  · rw [if_neg hm] at hK
    refine c_advance t1 ?_
    refine c_findGood hB hG hG6 hd ?_
    generalize findF (B 1) G (advF a.2) = g at hK ⊢
    (try simp only [↓w_X0_takeCell_0, ↓w_X0_takeCell_17, ↓w_X0_takeCell_36, ↓w_X0_takeCell_42, ↓v_X0_takeCell_17, ↓v_X0_takeCell_36, ↓v_X0_takeCell_42, ↓b_aload_n, ↓b_bipush, ↓b_callV1_0, ↓b_callV2_1, ↓b_goto, ↓b_iadd, ↓b_ic_ne, ↓b_iconst, ↓b_iload_n, ↓b_imul, ↓b_iret, ↓n_istore_n, ↓ldI_hit, ↓ldI_skip, ↓ldL_hit, ↓ldL_skip, ↓ldA_hit, ↓ldA_skip, ↓ldelK_nil, ↓ldelK_hit, ↓ldelK_skipI, ↓ldelK_skipA, ↓ldelK_skipL, lget_hit, lget_skip, ldel_nil, ldel_hit, ldel_skipI, ldel_skipA, ldel_skipL, ldel2_nil, ldel2_hit, ldel2_hit2, ldel2_skipI, ldel2_skipA, ldel2_skipL, vc_0, mCall_P0, mCat_nil, mCat_I, mCat_L, mCat_A, mRcv_A, mArg_nil, mArg_I, mArg_L, mArg_A, tsg, swt_nil, swt_cons, lkw_nil, lkw_cons, ↓reduceIte, Nat.reduceAdd, Nat.reduceEqDiff, Nat.reduceLeDiff, Nat.reduceMul, true_and, and_true, and_self, List.mem_cons, List.not_mem_nil, or_false, or_self, false_or, true_implies, false_implies, not_true_eq_false, not_false_eq_true, nI00, nI10, nI01, nI11, forall_const, implies_true]); (try simp (disch := omega) only [ixq, ixz, sb_in, sb_in0, upI_sb, upI_sb0, sb_out, nI_add, nI_mul, nI_subq, Nat.zero_add, forall_eq, u2_at, u2_row, upd_at, upd_ne, nI0b, nI1b, nI00, nI10, nI01, nI11, true_implies, false_implies, not_true_eq_false, not_false_eq_true, and_true, true_and, implies_true])
    refine ⟨fun hm => ?_, fun hm => ?_⟩
    · rw [if_neg hm] at hK
      exact hK
    · rw [if_pos hm] at hK
      exact hK
  · rw [if_pos hm] at hK
    exact hK
theorem c_isNewName (hB : ∀ k, k < 12 → μ.1 (b + k) = B k) (hG : B 0 0 = nI G) (hG6 : G ≤ 6) (hW : B 0 1 = nI W) (hW8 : W ≤ 8) (hd : t + 3 ≤ b) (hK : K (.inl (newF G W B T).1) (sb μ t 3 (newF G W B T).2)) : mMet X (h + 2) m_X0_isNewName [.inr (.inr (0, 0, b)), .inr (.inr (5, 0, t))] (sb μ t 3 T) K := by
  unfold newF at hK
  (refine vc_met2 P0_ok ok_X0_isNewName cm_X0_isNewName [] 6 t_X0_isNewName_0 (Nat.le_of_ble_eq_true rfl) ?_; simp only [mArg_nil, mArg_I, mArg_L, mArg_A, Nat.reduceAdd])
  (try simp only [↓w_X0_isNewName_0, ↓w_X0_isNewName_13, ↓w_X0_isNewName_37, ↓w_X0_isNewName_43, ↓v_X0_isNewName_13, ↓v_X0_isNewName_37, ↓v_X0_isNewName_43, ↓b_aload_n, ↓b_callV1_1, ↓b_callV2_1, ↓b_getI, ↓b_ic_eq, ↓b_ic_ne, ↓b_iconst, ↓b_if_ne, ↓b_zret, ↓ldI_hit, ↓ldI_skip, ↓ldL_hit, ↓ldL_skip, ↓ldA_hit, ↓ldA_skip, ↓ldelK_nil, ↓ldelK_hit, ↓ldelK_skipI, ↓ldelK_skipA, ↓ldelK_skipL, lget_hit, lget_skip, ldel_nil, ldel_hit, ldel_skipI, ldel_skipA, ldel_skipL, ldel2_nil, ldel2_hit, ldel2_hit2, ldel2_skipI, ldel2_skipA, ldel2_skipL, vc_0, mCall_P0, mCat_nil, mCat_I, mCat_L, mCat_A, mRcv_A, mArg_nil, mArg_I, mArg_L, mArg_A, tsg, swt_nil, swt_cons, lkw_nil, lkw_cons, ↓reduceIte, Nat.reduceAdd, Nat.reduceEqDiff, Nat.reduceLeDiff, Nat.reduceMul, true_and, and_true, and_self, List.mem_cons, List.not_mem_nil, or_false, or_self, false_or, true_implies, false_implies, not_true_eq_false, not_false_eq_true, nI00, nI10, nI01, nI11, forall_const, implies_true]); (try simp (disch := omega) only [ixq, ixz, sb_in, sb_in0, upI_sb, upI_sb0, sb_out, nI_add, nI_mul, nI_subq, Nat.zero_add, forall_eq, u2_at, u2_row, upd_at, upd_ne, nI0b, nI1b, nI00, nI10, nI01, nI11, true_implies, false_implies, not_true_eq_false, not_false_eq_true, and_true, true_and, implies_true])
  refine c_isName ?_
  by_cases hc : T 0 5 = nI 2 ∧ T 0 8 = -1
  · rw [bI_t hc]
    rw [if_pos hc] at hK
    (try simp only [↓w_X0_isNewName_0, ↓w_X0_isNewName_13, ↓w_X0_isNewName_37, ↓w_X0_isNewName_43, ↓v_X0_isNewName_13, ↓v_X0_isNewName_37, ↓v_X0_isNewName_43, ↓b_aload_n, ↓b_callV1_1, ↓b_callV2_1, ↓b_getI, ↓b_ic_eq, ↓b_ic_ne, ↓b_iconst, ↓b_if_ne, ↓b_zret, ↓ldI_hit, ↓ldI_skip, ↓ldL_hit, ↓ldL_skip, ↓ldA_hit, ↓ldA_skip, ↓ldelK_nil, ↓ldelK_hit, ↓ldelK_skipI, ↓ldelK_skipA, ↓ldelK_skipL, lget_hit, lget_skip, ldel_nil, ldel_hit, ldel_skipI, ldel_skipA, ldel_skipL, ldel2_nil, ldel2_hit, ldel2_hit2, ldel2_skipI, ldel2_skipA, ldel2_skipL, vc_0, mCall_P0, mCat_nil, mCat_I, mCat_L, mCat_A, mRcv_A, mArg_nil, mArg_I, mArg_L, mArg_A, tsg, swt_nil, swt_cons, lkw_nil, lkw_cons, ↓reduceIte, Nat.reduceAdd, Nat.reduceEqDiff, Nat.reduceLeDiff, Nat.reduceMul, true_and, and_true, and_self, List.mem_cons, List.not_mem_nil, or_false, or_self, false_or, true_implies, false_implies, not_true_eq_false, not_false_eq_true, nI00, nI10, nI01, nI11, forall_const, implies_true]); (try simp (disch := omega) only [ixq, ixz, sb_in, sb_in0, upI_sb, upI_sb0, sb_out, nI_add, nI_mul, nI_subq, Nat.zero_add, forall_eq, u2_at, u2_row, upd_at, upd_ne, nI0b, nI1b, nI00, nI10, nI01, nI11, true_implies, false_implies, not_true_eq_false, not_false_eq_true, and_true, true_and, implies_true])
    refine c_goodNamed (sbB hd hB) hG hG6 ?_
    (try simp only [↓w_X0_isNewName_0, ↓w_X0_isNewName_13, ↓w_X0_isNewName_37, ↓w_X0_isNewName_43, ↓v_X0_isNewName_13, ↓v_X0_isNewName_37, ↓v_X0_isNewName_43, ↓b_aload_n, ↓b_callV1_1, ↓b_callV2_1, ↓b_getI, ↓b_ic_eq, ↓b_ic_ne, ↓b_iconst, ↓b_if_ne, ↓b_zret, ↓ldI_hit, ↓ldI_skip, ↓ldL_hit, ↓ldL_skip, ↓ldA_hit, ↓ldA_skip, ↓ldelK_nil, ↓ldelK_hit, ↓ldelK_skipI, ↓ldelK_skipA, ↓ldelK_skipL, lget_hit, lget_skip, ldel_nil, ldel_hit, ldel_skipI, ldel_skipA, ldel_skipL, ldel2_nil, ldel2_hit, ldel2_hit2, ldel2_skipI, ldel2_skipA, ldel2_skipL, vc_0, mCall_P0, mCat_nil, mCat_I, mCat_L, mCat_A, mRcv_A, mArg_nil, mArg_I, mArg_L, mArg_A, tsg, swt_nil, swt_cons, lkw_nil, lkw_cons, ↓reduceIte, Nat.reduceAdd, Nat.reduceEqDiff, Nat.reduceLeDiff, Nat.reduceMul, true_and, and_true, and_self, List.mem_cons, List.not_mem_nil, or_false, or_self, false_or, true_implies, false_implies, not_true_eq_false, not_false_eq_true, nI00, nI10, nI01, nI11, forall_const, implies_true]); (try simp (disch := omega) only [ixq, ixz, sb_in, sb_in0, upI_sb, upI_sb0, sb_out, nI_add, nI_mul, nI_subq, Nat.zero_add, forall_eq, u2_at, u2_row, upd_at, upd_ne, nI0b, nI1b, nI00, nI10, nI01, nI11, true_implies, false_implies, not_true_eq_false, not_false_eq_true, and_true, true_and, implies_true])
    refine ⟨fun hm => ?_, fun hm => ?_⟩
    · rw [if_neg (fun z => hm z.1)] at hK
      refine c_fail ?_
      (try simp only [↓w_X0_isNewName_0, ↓w_X0_isNewName_13, ↓w_X0_isNewName_37, ↓w_X0_isNewName_43, ↓v_X0_isNewName_13, ↓v_X0_isNewName_37, ↓v_X0_isNewName_43, ↓b_aload_n, ↓b_callV1_1, ↓b_callV2_1, ↓b_getI, ↓b_ic_eq, ↓b_ic_ne, ↓b_iconst, ↓b_if_ne, ↓b_zret, ↓ldI_hit, ↓ldI_skip, ↓ldL_hit, ↓ldL_skip, ↓ldA_hit, ↓ldA_skip, ↓ldelK_nil, ↓ldelK_hit, ↓ldelK_skipI, ↓ldelK_skipA, ↓ldelK_skipL, lget_hit, lget_skip, ldel_nil, ldel_hit, ldel_skipI, ldel_skipA, ldel_skipL, ldel2_nil, ldel2_hit, ldel2_hit2, ldel2_skipI, ldel2_skipA, ldel2_skipL, vc_0, mCall_P0, mCat_nil, mCat_I, mCat_L, mCat_A, mRcv_A, mArg_nil, mArg_I, mArg_L, mArg_A, tsg, swt_nil, swt_cons, lkw_nil, lkw_cons, ↓reduceIte, Nat.reduceAdd, Nat.reduceEqDiff, Nat.reduceLeDiff, Nat.reduceMul, true_and, and_true, and_self, List.mem_cons, List.not_mem_nil, or_false, or_self, false_or, true_implies, false_implies, not_true_eq_false, not_false_eq_true, nI00, nI10, nI01, nI11, forall_const, implies_true]); (try simp (disch := omega) only [ixq, ixz, sb_in, sb_in0, upI_sb, upI_sb0, sb_out, nI_add, nI_mul, nI_subq, Nat.zero_add, forall_eq, u2_at, u2_row, upd_at, upd_ne, nI0b, nI1b, nI00, nI10, nI01, nI11, true_implies, false_implies, not_true_eq_false, not_false_eq_true, and_true, true_and, implies_true])
      exact hK
    · refine c_workNamed (sbB hd hB) hW hW8 ?_
      (try simp only [↓w_X0_isNewName_0, ↓w_X0_isNewName_13, ↓w_X0_isNewName_37, ↓w_X0_isNewName_43, ↓v_X0_isNewName_13, ↓v_X0_isNewName_37, ↓v_X0_isNewName_43, ↓b_aload_n, ↓b_callV1_1, ↓b_callV2_1, ↓b_getI, ↓b_ic_eq, ↓b_ic_ne, ↓b_iconst, ↓b_if_ne, ↓b_zret, ↓ldI_hit, ↓ldI_skip, ↓ldL_hit, ↓ldL_skip, ↓ldA_hit, ↓ldA_skip, ↓ldelK_nil, ↓ldelK_hit, ↓ldelK_skipI, ↓ldelK_skipA, ↓ldelK_skipL, lget_hit, lget_skip, ldel_nil, ldel_hit, ldel_skipI, ldel_skipA, ldel_skipL, ldel2_nil, ldel2_hit, ldel2_hit2, ldel2_skipI, ldel2_skipA, ldel2_skipL, vc_0, mCall_P0, mCat_nil, mCat_I, mCat_L, mCat_A, mRcv_A, mArg_nil, mArg_I, mArg_L, mArg_A, tsg, swt_nil, swt_cons, lkw_nil, lkw_cons, ↓reduceIte, Nat.reduceAdd, Nat.reduceEqDiff, Nat.reduceLeDiff, Nat.reduceMul, true_and, and_true, and_self, List.mem_cons, List.not_mem_nil, or_false, or_self, false_or, true_implies, false_implies, not_true_eq_false, not_false_eq_true, nI00, nI10, nI01, nI11, forall_const, implies_true]); (try simp (disch := omega) only [ixq, ixz, sb_in, sb_in0, upI_sb, upI_sb0, sb_out, nI_add, nI_mul, nI_subq, Nat.zero_add, forall_eq, u2_at, u2_row, upd_at, upd_ne, nI0b, nI1b, nI00, nI10, nI01, nI11, true_implies, false_implies, not_true_eq_false, not_false_eq_true, and_true, true_and, implies_true])
      refine ⟨fun hn => ?_, fun hn => ?_⟩
      · rw [if_pos ⟨hm, hn⟩] at hK
        (try simp only [↓w_X0_isNewName_0, ↓w_X0_isNewName_13, ↓w_X0_isNewName_37, ↓w_X0_isNewName_43, ↓v_X0_isNewName_13, ↓v_X0_isNewName_37, ↓v_X0_isNewName_43, ↓b_aload_n, ↓b_callV1_1, ↓b_callV2_1, ↓b_getI, ↓b_ic_eq, ↓b_ic_ne, ↓b_iconst, ↓b_if_ne, ↓b_zret, ↓ldI_hit, ↓ldI_skip, ↓ldL_hit, ↓ldL_skip, ↓ldA_hit, ↓ldA_skip, ↓ldelK_nil, ↓ldelK_hit, ↓ldelK_skipI, ↓ldelK_skipA, ↓ldelK_skipL, lget_hit, lget_skip, ldel_nil, ldel_hit, ldel_skipI, ldel_skipA, ldel_skipL, ldel2_nil, ldel2_hit, ldel2_hit2, ldel2_skipI, ldel2_skipA, ldel2_skipL, vc_0, mCall_P0, mCat_nil, mCat_I, mCat_L, mCat_A, mRcv_A, mArg_nil, mArg_I, mArg_L, mArg_A, tsg, swt_nil, swt_cons, lkw_nil, lkw_cons, ↓reduceIte, Nat.reduceAdd, Nat.reduceEqDiff, Nat.reduceLeDiff, Nat.reduceMul, true_and, and_true, and_self, List.mem_cons, List.not_mem_nil, or_false, or_self, false_or, true_implies, false_implies, not_true_eq_false, not_false_eq_true, nI00, nI10, nI01, nI11, forall_const, implies_true]); (try simp (disch := omega) only [ixq, ixz, sb_in, sb_in0, upI_sb, upI_sb0, sb_out, nI_add, nI_mul, nI_subq, Nat.zero_add, forall_eq, u2_at, u2_row, upd_at, upd_ne, nI0b, nI1b, nI00, nI10, nI01, nI11, true_implies, false_implies, not_true_eq_false, not_false_eq_true, and_true, true_and, implies_true])
        exact hK
      · rw [if_neg (fun z => hn z.2)] at hK
        refine c_fail ?_
        (try simp only [↓w_X0_isNewName_0, ↓w_X0_isNewName_13, ↓w_X0_isNewName_37, ↓w_X0_isNewName_43, ↓v_X0_isNewName_13, ↓v_X0_isNewName_37, ↓v_X0_isNewName_43, ↓b_aload_n, ↓b_callV1_1, ↓b_callV2_1, ↓b_getI, ↓b_ic_eq, ↓b_ic_ne, ↓b_iconst, ↓b_if_ne, ↓b_zret, ↓ldI_hit, ↓ldI_skip, ↓ldL_hit, ↓ldL_skip, ↓ldA_hit, ↓ldA_skip, ↓ldelK_nil, ↓ldelK_hit, ↓ldelK_skipI, ↓ldelK_skipA, ↓ldelK_skipL, lget_hit, lget_skip, ldel_nil, ldel_hit, ldel_skipI, ldel_skipA, ldel_skipL, ldel2_nil, ldel2_hit, ldel2_hit2, ldel2_skipI, ldel2_skipA, ldel2_skipL, vc_0, mCall_P0, mCat_nil, mCat_I, mCat_L, mCat_A, mRcv_A, mArg_nil, mArg_I, mArg_L, mArg_A, tsg, swt_nil, swt_cons, lkw_nil, lkw_cons, ↓reduceIte, Nat.reduceAdd, Nat.reduceEqDiff, Nat.reduceLeDiff, Nat.reduceMul, true_and, and_true, and_self, List.mem_cons, List.not_mem_nil, or_false, or_self, false_or, true_implies, false_implies, not_true_eq_false, not_false_eq_true, nI00, nI10, nI01, nI11, forall_const, implies_true]); (try simp (disch := omega) only [ixq, ixz, sb_in, sb_in0, upI_sb, upI_sb0, sb_out, nI_add, nI_mul, nI_subq, Nat.zero_add, forall_eq, u2_at, u2_row, upd_at, upd_ne, nI0b, nI1b, nI00, nI10, nI01, nI11, true_implies, false_implies, not_true_eq_false, not_false_eq_true, and_true, true_and, implies_true])
        exact hK
  · rw [bI_f hc]
    rw [if_neg hc] at hK
    (try simp only [↓w_X0_isNewName_0, ↓w_X0_isNewName_13, ↓w_X0_isNewName_37, ↓w_X0_isNewName_43, ↓v_X0_isNewName_13, ↓v_X0_isNewName_37, ↓v_X0_isNewName_43, ↓b_aload_n, ↓b_callV1_1, ↓b_callV2_1, ↓b_getI, ↓b_ic_eq, ↓b_ic_ne, ↓b_iconst, ↓b_if_ne, ↓b_zret, ↓ldI_hit, ↓ldI_skip, ↓ldL_hit, ↓ldL_skip, ↓ldA_hit, ↓ldA_skip, ↓ldelK_nil, ↓ldelK_hit, ↓ldelK_skipI, ↓ldelK_skipA, ↓ldelK_skipL, lget_hit, lget_skip, ldel_nil, ldel_hit, ldel_skipI, ldel_skipA, ldel_skipL, ldel2_nil, ldel2_hit, ldel2_hit2, ldel2_skipI, ldel2_skipA, ldel2_skipL, vc_0, mCall_P0, mCat_nil, mCat_I, mCat_L, mCat_A, mRcv_A, mArg_nil, mArg_I, mArg_L, mArg_A, tsg, swt_nil, swt_cons, lkw_nil, lkw_cons, ↓reduceIte, Nat.reduceAdd, Nat.reduceEqDiff, Nat.reduceLeDiff, Nat.reduceMul, true_and, and_true, and_self, List.mem_cons, List.not_mem_nil, or_false, or_self, false_or, true_implies, false_implies, not_true_eq_false, not_false_eq_true, nI00, nI10, nI01, nI11, forall_const, implies_true]); (try simp (disch := omega) only [ixq, ixz, sb_in, sb_in0, upI_sb, upI_sb0, sb_out, nI_add, nI_mul, nI_subq, Nat.zero_add, forall_eq, u2_at, u2_row, upd_at, upd_ne, nI0b, nI1b, nI00, nI10, nI01, nI11, true_implies, false_implies, not_true_eq_false, not_false_eq_true, and_true, true_and, implies_true])
    refine c_fail ?_
    (try simp only [↓w_X0_isNewName_0, ↓w_X0_isNewName_13, ↓w_X0_isNewName_37, ↓w_X0_isNewName_43, ↓v_X0_isNewName_13, ↓v_X0_isNewName_37, ↓v_X0_isNewName_43, ↓b_aload_n, ↓b_callV1_1, ↓b_callV2_1, ↓b_getI, ↓b_ic_eq, ↓b_ic_ne, ↓b_iconst, ↓b_if_ne, ↓b_zret, ↓ldI_hit, ↓ldI_skip, ↓ldL_hit, ↓ldL_skip, ↓ldA_hit, ↓ldA_skip, ↓ldelK_nil, ↓ldelK_hit, ↓ldelK_skipI, ↓ldelK_skipA, ↓ldelK_skipL, lget_hit, lget_skip, ldel_nil, ldel_hit, ldel_skipI, ldel_skipA, ldel_skipL, ldel2_nil, ldel2_hit, ldel2_hit2, ldel2_skipI, ldel2_skipA, ldel2_skipL, vc_0, mCall_P0, mCat_nil, mCat_I, mCat_L, mCat_A, mRcv_A, mArg_nil, mArg_I, mArg_L, mArg_A, tsg, swt_nil, swt_cons, lkw_nil, lkw_cons, ↓reduceIte, Nat.reduceAdd, Nat.reduceEqDiff, Nat.reduceLeDiff, Nat.reduceMul, true_and, and_true, and_self, List.mem_cons, List.not_mem_nil, or_false, or_self, false_or, true_implies, false_implies, not_true_eq_false, not_false_eq_true, nI00, nI10, nI01, nI11, forall_const, implies_true]); (try simp (disch := omega) only [ixq, ixz, sb_in, sb_in0, upI_sb, upI_sb0, sb_out, nI_add, nI_mul, nI_subq, Nat.zero_add, forall_eq, u2_at, u2_row, upd_at, upd_ne, nI0b, nI1b, nI00, nI10, nI01, nI11, true_implies, false_implies, not_true_eq_false, not_false_eq_true, and_true, true_and, implies_true])
    exact hK
end MRd
