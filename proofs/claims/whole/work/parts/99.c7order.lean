/-- who begins when: HOUR by HOUR, WORK by WORK; ev n w: it has gone by HOUR n (so 0 is before the first) -/
def odW (ev : Nat → Nat → Nat) (k : Int32) (n : Nat) (nx : Nat → Int32) : Nat → Nat → Nat → Int32
  | 0, _, c => nx c
  | j + 1, w, c => if ev (n + 1) w = 1 ∧ ev n w = 0 then (if nI c = k then nI w else odW ev k n nx j (w + 1) (c + 1)) else odW ev k n nx j (w + 1) c
def odH (ev : Nat → Nat → Nat) (k : Int32) (W : Nat) : Nat → Nat → Nat → Int32
  | 0, _, _ => -1
  | i + 1, n, c => odW ev k n (fun c => odH ev k W i (n + 1) c) W 0 c
/-- the set of those that have gone by HOUR n, and of the first w by the next -/
def seenS (ev : Nat → Nat → Nat) (n w : Nat) (s : Int32) : Prop := ∀ v, v < 8 → ((s >>> (nI v &&& 31) &&& nI 1 = nI 1) ↔ (if v < w then ev (n + 1) v = 1 else ev n v = 1))
theorem bit_or {s : Int32} {v w : Nat} (hv : v < 8) (hw : w < 8) : ((s ||| nI 1 <<< (nI w &&& 31)) >>> (nI v &&& 31) &&& nI 1 = nI 1) ↔ (v = w ∨ s >>> (nI v &&& 31) &&& nI 1 = nI 1) := by
  rw [bit_iff hv, bit_iff hv]
  have e : (s ||| nI 1 <<< (nI w &&& 31)).toBitVec.getLsbD v = (s.toBitVec.getLsbD v || (nI 1 <<< (nI w &&& 31)).toBitVec.getLsbD v) := by
    show (s.toBitVec ||| (nI 1 <<< (nI w &&& 31)).toBitVec).getLsbD v = _
    rw [BitVec.getLsbD_or]
  have b : (nI 1 <<< (nI w &&& 31)).toBitVec.getLsbD v = decide (v = w) := by
    have h1 : v = 0 ∨ v = 1 ∨ v = 2 ∨ v = 3 ∨ v = 4 ∨ v = 5 ∨ v = 6 ∨ v = 7 := by omega
    have h2 : w = 0 ∨ w = 1 ∨ w = 2 ∨ w = 3 ∨ w = 4 ∨ w = 5 ∨ w = 6 ∨ w = 7 := by omega
    rcases h1 with rfl | rfl | rfl | rfl | rfl | rfl | rfl | rfl <;> rcases h2 with rfl | rfl | rfl | rfl | rfl | rfl | rfl | rfl <;> decide
  rw [e, b]
  cases s.toBitVec.getLsbD v <;> by_cases h : v = w <;> simp [h]
theorem seen_s {ev : Nat → Nat → Nat} {n w : Nat} {s : Int32} (hw : w < 8) (h : seenS ev n w s) (mono : ev n w = 1 → ev (n + 1) w = 1) : (ev (n + 1) w = 1 → ¬ ev n w = 1 → seenS ev n (w + 1) (s ||| nI 1 <<< (nI w &&& 31))) ∧ (¬ (ev (n + 1) w = 1 ∧ ¬ ev n w = 1) → seenS ev n (w + 1) s) := by
  refine ⟨fun h1 h2 v hv => ?_, fun hc v hv => ?_⟩
  · rw [bit_or hv hw, h v hv]
    by_cases a : v = w
    · subst a
      rw [if_neg (Nat.lt_irrefl v), if_pos (Nat.lt_succ_self v)]
      exact ⟨fun _ => h1, fun _ => Or.inl rfl⟩
    · by_cases b : v < w
      · rw [if_pos b, if_pos (by omega)]
        exact ⟨fun z => z.resolve_left a, Or.inr⟩
      · rw [if_neg b, if_neg (by omega)]
        exact ⟨fun z => z.resolve_left a, Or.inr⟩
  · rw [h v hv]
    by_cases a : v = w
    · subst a
      rw [if_neg (by omega), if_pos (by omega)]
      exact ⟨mono, fun z => Classical.byContradiction (fun y => hc ⟨z, y⟩)⟩
    · by_cases b : v < w
      · rw [if_pos b, if_pos (by omega)]
      · rw [if_neg b, if_neg (by omega)]
theorem seen_n {ev : Nat → Nat → Nat} {n W : Nat} {s : Int32} (h : seenS ev n W s) (z : ∀ n v, W ≤ v → ev n v = 0) : seenS ev (n + 1) 0 s := fun v hv => by
  rw [h v hv, if_neg (Nat.not_lt_zero v)]
  by_cases b : v < W
  · rw [if_pos b]
  · rw [if_neg b, z n v (by omega), z (n + 1) v (by omega)]
section MOd
variable {X : mC} {h x m : Nat} {μ : Mem} {K : MV → Mem → Prop}
theorem f_order {k : Int32} (hx : x + 164 = m) (hr : Rel x m μ) : PAIR X (h + 9) m_X8_order m_X9_order x m [.inl k] μ := by
  obtain ⟨G, W, rb, pl, sn, rn⟩ := id hr.2.2.1
  have b1 : μ.1 (x + 4) 1 = nI W := rb.b1
  have q1 : bk μ m 2 1 = nI W := rb.q1
  have g6 := rb.g6
  have w8 := rb.w8
  have hF0 := RBB_FB rb
  generalize hal : nI 1 <<< (nI W &&& 31) - nI 1 = all
  obtain ⟨ev, hev⟩ : ∃ ev : Nat → Nat → Nat, ∀ n w, (ev n w = 1 ∧ w < W ∧ 0 < runC G W (bk μ (x + 4)) (fun _ => all) (fun _ _ => nI 0) n 8 w) ∨ (ev n w = 0 ∧ ¬ (w < W ∧ 0 < runC G W (bk μ (x + 4)) (fun _ => all) (fun _ _ => nI 0) n 8 w)) :=
    ⟨fun n w => @ite _ (w < W ∧ 0 < runC G W (bk μ (x + 4)) (fun _ => all) (fun _ _ => nI 0) n 8 w) (Classical.propDecidable _) 1 0, fun n w => by
      by_cases z : w < W ∧ 0 < runC G W (bk μ (x + 4)) (fun _ => all) (fun _ _ => nI 0) n 8 w
      · exact Or.inl ⟨if_pos z, z⟩
      · exact Or.inr ⟨if_neg z, z⟩⟩
  have evz : ∀ n v, W ≤ v → ev n v = 0 := fun n v hv => by
    rcases hev n v with ⟨_, b, _⟩ | ⟨b, _⟩
    · omega
    · exact b
  have ev0 : ∀ v, ev 0 v = 0 := fun v => by
    rcases hev 0 v with ⟨_, b, c⟩ | ⟨b, _⟩
    · rw [runC_z, startF_k (by decide), (emptyF_at.2.2.2.1 v (by omega)).1] at c
      exact absurd c (by decide)
    · exact b
  have evn : ∀ n w, n ≤ 199 → w < W → (ev (n + 1) w = 1 ↔ ev n w = 1 ∨ wlP (runC G W (bk μ (x + 4)) (fun _ => all) (fun _ _ => nI 0) (n + 1)) w) := fun n w hn hw => by
    have hh := run_rel (V := fun _ _ => nI 0) (R := fun _ _ => nI 0) (fr := fun _ => all) hF0 g6 w8 n (by omega)
    have wn := wl_new (free := all) (by omega) hh hw
    rw [← runC_s (fr := fun _ => all)] at wn
    have e1 : ev (n + 1) w = 1 ↔ 0 < runC G W (bk μ (x + 4)) (fun _ => all) (fun _ _ => nI 0) (n + 1) 8 w := by
      rcases hev (n + 1) w with ⟨a, _, b⟩ | ⟨a, b⟩
      · exact ⟨fun _ => b, fun _ => a⟩
      · exact ⟨fun z => by omega, fun z => absurd ⟨hw, z⟩ b⟩
    have e0 : ev n w = 1 ↔ 0 < runC G W (bk μ (x + 4)) (fun _ => all) (fun _ _ => nI 0) n 8 w := by
      rcases hev n w with ⟨a, _, b⟩ | ⟨a, b⟩
      · exact ⟨fun _ => b, fun _ => a⟩
      · exact ⟨fun z => by omega, fun z => absurd ⟨hw, z⟩ b⟩
    rw [e1, e0, wn]
  have ev01 : ∀ n w, ev n w = 0 ∨ ev n w = 1 := fun n w => by
    rcases hev n w with ⟨a, _⟩ | ⟨a, _⟩
    · exact Or.inr a
    · exact Or.inl a
  have s0 : seenS ev 0 0 (nI 0) := fun v hv => by
    rw [if_neg (Nat.not_lt_zero v), ev0 v]
    have : ¬ nI 0 >>> (nI v &&& 31) &&& nI 1 = nI 1 := by
      have h2 : v = 0 ∨ v = 1 ∨ v = 2 ∨ v = 3 ∨ v = 4 ∨ v = 5 ∨ v = 6 ∨ v = 7 := by omega
      rcases h2 with rfl | rfl | rfl | rfl | rfl | rfl | rfl | rfl <;> decide
    exact ⟨fun z => absurd z this, fun z => by omega⟩
  refine pairC (.inl (odH ev k W 200 0 0)) hx hr (fun K hK => ?_) (fun μ1 Q e K hK => ?_)
  · (refine vc_met2 P2_ok ok_X8_order cm_X8_order [18,47,88,98] 8 t_X8_order_0 (Nat.le_of_ble_eq_true rfl) ?_; simp only [mArg_nil, mArg_I, mArg_L, mArg_A, Nat.reduceAdd])
    have main : ∀ R0 i n c s μ1, tri x 62 μ μ1 (runC G W (bk μ (x + 4)) (fun _ => all) R0 n) → n + i = 200 → c ≤ 8 * n → seenS ev n 0 s → (∀ μ2, frZ x μ μ2 → K (.inl (odH ev k W i n c)) μ2) → bb X P2 m_X8_order (h + 8) K (vc X P2 m_X8_order (h + 8) K k_X8_order [18,47,88,98] 8) s_X8_order_18 [(4, .inl (nI n)), (3, .inl (nI c)), (2, .inl s), (0, .inr (.inr (7, 0, x))), (1, .inl k)] [] μ1 := by
      intro R0 i
      induction i with
      | zero =>
        intro n c s μ1 f1 hn hc hs hK
        (try simp only [↓w_X8_order_0, ↓w_X8_order_18, ↓w_X8_order_88, ↓w_X8_order_98, ↓w_X8_order_104, ↓w_X8_order_110, ↓v_X8_order_18, ↓v_X8_order_47, ↓v_X8_order_88, ↓v_X8_order_98, ↓v_X8_order_104, ↓v_X8_order_110, ↓b_aload_n, ↓b_callV1_1, ↓b_callV2_0, ↓b_callV2_1, ↓b_callV3_0, ↓b_getA, ↓b_getI, ↓b_goto, ↓b_iand, ↓b_ic_ge, ↓b_ic_ne, ↓b_iconst, ↓b_if_eq, ↓b_if_ne, ↓n_iinc, ↓b_iload, ↓b_iload_n, ↓b_ior, ↓b_iret, ↓b_ishl, ↓b_ishr, ↓n_istore, ↓n_istore_n, ↓b_sipush, ↓ldI_hit, ↓ldI_skip, ↓ldL_hit, ↓ldL_skip, ↓ldA_hit, ↓ldA_skip, ↓ldelK_nil, ↓ldelK_hit, ↓ldelK_skipI, ↓ldelK_skipA, ↓ldelK_skipL, qP2_X0_allWorks, qP2_X4_pass, qP2_X4_startAsTold, qP2_X4_wentLately, ↓bI_b, bI_0, nnot, lget_hit, lget_skip, ldel_nil, ldel_hit, ldel_skipI, ldel_skipA, ldel_skipL, ldel2_nil, ldel2_hit, ldel2_hit2, ldel2_skipI, ldel2_skipA, ldel2_skipL, vc_0, mCat_nil, mCat_I, mCat_L, mCat_A, mRcv_A, mArg_nil, mArg_I, mArg_L, mArg_A, tsg, swt_nil, swt_cons, lkw_nil, lkw_cons, ↓reduceIte, Nat.reduceAdd, Nat.reduceEqDiff, Nat.reduceLeDiff, Nat.reduceMul, true_and, and_true, and_self, List.mem_cons, List.not_mem_nil, or_false, or_self, false_or, true_implies, false_implies, not_true_eq_false, not_false_eq_true, nI00, nI10, nI01, nI11, forall_const, implies_true])
        (try simp (disch := omega) only [ixq, ixz, sb_in, sb_in0, upI_sb, upI_sb0, sb_out, nI_add, nI_mul, nI_subq, Nat.zero_add, forall_eq, u2_at, u2_row, upd_at, upd_ne, nI0b, nI1b, nI00, nI10, nI01, nI11, true_implies, false_implies, not_true_eq_false, not_false_eq_true, and_true, true_and, implies_true, nI_lq])
        exact ⟨fun _ => hK μ1 f1.1, fun z => absurd (show 200 ≤ n by omega) z⟩
      | succ i ih =>
        intro n c s μ1 f1 hn hc hs hK
        have b1' : μ1.1 (x + 4) 1 = nI W := by rw [f1.1.2 4 (by omega)]; exact b1
        have inner : ∀ j w c s μ1, tri x 62 μ μ1 (runC G W (bk μ (x + 4)) (fun _ => all) R0 (n + 1)) → w + j = W → c ≤ 8 * n + w → seenS ev n w s → (∀ μ2, frZ x μ μ2 → K (.inl (odW ev k n (fun c => odH ev k W i (n + 1) c) j w c)) μ2) → bb X P2 m_X8_order (h + 8) K (vc X P2 m_X8_order (h + 8) K k_X8_order [18,47,88,98] 8) s_X8_order_47 [(5, .inl (nI w)), (4, .inl (nI n)), (3, .inl (nI c)), (2, .inl s), (0, .inr (.inr (7, 0, x))), (1, .inl k)] [] μ1 := by
          intro j
          induction j with
          | zero =>
            intro w c s μ1 f1 hw hc hs hK
            have b1' : μ1.1 (x + 4) 1 = nI W := by rw [f1.1.2 4 (by omega)]; exact b1
            have ew : w = W := by omega
            subst ew
            have i2 := ih (n + 1) c s μ1 f1 (by omega) (by omega) (seen_n hs evz) hK
            clear ih
            (try simp only [↓w_X8_order_0, ↓w_X8_order_18, ↓w_X8_order_47, ↓w_X8_order_88, ↓w_X8_order_98, ↓w_X8_order_104, ↓w_X8_order_110, ↓v_X8_order_18, ↓v_X8_order_47, ↓v_X8_order_88, ↓v_X8_order_98, ↓v_X8_order_104, ↓v_X8_order_110, ↓b_aload_n, ↓b_callV1_1, ↓b_callV2_0, ↓b_callV2_1, ↓b_callV3_0, ↓b_getA, ↓b_getI, ↓b_goto, ↓b_iand, ↓b_ic_ge, ↓b_ic_ne, ↓b_iconst, ↓b_if_eq, ↓b_if_ne, ↓n_iinc, ↓b_iload, ↓b_iload_n, ↓b_ior, ↓b_iret, ↓b_ishl, ↓b_ishr, ↓n_istore, ↓n_istore_n, ↓b_sipush, ↓ldI_hit, ↓ldI_skip, ↓ldL_hit, ↓ldL_skip, ↓ldA_hit, ↓ldA_skip, ↓ldelK_nil, ↓ldelK_hit, ↓ldelK_skipI, ↓ldelK_skipA, ↓ldelK_skipL, qP2_X0_allWorks, qP2_X4_pass, qP2_X4_startAsTold, qP2_X4_wentLately, ↓bI_b, bI_0, nnot, lget_hit, lget_skip, ldel_nil, ldel_hit, ldel_skipI, ldel_skipA, ldel_skipL, ldel2_nil, ldel2_hit, ldel2_hit2, ldel2_skipI, ldel2_skipA, ldel2_skipL, vc_0, mCat_nil, mCat_I, mCat_L, mCat_A, mRcv_A, mArg_nil, mArg_I, mArg_L, mArg_A, tsg, swt_nil, swt_cons, lkw_nil, lkw_cons, ↓reduceIte, Nat.reduceAdd, Nat.reduceEqDiff, Nat.reduceLeDiff, Nat.reduceMul, true_and, and_true, and_self, List.mem_cons, List.not_mem_nil, or_false, or_self, false_or, true_implies, false_implies, not_true_eq_false, not_false_eq_true, nI00, nI10, nI01, nI11, forall_const, implies_true])
            (try simp (disch := omega) only [ixq, ixz, sb_in, sb_in0, upI_sb, upI_sb0, sb_out, nI_add, nI_mul, nI_subq, Nat.zero_add, forall_eq, u2_at, u2_row, upd_at, upd_ne, nI0b, nI1b, nI00, nI10, nI01, nI11, true_implies, false_implies, not_true_eq_false, not_false_eq_true, and_true, true_and, implies_true, b1', nI_lq])
            refine ⟨fun _ => ?_, fun z => absurd (Nat.le_refl w) z⟩
            exact vc_back P2_ok ok_X8_order [18,47,88,98] 8 t_X8_order_18 (i2) (by simp) (rfl)
          | succ j ihw =>
            intro w c s μ1 f1 hw hc hs hK
            clear ih
            have b1' : μ1.1 (x + 4) 1 = nI W := by rw [f1.1.2 4 (by omega)]; exact b1
            have ce := ((can_eq (R' := fun _ _ => nI 0) (fr := fun _ => all) (R := R0) hF0 g6 w8 (n := n + 1) (by omega)).1 w (by omega)).1
            have en := evn n w (by omega) (by omega)
            have sw := hs w (by omega)
            rw [if_neg (Nat.lt_irrefl w)] at sw
            have ss := seen_s (by omega) hs (fun z => en.mpr (Or.inl z))
            have a01 := ev01 n w
            have b01 := ev01 (n + 1) w
            (try simp only [↓w_X8_order_0, ↓w_X8_order_18, ↓w_X8_order_47, ↓w_X8_order_104, ↓w_X8_order_110, ↓v_X8_order_18, ↓v_X8_order_47, ↓v_X8_order_88, ↓v_X8_order_98, ↓v_X8_order_104, ↓v_X8_order_110, ↓b_aload_n, ↓b_callV1_1, ↓b_callV2_0, ↓b_callV2_1, ↓b_callV3_0, ↓b_getA, ↓b_getI, ↓b_goto, ↓b_iand, ↓b_ic_ge, ↓b_ic_ne, ↓b_iconst, ↓b_if_eq, ↓b_if_ne, ↓n_iinc, ↓b_iload, ↓b_iload_n, ↓b_ior, ↓b_iret, ↓b_ishl, ↓b_ishr, ↓n_istore, ↓n_istore_n, ↓b_sipush, ↓ldI_hit, ↓ldI_skip, ↓ldL_hit, ↓ldL_skip, ↓ldA_hit, ↓ldA_skip, ↓ldelK_nil, ↓ldelK_hit, ↓ldelK_skipI, ↓ldelK_skipA, ↓ldelK_skipL, qP2_X0_allWorks, qP2_X4_pass, qP2_X4_startAsTold, qP2_X4_wentLately, ↓bI_b, bI_0, nnot, lget_hit, lget_skip, ldel_nil, ldel_hit, ldel_skipI, ldel_skipA, ldel_skipL, ldel2_nil, ldel2_hit, ldel2_hit2, ldel2_skipI, ldel2_skipA, ldel2_skipL, vc_0, mCat_nil, mCat_I, mCat_L, mCat_A, mRcv_A, mArg_nil, mArg_I, mArg_L, mArg_A, tsg, swt_nil, swt_cons, lkw_nil, lkw_cons, ↓reduceIte, Nat.reduceAdd, Nat.reduceEqDiff, Nat.reduceLeDiff, Nat.reduceMul, true_and, and_true, and_self, List.mem_cons, List.not_mem_nil, or_false, or_self, false_or, true_implies, false_implies, not_true_eq_false, not_false_eq_true, nI00, nI10, nI01, nI11, forall_const, implies_true])
            (try simp (disch := omega) only [ixq, ixz, sb_in, sb_in0, upI_sb, upI_sb0, sb_out, nI_add, nI_mul, nI_subq, Nat.zero_add, forall_eq, u2_at, u2_row, upd_at, upd_ne, nI0b, nI1b, nI00, nI10, nI01, nI11, true_implies, false_implies, not_true_eq_false, not_false_eq_true, and_true, true_and, implies_true, b1', nI_lq])
            refine ⟨fun z => by omega, fun _ => ?_⟩
            refine c_wentLately (R := runC G W (bk μ (x + 4)) (fun _ => all) R0 (n + 1)) (by omega) f1.2 ?_
            by_cases wl : wlP (runC G W (bk μ (x + 4)) (fun _ => all) R0 (n + 1)) w
            · rw [wl_t wl]
              have e1 : ev (n + 1) w = 1 := en.mpr (Or.inr (ce.mp wl))
              by_cases e0 : ev n w = 1
              · have sb1 := sw.mpr e0
                have z1 : (s >>> (nI w &&& 31) &&& nI 1 = 0) = False := by rw [sb1]; exact nI10
                have i2 := ihw (w + 1) c s μ1 f1 (by omega) (by omega) (ss.2 (fun z => z.2 e0)) (fun μ2 f2 => by
                  have hK' := hK μ2 f2
                  unfold odW at hK'
                  rw [if_neg (fun z => by omega)] at hK'
                  exact hK')
                clear ihw
                (try simp only [↓w_X8_order_0, ↓w_X8_order_18, ↓w_X8_order_47, ↓w_X8_order_104, ↓w_X8_order_110, ↓v_X8_order_18, ↓v_X8_order_47, ↓v_X8_order_88, ↓v_X8_order_98, ↓v_X8_order_104, ↓v_X8_order_110, ↓b_aload_n, ↓b_callV1_1, ↓b_callV2_0, ↓b_callV2_1, ↓b_callV3_0, ↓b_getA, ↓b_getI, ↓b_goto, ↓b_iand, ↓b_ic_ge, ↓b_ic_ne, ↓b_iconst, ↓b_if_eq, ↓b_if_ne, ↓n_iinc, ↓b_iload, ↓b_iload_n, ↓b_ior, ↓b_iret, ↓b_ishl, ↓b_ishr, ↓n_istore, ↓n_istore_n, ↓b_sipush, ↓ldI_hit, ↓ldI_skip, ↓ldL_hit, ↓ldL_skip, ↓ldA_hit, ↓ldA_skip, ↓ldelK_nil, ↓ldelK_hit, ↓ldelK_skipI, ↓ldelK_skipA, ↓ldelK_skipL, qP2_X0_allWorks, qP2_X4_pass, qP2_X4_startAsTold, qP2_X4_wentLately, ↓bI_b, bI_0, nnot, lget_hit, lget_skip, ldel_nil, ldel_hit, ldel_skipI, ldel_skipA, ldel_skipL, ldel2_nil, ldel2_hit, ldel2_hit2, ldel2_skipI, ldel2_skipA, ldel2_skipL, vc_0, mCat_nil, mCat_I, mCat_L, mCat_A, mRcv_A, mArg_nil, mArg_I, mArg_L, mArg_A, tsg, swt_nil, swt_cons, lkw_nil, lkw_cons, ↓reduceIte, Nat.reduceAdd, Nat.reduceEqDiff, Nat.reduceLeDiff, Nat.reduceMul, true_and, and_true, and_self, List.mem_cons, List.not_mem_nil, or_false, or_self, false_or, true_implies, false_implies, not_true_eq_false, not_false_eq_true, nI00, nI10, nI01, nI11, forall_const, implies_true])
                (try simp (disch := omega) only [ixq, ixz, sb_in, sb_in0, upI_sb, upI_sb0, sb_out, nI_add, nI_mul, nI_subq, Nat.zero_add, forall_eq, u2_at, u2_row, upd_at, upd_ne, nI0b, nI1b, nI00, nI10, nI01, nI11, true_implies, false_implies, not_true_eq_false, not_false_eq_true, and_true, true_and, implies_true, z1])
                (refine vc_from P2_ok ok_X8_order [18,47,88,98] 8 ?_; rw [t_X8_order_98])
                (try simp only [↓w_X8_order_0, ↓w_X8_order_18, ↓w_X8_order_47, ↓w_X8_order_88, ↓w_X8_order_98, ↓w_X8_order_104, ↓w_X8_order_110, ↓v_X8_order_18, ↓v_X8_order_47, ↓v_X8_order_88, ↓v_X8_order_98, ↓v_X8_order_104, ↓v_X8_order_110, ↓b_aload_n, ↓b_callV1_1, ↓b_callV2_0, ↓b_callV2_1, ↓b_callV3_0, ↓b_getA, ↓b_getI, ↓b_goto, ↓b_iand, ↓b_ic_ge, ↓b_ic_ne, ↓b_iconst, ↓b_if_eq, ↓b_if_ne, ↓n_iinc, ↓b_iload, ↓b_iload_n, ↓b_ior, ↓b_iret, ↓b_ishl, ↓b_ishr, ↓n_istore, ↓n_istore_n, ↓b_sipush, ↓ldI_hit, ↓ldI_skip, ↓ldL_hit, ↓ldL_skip, ↓ldA_hit, ↓ldA_skip, ↓ldelK_nil, ↓ldelK_hit, ↓ldelK_skipI, ↓ldelK_skipA, ↓ldelK_skipL, qP2_X0_allWorks, qP2_X4_pass, qP2_X4_startAsTold, qP2_X4_wentLately, ↓bI_b, bI_0, nnot, lget_hit, lget_skip, ldel_nil, ldel_hit, ldel_skipI, ldel_skipA, ldel_skipL, ldel2_nil, ldel2_hit, ldel2_hit2, ldel2_skipI, ldel2_skipA, ldel2_skipL, vc_0, mCat_nil, mCat_I, mCat_L, mCat_A, mRcv_A, mArg_nil, mArg_I, mArg_L, mArg_A, tsg, swt_nil, swt_cons, lkw_nil, lkw_cons, ↓reduceIte, Nat.reduceAdd, Nat.reduceEqDiff, Nat.reduceLeDiff, Nat.reduceMul, true_and, and_true, and_self, List.mem_cons, List.not_mem_nil, or_false, or_self, false_or, true_implies, false_implies, not_true_eq_false, not_false_eq_true, nI00, nI10, nI01, nI11, forall_const, implies_true])
                (try simp (disch := omega) only [ixq, ixz, sb_in, sb_in0, upI_sb, upI_sb0, sb_out, nI_add, nI_mul, nI_subq, Nat.zero_add, forall_eq, u2_at, u2_row, upd_at, upd_ne, nI0b, nI1b, nI00, nI10, nI01, nI11, true_implies, false_implies, not_true_eq_false, not_false_eq_true, and_true, true_and, implies_true])
                exact vc_back P2_ok ok_X8_order [18,47,88,98] 8 t_X8_order_47 (i2) (by simp) (rfl)
              · have z1 : (s >>> (nI w &&& 31) &&& nI 1 = 0) = True := by
                  rcases and_1 (y := s >>> (nI w &&& 31)) with z | z
                  · rw [z]; exact nI00
                  · exact absurd (sw.mp z) e0
                by_cases hk : nI c = k
                · have hk' := eq_true hk
                  have hK' := hK μ1 f1.1
                  unfold odW at hK'
                  rw [if_pos ⟨e1, by omega⟩, if_pos hk] at hK'
                  (try simp only [↓w_X8_order_0, ↓w_X8_order_18, ↓w_X8_order_47, ↓w_X8_order_104, ↓w_X8_order_110, ↓v_X8_order_18, ↓v_X8_order_47, ↓v_X8_order_88, ↓v_X8_order_98, ↓v_X8_order_104, ↓v_X8_order_110, ↓b_aload_n, ↓b_callV1_1, ↓b_callV2_0, ↓b_callV2_1, ↓b_callV3_0, ↓b_getA, ↓b_getI, ↓b_goto, ↓b_iand, ↓b_ic_ge, ↓b_ic_ne, ↓b_iconst, ↓b_if_eq, ↓b_if_ne, ↓n_iinc, ↓b_iload, ↓b_iload_n, ↓b_ior, ↓b_iret, ↓b_ishl, ↓b_ishr, ↓n_istore, ↓n_istore_n, ↓b_sipush, ↓ldI_hit, ↓ldI_skip, ↓ldL_hit, ↓ldL_skip, ↓ldA_hit, ↓ldA_skip, ↓ldelK_nil, ↓ldelK_hit, ↓ldelK_skipI, ↓ldelK_skipA, ↓ldelK_skipL, qP2_X0_allWorks, qP2_X4_pass, qP2_X4_startAsTold, qP2_X4_wentLately, ↓bI_b, bI_0, nnot, lget_hit, lget_skip, ldel_nil, ldel_hit, ldel_skipI, ldel_skipA, ldel_skipL, ldel2_nil, ldel2_hit, ldel2_hit2, ldel2_skipI, ldel2_skipA, ldel2_skipL, vc_0, mCat_nil, mCat_I, mCat_L, mCat_A, mRcv_A, mArg_nil, mArg_I, mArg_L, mArg_A, tsg, swt_nil, swt_cons, lkw_nil, lkw_cons, ↓reduceIte, Nat.reduceAdd, Nat.reduceEqDiff, Nat.reduceLeDiff, Nat.reduceMul, true_and, and_true, and_self, List.mem_cons, List.not_mem_nil, or_false, or_self, false_or, true_implies, false_implies, not_true_eq_false, not_false_eq_true, nI00, nI10, nI01, nI11, forall_const, implies_true])
                  (try simp (disch := omega) only [ixq, ixz, sb_in, sb_in0, upI_sb, upI_sb0, sb_out, nI_add, nI_mul, nI_subq, Nat.zero_add, forall_eq, u2_at, u2_row, upd_at, upd_ne, nI0b, nI1b, nI00, nI10, nI01, nI11, true_implies, false_implies, not_true_eq_false, not_false_eq_true, and_true, true_and, implies_true, z1, hk'])
                  exact hK'
                · have hk' := eq_false hk
                  have i2 := ihw (w + 1) (c + 1) _ μ1 f1 (by omega) (by omega) (ss.1 e1 e0) (fun μ2 f2 => by
                    have hK' := hK μ2 f2
                    unfold odW at hK'
                    rw [if_pos ⟨e1, by omega⟩, if_neg hk] at hK'
                    exact hK')
                  clear ihw
                  (try simp only [↓w_X8_order_0, ↓w_X8_order_18, ↓w_X8_order_47, ↓w_X8_order_104, ↓w_X8_order_110, ↓v_X8_order_18, ↓v_X8_order_47, ↓v_X8_order_88, ↓v_X8_order_98, ↓v_X8_order_104, ↓v_X8_order_110, ↓b_aload_n, ↓b_callV1_1, ↓b_callV2_0, ↓b_callV2_1, ↓b_callV3_0, ↓b_getA, ↓b_getI, ↓b_goto, ↓b_iand, ↓b_ic_ge, ↓b_ic_ne, ↓b_iconst, ↓b_if_eq, ↓b_if_ne, ↓n_iinc, ↓b_iload, ↓b_iload_n, ↓b_ior, ↓b_iret, ↓b_ishl, ↓b_ishr, ↓n_istore, ↓n_istore_n, ↓b_sipush, ↓ldI_hit, ↓ldI_skip, ↓ldL_hit, ↓ldL_skip, ↓ldA_hit, ↓ldA_skip, ↓ldelK_nil, ↓ldelK_hit, ↓ldelK_skipI, ↓ldelK_skipA, ↓ldelK_skipL, qP2_X0_allWorks, qP2_X4_pass, qP2_X4_startAsTold, qP2_X4_wentLately, ↓bI_b, bI_0, nnot, lget_hit, lget_skip, ldel_nil, ldel_hit, ldel_skipI, ldel_skipA, ldel_skipL, ldel2_nil, ldel2_hit, ldel2_hit2, ldel2_skipI, ldel2_skipA, ldel2_skipL, vc_0, mCat_nil, mCat_I, mCat_L, mCat_A, mRcv_A, mArg_nil, mArg_I, mArg_L, mArg_A, tsg, swt_nil, swt_cons, lkw_nil, lkw_cons, ↓reduceIte, Nat.reduceAdd, Nat.reduceEqDiff, Nat.reduceLeDiff, Nat.reduceMul, true_and, and_true, and_self, List.mem_cons, List.not_mem_nil, or_false, or_self, false_or, true_implies, false_implies, not_true_eq_false, not_false_eq_true, nI00, nI10, nI01, nI11, forall_const, implies_true])
                  (try simp (disch := omega) only [ixq, ixz, sb_in, sb_in0, upI_sb, upI_sb0, sb_out, nI_add, nI_mul, nI_subq, Nat.zero_add, forall_eq, u2_at, u2_row, upd_at, upd_ne, nI0b, nI1b, nI00, nI10, nI01, nI11, true_implies, false_implies, not_true_eq_false, not_false_eq_true, and_true, true_and, implies_true, z1, hk'])
                  (refine vc_from P2_ok ok_X8_order [18,47,88,98] 8 ?_; rw [t_X8_order_88])
                  (try simp only [↓w_X8_order_0, ↓w_X8_order_18, ↓w_X8_order_47, ↓w_X8_order_88, ↓w_X8_order_98, ↓w_X8_order_104, ↓w_X8_order_110, ↓v_X8_order_18, ↓v_X8_order_47, ↓v_X8_order_88, ↓v_X8_order_98, ↓v_X8_order_104, ↓v_X8_order_110, ↓b_aload_n, ↓b_callV1_1, ↓b_callV2_0, ↓b_callV2_1, ↓b_callV3_0, ↓b_getA, ↓b_getI, ↓b_goto, ↓b_iand, ↓b_ic_ge, ↓b_ic_ne, ↓b_iconst, ↓b_if_eq, ↓b_if_ne, ↓n_iinc, ↓b_iload, ↓b_iload_n, ↓b_ior, ↓b_iret, ↓b_ishl, ↓b_ishr, ↓n_istore, ↓n_istore_n, ↓b_sipush, ↓ldI_hit, ↓ldI_skip, ↓ldL_hit, ↓ldL_skip, ↓ldA_hit, ↓ldA_skip, ↓ldelK_nil, ↓ldelK_hit, ↓ldelK_skipI, ↓ldelK_skipA, ↓ldelK_skipL, qP2_X0_allWorks, qP2_X4_pass, qP2_X4_startAsTold, qP2_X4_wentLately, ↓bI_b, bI_0, nnot, lget_hit, lget_skip, ldel_nil, ldel_hit, ldel_skipI, ldel_skipA, ldel_skipL, ldel2_nil, ldel2_hit, ldel2_hit2, ldel2_skipI, ldel2_skipA, ldel2_skipL, vc_0, mCat_nil, mCat_I, mCat_L, mCat_A, mRcv_A, mArg_nil, mArg_I, mArg_L, mArg_A, tsg, swt_nil, swt_cons, lkw_nil, lkw_cons, ↓reduceIte, Nat.reduceAdd, Nat.reduceEqDiff, Nat.reduceLeDiff, Nat.reduceMul, true_and, and_true, and_self, List.mem_cons, List.not_mem_nil, or_false, or_self, false_or, true_implies, false_implies, not_true_eq_false, not_false_eq_true, nI00, nI10, nI01, nI11, forall_const, implies_true])
                  (try simp (disch := omega) only [ixq, ixz, sb_in, sb_in0, upI_sb, upI_sb0, sb_out, nI_add, nI_mul, nI_subq, Nat.zero_add, forall_eq, u2_at, u2_row, upd_at, upd_ne, nI0b, nI1b, nI00, nI10, nI01, nI11, true_implies, false_implies, not_true_eq_false, not_false_eq_true, and_true, true_and, implies_true])
                  exact vc_back P2_ok ok_X8_order [18,47,88,98] 8 t_X8_order_47 (i2) (by simp) (rfl)
            · rw [wl_f wl]
              have i2 := ihw (w + 1) c s μ1 f1 (by omega) (by omega) (ss.2 (fun z => (en.mp z.1).elim z.2 (fun y => wl (ce.mpr y)))) (fun μ2 f2 => by
                have hK' := hK μ2 f2
                unfold odW at hK'
                rw [if_neg (fun z => (en.mp z.1).elim (fun y => by omega) (fun y => wl (ce.mpr y)))] at hK'
                exact hK')
              clear ihw
              (try simp only [↓w_X8_order_0, ↓w_X8_order_18, ↓w_X8_order_47, ↓w_X8_order_104, ↓w_X8_order_110, ↓v_X8_order_18, ↓v_X8_order_47, ↓v_X8_order_88, ↓v_X8_order_98, ↓v_X8_order_104, ↓v_X8_order_110, ↓b_aload_n, ↓b_callV1_1, ↓b_callV2_0, ↓b_callV2_1, ↓b_callV3_0, ↓b_getA, ↓b_getI, ↓b_goto, ↓b_iand, ↓b_ic_ge, ↓b_ic_ne, ↓b_iconst, ↓b_if_eq, ↓b_if_ne, ↓n_iinc, ↓b_iload, ↓b_iload_n, ↓b_ior, ↓b_iret, ↓b_ishl, ↓b_ishr, ↓n_istore, ↓n_istore_n, ↓b_sipush, ↓ldI_hit, ↓ldI_skip, ↓ldL_hit, ↓ldL_skip, ↓ldA_hit, ↓ldA_skip, ↓ldelK_nil, ↓ldelK_hit, ↓ldelK_skipI, ↓ldelK_skipA, ↓ldelK_skipL, qP2_X0_allWorks, qP2_X4_pass, qP2_X4_startAsTold, qP2_X4_wentLately, ↓bI_b, bI_0, nnot, lget_hit, lget_skip, ldel_nil, ldel_hit, ldel_skipI, ldel_skipA, ldel_skipL, ldel2_nil, ldel2_hit, ldel2_hit2, ldel2_skipI, ldel2_skipA, ldel2_skipL, vc_0, mCat_nil, mCat_I, mCat_L, mCat_A, mRcv_A, mArg_nil, mArg_I, mArg_L, mArg_A, tsg, swt_nil, swt_cons, lkw_nil, lkw_cons, ↓reduceIte, Nat.reduceAdd, Nat.reduceEqDiff, Nat.reduceLeDiff, Nat.reduceMul, true_and, and_true, and_self, List.mem_cons, List.not_mem_nil, or_false, or_self, false_or, true_implies, false_implies, not_true_eq_false, not_false_eq_true, nI00, nI10, nI01, nI11, forall_const, implies_true])
              (try simp (disch := omega) only [ixq, ixz, sb_in, sb_in0, upI_sb, upI_sb0, sb_out, nI_add, nI_mul, nI_subq, Nat.zero_add, forall_eq, u2_at, u2_row, upd_at, upd_ne, nI0b, nI1b, nI00, nI10, nI01, nI11, true_implies, false_implies, not_true_eq_false, not_false_eq_true, and_true, true_and, implies_true])
              (refine vc_from P2_ok ok_X8_order [18,47,88,98] 8 ?_; rw [t_X8_order_98])
              (try simp only [↓w_X8_order_0, ↓w_X8_order_18, ↓w_X8_order_47, ↓w_X8_order_88, ↓w_X8_order_98, ↓w_X8_order_104, ↓w_X8_order_110, ↓v_X8_order_18, ↓v_X8_order_47, ↓v_X8_order_88, ↓v_X8_order_98, ↓v_X8_order_104, ↓v_X8_order_110, ↓b_aload_n, ↓b_callV1_1, ↓b_callV2_0, ↓b_callV2_1, ↓b_callV3_0, ↓b_getA, ↓b_getI, ↓b_goto, ↓b_iand, ↓b_ic_ge, ↓b_ic_ne, ↓b_iconst, ↓b_if_eq, ↓b_if_ne, ↓n_iinc, ↓b_iload, ↓b_iload_n, ↓b_ior, ↓b_iret, ↓b_ishl, ↓b_ishr, ↓n_istore, ↓n_istore_n, ↓b_sipush, ↓ldI_hit, ↓ldI_skip, ↓ldL_hit, ↓ldL_skip, ↓ldA_hit, ↓ldA_skip, ↓ldelK_nil, ↓ldelK_hit, ↓ldelK_skipI, ↓ldelK_skipA, ↓ldelK_skipL, qP2_X0_allWorks, qP2_X4_pass, qP2_X4_startAsTold, qP2_X4_wentLately, ↓bI_b, bI_0, nnot, lget_hit, lget_skip, ldel_nil, ldel_hit, ldel_skipI, ldel_skipA, ldel_skipL, ldel2_nil, ldel2_hit, ldel2_hit2, ldel2_skipI, ldel2_skipA, ldel2_skipL, vc_0, mCat_nil, mCat_I, mCat_L, mCat_A, mRcv_A, mArg_nil, mArg_I, mArg_L, mArg_A, tsg, swt_nil, swt_cons, lkw_nil, lkw_cons, ↓reduceIte, Nat.reduceAdd, Nat.reduceEqDiff, Nat.reduceLeDiff, Nat.reduceMul, true_and, and_true, and_self, List.mem_cons, List.not_mem_nil, or_false, or_self, false_or, true_implies, false_implies, not_true_eq_false, not_false_eq_true, nI00, nI10, nI01, nI11, forall_const, implies_true])
              (try simp (disch := omega) only [ixq, ixz, sb_in, sb_in0, upI_sb, upI_sb0, sb_out, nI_add, nI_mul, nI_subq, Nat.zero_add, forall_eq, u2_at, u2_row, upd_at, upd_ne, nI0b, nI1b, nI00, nI10, nI01, nI11, true_implies, false_implies, not_true_eq_false, not_false_eq_true, and_true, true_and, implies_true])
              exact vc_back P2_ok ok_X8_order [18,47,88,98] 8 t_X8_order_47 (i2) (by simp) (rfl)
        (try simp only [↓w_X8_order_0, ↓w_X8_order_18, ↓w_X8_order_88, ↓w_X8_order_98, ↓w_X8_order_104, ↓w_X8_order_110, ↓v_X8_order_18, ↓v_X8_order_47, ↓v_X8_order_88, ↓v_X8_order_98, ↓v_X8_order_104, ↓v_X8_order_110, ↓b_aload_n, ↓b_callV1_1, ↓b_callV2_0, ↓b_callV2_1, ↓b_callV3_0, ↓b_getA, ↓b_getI, ↓b_goto, ↓b_iand, ↓b_ic_ge, ↓b_ic_ne, ↓b_iconst, ↓b_if_eq, ↓b_if_ne, ↓n_iinc, ↓b_iload, ↓b_iload_n, ↓b_ior, ↓b_iret, ↓b_ishl, ↓b_ishr, ↓n_istore, ↓n_istore_n, ↓b_sipush, ↓ldI_hit, ↓ldI_skip, ↓ldL_hit, ↓ldL_skip, ↓ldA_hit, ↓ldA_skip, ↓ldelK_nil, ↓ldelK_hit, ↓ldelK_skipI, ↓ldelK_skipA, ↓ldelK_skipL, qP2_X0_allWorks, qP2_X4_pass, qP2_X4_startAsTold, qP2_X4_wentLately, ↓bI_b, bI_0, nnot, lget_hit, lget_skip, ldel_nil, ldel_hit, ldel_skipI, ldel_skipA, ldel_skipL, ldel2_nil, ldel2_hit, ldel2_hit2, ldel2_skipI, ldel2_skipA, ldel2_skipL, vc_0, mCat_nil, mCat_I, mCat_L, mCat_A, mRcv_A, mArg_nil, mArg_I, mArg_L, mArg_A, tsg, swt_nil, swt_cons, lkw_nil, lkw_cons, ↓reduceIte, Nat.reduceAdd, Nat.reduceEqDiff, Nat.reduceLeDiff, Nat.reduceMul, true_and, and_true, and_self, List.mem_cons, List.not_mem_nil, or_false, or_self, false_or, true_implies, false_implies, not_true_eq_false, not_false_eq_true, nI00, nI10, nI01, nI11, forall_const, implies_true])
        (try simp (disch := omega) only [ixq, ixz, sb_in, sb_in0, upI_sb, upI_sb0, sb_out, nI_add, nI_mul, nI_subq, Nat.zero_add, forall_eq, u2_at, u2_row, upd_at, upd_ne, nI0b, nI1b, nI00, nI10, nI01, nI11, true_implies, false_implies, not_true_eq_false, not_false_eq_true, and_true, true_and, implies_true, nI_lq, b1'])
        refine ⟨fun z => by omega, fun _ => ?_⟩
        rw [hal]
        refine d_pass (r := 62) (by omega) rb f1 (fun μ2 f2 _ => ?_)
        rw [← runC_s (fr := fun _ => all)] at f2
        have i2 := inner W 0 c s μ2 f2 (by omega) (by omega) hs hK
        clear inner ih
        (try simp only [↓w_X8_order_0, ↓w_X8_order_18, ↓w_X8_order_88, ↓w_X8_order_98, ↓w_X8_order_104, ↓w_X8_order_110, ↓v_X8_order_18, ↓v_X8_order_47, ↓v_X8_order_88, ↓v_X8_order_98, ↓v_X8_order_104, ↓v_X8_order_110, ↓b_aload_n, ↓b_callV1_1, ↓b_callV2_0, ↓b_callV2_1, ↓b_callV3_0, ↓b_getA, ↓b_getI, ↓b_goto, ↓b_iand, ↓b_ic_ge, ↓b_ic_ne, ↓b_iconst, ↓b_if_eq, ↓b_if_ne, ↓n_iinc, ↓b_iload, ↓b_iload_n, ↓b_ior, ↓b_iret, ↓b_ishl, ↓b_ishr, ↓n_istore, ↓n_istore_n, ↓b_sipush, ↓ldI_hit, ↓ldI_skip, ↓ldL_hit, ↓ldL_skip, ↓ldA_hit, ↓ldA_skip, ↓ldelK_nil, ↓ldelK_hit, ↓ldelK_skipI, ↓ldelK_skipA, ↓ldelK_skipL, qP2_X0_allWorks, qP2_X4_pass, qP2_X4_startAsTold, qP2_X4_wentLately, ↓bI_b, bI_0, nnot, lget_hit, lget_skip, ldel_nil, ldel_hit, ldel_skipI, ldel_skipA, ldel_skipL, ldel2_nil, ldel2_hit, ldel2_hit2, ldel2_skipI, ldel2_skipA, ldel2_skipL, vc_0, mCat_nil, mCat_I, mCat_L, mCat_A, mRcv_A, mArg_nil, mArg_I, mArg_L, mArg_A, tsg, swt_nil, swt_cons, lkw_nil, lkw_cons, ↓reduceIte, Nat.reduceAdd, Nat.reduceEqDiff, Nat.reduceLeDiff, Nat.reduceMul, true_and, and_true, and_self, List.mem_cons, List.not_mem_nil, or_false, or_self, false_or, true_implies, false_implies, not_true_eq_false, not_false_eq_true, nI00, nI10, nI01, nI11, forall_const, implies_true])
        (try simp (disch := omega) only [ixq, ixz, sb_in, sb_in0, upI_sb, upI_sb0, sb_out, nI_add, nI_mul, nI_subq, Nat.zero_add, forall_eq, u2_at, u2_row, upd_at, upd_ne, nI0b, nI1b, nI00, nI10, nI01, nI11, true_implies, false_implies, not_true_eq_false, not_false_eq_true, and_true, true_and, implies_true])
        exact i2
    (try simp only [↓w_X8_order_0, ↓w_X8_order_88, ↓w_X8_order_98, ↓w_X8_order_104, ↓w_X8_order_110, ↓v_X8_order_18, ↓v_X8_order_47, ↓v_X8_order_88, ↓v_X8_order_98, ↓v_X8_order_104, ↓v_X8_order_110, ↓b_aload_n, ↓b_callV1_1, ↓b_callV2_0, ↓b_callV2_1, ↓b_callV3_0, ↓b_getA, ↓b_getI, ↓b_goto, ↓b_iand, ↓b_ic_ge, ↓b_ic_ne, ↓b_iconst, ↓b_if_eq, ↓b_if_ne, ↓n_iinc, ↓b_iload, ↓b_iload_n, ↓b_ior, ↓b_iret, ↓b_ishl, ↓b_ishr, ↓n_istore, ↓n_istore_n, ↓b_sipush, ↓ldI_hit, ↓ldI_skip, ↓ldL_hit, ↓ldL_skip, ↓ldA_hit, ↓ldA_skip, ↓ldelK_nil, ↓ldelK_hit, ↓ldelK_skipI, ↓ldelK_skipA, ↓ldelK_skipL, qP2_X0_allWorks, qP2_X4_pass, qP2_X4_startAsTold, qP2_X4_wentLately, ↓bI_b, bI_0, nnot, lget_hit, lget_skip, ldel_nil, ldel_hit, ldel_skipI, ldel_skipA, ldel_skipL, ldel2_nil, ldel2_hit, ldel2_hit2, ldel2_skipI, ldel2_skipA, ldel2_skipL, vc_0, mCat_nil, mCat_I, mCat_L, mCat_A, mRcv_A, mArg_nil, mArg_I, mArg_L, mArg_A, tsg, swt_nil, swt_cons, lkw_nil, lkw_cons, ↓reduceIte, Nat.reduceAdd, Nat.reduceEqDiff, Nat.reduceLeDiff, Nat.reduceMul, true_and, and_true, and_self, List.mem_cons, List.not_mem_nil, or_false, or_self, false_or, true_implies, false_implies, not_true_eq_false, not_false_eq_true, nI00, nI10, nI01, nI11, forall_const, implies_true])
    refine d_start (r := 62) (by omega) frZ_r (fun R0 μ2 f2 _ => ?_)
    rw [← runC_z (G := G) (W := W) (fr := fun _ => all)] at f2
    have i2 := main R0 200 0 0 (nI 0) μ2 f2 (by omega) (by omega) s0 hK
    clear main
    (try simp only [↓w_X8_order_0, ↓w_X8_order_88, ↓w_X8_order_98, ↓w_X8_order_104, ↓w_X8_order_110, ↓v_X8_order_18, ↓v_X8_order_47, ↓v_X8_order_88, ↓v_X8_order_98, ↓v_X8_order_104, ↓v_X8_order_110, ↓b_aload_n, ↓b_callV1_1, ↓b_callV2_0, ↓b_callV2_1, ↓b_callV3_0, ↓b_getA, ↓b_getI, ↓b_goto, ↓b_iand, ↓b_ic_ge, ↓b_ic_ne, ↓b_iconst, ↓b_if_eq, ↓b_if_ne, ↓n_iinc, ↓b_iload, ↓b_iload_n, ↓b_ior, ↓b_iret, ↓b_ishl, ↓b_ishr, ↓n_istore, ↓n_istore_n, ↓b_sipush, ↓ldI_hit, ↓ldI_skip, ↓ldL_hit, ↓ldL_skip, ↓ldA_hit, ↓ldA_skip, ↓ldelK_nil, ↓ldelK_hit, ↓ldelK_skipI, ↓ldelK_skipA, ↓ldelK_skipL, qP2_X0_allWorks, qP2_X4_pass, qP2_X4_startAsTold, qP2_X4_wentLately, ↓bI_b, bI_0, nnot, lget_hit, lget_skip, ldel_nil, ldel_hit, ldel_skipI, ldel_skipA, ldel_skipL, ldel2_nil, ldel2_hit, ldel2_hit2, ldel2_skipI, ldel2_skipA, ldel2_skipL, vc_0, mCat_nil, mCat_I, mCat_L, mCat_A, mRcv_A, mArg_nil, mArg_I, mArg_L, mArg_A, tsg, swt_nil, swt_cons, lkw_nil, lkw_cons, ↓reduceIte, Nat.reduceAdd, Nat.reduceEqDiff, Nat.reduceLeDiff, Nat.reduceMul, true_and, and_true, and_self, List.mem_cons, List.not_mem_nil, or_false, or_self, false_or, true_implies, false_implies, not_true_eq_false, not_false_eq_true, nI00, nI10, nI01, nI11, forall_const, implies_true])
    (try simp (disch := omega) only [ixq, ixz, sb_in, sb_in0, upI_sb, upI_sb0, sb_out, nI_add, nI_mul, nI_subq, Nat.zero_add, forall_eq, u2_at, u2_row, upd_at, upd_ne, nI0b, nI1b, nI00, nI10, nI01, nI11, true_implies, false_implies, not_true_eq_false, not_false_eq_true, and_true, true_and, implies_true])
    exact i2
  · (refine vc_met2 P2_ok ok_X9_order cm_X9_order [25,45,80,98] 8 t_X9_order_0 (Nat.le_of_ble_eq_true rfl) ?_; simp only [mArg_nil, mArg_I, mArg_L, mArg_A, Nat.reduceAdd])
    have main : ∀ i n c s Q', TI G W n (μ.1 (m + 2)) (bk μ (x + 4)) (u2 Q 0 0 (nI 0)) (runC G W (bk μ (x + 4)) (fun _ => all) (fun _ _ => nI 0) n) Q' → n + i = 200 → c ≤ 8 * n → seenS ev n 0 s → (∀ Q'', frK (u2 Q 0 0 (nI 0)) Q'' → K (.inl (odH ev k W i n c)) (sb μ1 m 21 Q'')) → bb X P2 m_X9_order (h + 8) K (vc X P2 m_X9_order (h + 8) K k_X9_order [25,45,80,98] 8) s_X9_order_25 [(4, .inl (nI n)), (3, .inl s), (2, .inl (nI c)), (0, .inr (.inr (8, 0, m))), (1, .inl k)] [] (sb μ1 m 21 Q') := by
      intro i
      induction i with
      | zero =>
        intro n c s Q' f1 hn hc hs hK
        (try simp only [↓w_X9_order_0, ↓w_X9_order_25, ↓w_X9_order_80, ↓w_X9_order_95, ↓w_X9_order_98, ↓w_X9_order_104, ↓w_X9_order_110, ↓v_X9_order_25, ↓v_X9_order_45, ↓v_X9_order_80, ↓v_X9_order_95, ↓v_X9_order_98, ↓v_X9_order_104, ↓v_X9_order_110, ↓b_aload_n, ↓b_callS2_1, ↓b_callV1_0, ↓b_callV1_1, ↓b_callV3_0, ↓b_getA, ↓b_goto, ↓b_iadd, ↓b_iaload, ↓b_ic_ge, ↓b_ic_ne, ↓b_iconst, ↓b_if_ne, ↓n_iinc, ↓b_iload, ↓b_iload_n, ↓b_ior, ↓b_iret, ↓b_ishl, ↓n_istore, ↓n_istore_n, ↓n_putI, ↓b_sipush, ↓ldI_hit, ↓ldI_skip, ↓ldL_hit, ↓ldL_skip, ↓ldA_hit, ↓ldA_skip, ↓ldelK_nil, ↓ldelK_hit, ↓ldelK_skipI, ↓ldelK_skipA, ↓ldelK_skipL, qP2_X9_has, qP2_X9_hour, qP2_X9_layRule, qP2_X9_start, qP2_X9_works, ↓bI_b, bI_0, nnot, lget_hit, lget_skip, ldel_nil, ldel_hit, ldel_skipI, ldel_skipA, ldel_skipL, ldel2_nil, ldel2_hit, ldel2_hit2, ldel2_skipI, ldel2_skipA, ldel2_skipL, vc_0, mCat_nil, mCat_I, mCat_L, mCat_A, mRcv_A, mArg_nil, mArg_I, mArg_L, mArg_A, tsg, swt_nil, swt_cons, lkw_nil, lkw_cons, ↓reduceIte, Nat.reduceAdd, Nat.reduceEqDiff, Nat.reduceLeDiff, Nat.reduceMul, true_and, and_true, and_self, List.mem_cons, List.not_mem_nil, or_false, or_self, false_or, true_implies, false_implies, not_true_eq_false, not_false_eq_true, nI00, nI10, nI01, nI11, forall_const, implies_true])
        (try simp (disch := omega) only [ixq, ixz, sb_in, sb_in0, upI_sb, upI_sb0, sb_out, nI_add, nI_mul, nI_subq, Nat.zero_add, forall_eq, u2_at, u2_row, upd_at, upd_ne, nI0b, nI1b, nI00, nI10, nI01, nI11, true_implies, false_implies, not_true_eq_false, not_false_eq_true, and_true, true_and, implies_true, nI_lq])
        exact ⟨fun _ => hK Q' f1.2.2.2.2.2, fun z => absurd (show 200 ≤ n by omega) z⟩
      | succ i ih =>
        intro n c s Q' f1 hn hc hs hK
        have inner : ∀ j w c s Q', TI G W (n + 1) (μ.1 (m + 2)) (bk μ (x + 4)) (u2 Q 0 0 (nI 0)) (runC G W (bk μ (x + 4)) (fun _ => all) (fun _ _ => nI 0) (n + 1)) Q' → w + j = W → c ≤ 8 * n + w → seenS ev n w s → (∀ Q'', frK (u2 Q 0 0 (nI 0)) Q'' → K (.inl (odW ev k n (fun c => odH ev k W i (n + 1) c) j w c)) (sb μ1 m 21 Q'')) → bb X P2 m_X9_order (h + 8) K (vc X P2 m_X9_order (h + 8) K k_X9_order [25,45,80,98] 8) s_X9_order_45 [(5, .inl (nI w)), (4, .inl (nI n)), (3, .inl s), (2, .inl (nI c)), (0, .inr (.inr (8, 0, m))), (1, .inl k)] [] (sb μ1 m 21 Q') := by
          intro j
          induction j with
          | zero =>
            intro w c s Q' f1 hw hc hs hK
            have q1'' : Q' 2 1 = nI W := by rw [f1.1]; exact rb.q1
            have ew : w = W := by omega
            subst ew
            have i2 := ih (n + 1) c s Q' f1 (by omega) (by omega) (seen_n hs evz) hK
            clear ih
            (try simp only [↓w_X9_order_0, ↓w_X9_order_25, ↓w_X9_order_45, ↓w_X9_order_95, ↓w_X9_order_98, ↓w_X9_order_104, ↓w_X9_order_110, ↓v_X9_order_25, ↓v_X9_order_45, ↓v_X9_order_80, ↓v_X9_order_95, ↓v_X9_order_98, ↓v_X9_order_104, ↓v_X9_order_110, ↓b_aload_n, ↓b_callS2_1, ↓b_callV1_0, ↓b_callV1_1, ↓b_callV3_0, ↓b_getA, ↓b_goto, ↓b_iadd, ↓b_iaload, ↓b_ic_ge, ↓b_ic_ne, ↓b_iconst, ↓b_if_ne, ↓n_iinc, ↓b_iload, ↓b_iload_n, ↓b_ior, ↓b_iret, ↓b_ishl, ↓n_istore, ↓n_istore_n, ↓n_putI, ↓b_sipush, ↓ldI_hit, ↓ldI_skip, ↓ldL_hit, ↓ldL_skip, ↓ldA_hit, ↓ldA_skip, ↓ldelK_nil, ↓ldelK_hit, ↓ldelK_skipI, ↓ldelK_skipA, ↓ldelK_skipL, qP2_X9_has, qP2_X9_hour, qP2_X9_layRule, qP2_X9_start, qP2_X9_works, ↓bI_b, bI_0, nnot, lget_hit, lget_skip, ldel_nil, ldel_hit, ldel_skipI, ldel_skipA, ldel_skipL, ldel2_nil, ldel2_hit, ldel2_hit2, ldel2_skipI, ldel2_skipA, ldel2_skipL, vc_0, mCat_nil, mCat_I, mCat_L, mCat_A, mRcv_A, mArg_nil, mArg_I, mArg_L, mArg_A, tsg, swt_nil, swt_cons, lkw_nil, lkw_cons, ↓reduceIte, Nat.reduceAdd, Nat.reduceEqDiff, Nat.reduceLeDiff, Nat.reduceMul, true_and, and_true, and_self, List.mem_cons, List.not_mem_nil, or_false, or_self, false_or, true_implies, false_implies, not_true_eq_false, not_false_eq_true, nI00, nI10, nI01, nI11, forall_const, implies_true])
            (try simp (disch := omega) only [ixq, ixz, sb_in, sb_in0, upI_sb, upI_sb0, sb_out, nI_add, nI_mul, nI_subq, Nat.zero_add, forall_eq, u2_at, u2_row, upd_at, upd_ne, nI0b, nI1b, nI00, nI10, nI01, nI11, true_implies, false_implies, not_true_eq_false, not_false_eq_true, and_true, true_and, implies_true, q1'', nI_lq])
            refine ⟨fun _ => ?_, fun z => absurd (Nat.le_refl w) z⟩
            exact vc_back P2_ok ok_X9_order [25,45,80,98] 8 t_X9_order_25 (i2) (by simp) (rfl)
          | succ j ihw =>
            intro w c s Q' f1 hw hc hs hK
            clear ih
            have q1'' : Q' 2 1 = nI W := by rw [f1.1]; exact rb.q1
            have en := evn n w (by omega) (by omega)
            have sw := hs w (by omega)
            rw [if_neg (Nat.lt_irrefl w)] at sw
            have ss := seen_s (by omega) hs (fun z => en.mpr (Or.inl z))
            have a01 := ev01 n w
            have b01 := ev01 (n + 1) w
            obtain ⟨_, kk, k1, k2, _⟩ := f1.2.2.2.2.1.2.2.2.2.2.2.2.2 w (by omega)
            have v8 : Q' 11 (212 + w) = nI kk := by
              have a := f1.2.2.2.2.1.1 8 w (by omega) (by rw [show szR 6 8 = 8 by decide]; omega)
              rw [k2] at a
              have b : vw 11 0 Q' 8 w = Q' 11 (0 + (212 + w)) := rfl
              rw [b, Nat.zero_add] at a
              exact a
            have e1k : ev (n + 1) w = 1 ↔ ¬ kk = 0 := by
              have lt : (0 : Int32) < nI kk ↔ 0 < kk := by rw [← nI_0, nI_ltq (by omega) (by omega)]
              rcases hev (n + 1) w with ⟨a, _, b⟩ | ⟨a, b⟩
              · rw [k2] at b
                exact ⟨fun _ => by have := lt.mp b; omega, fun _ => a⟩
              · rw [k2] at b
                exact ⟨fun z => by omega, fun z => absurd ⟨by omega, lt.mpr (by omega)⟩ b⟩
            have skip : ¬ (ev (n + 1) w = 1 ∧ ev n w = 0) → mAt X m_X9_order (h + 8) K 98 [(5, .inl (nI w)), (4, .inl (nI n)), (3, .inl s), (2, .inl (nI c)), (0, .inr (.inr (8, 0, m))), (1, .inl k)] [] (sb μ1 m 21 Q') := fun hz => by
              have i2 := ihw (w + 1) c s Q' f1 (by omega) (by omega) (ss.2 (fun z => hz ⟨z.1, by omega⟩)) (fun μ2 f2 => by
                have hK' := hK μ2 f2
                unfold odW at hK'
                rw [if_neg hz] at hK'
                exact hK')
              clear ihw
              (refine vc_from P2_ok ok_X9_order [25,45,80,98] 8 ?_; rw [t_X9_order_98])
              (try simp only [↓w_X9_order_0, ↓w_X9_order_25, ↓w_X9_order_45, ↓w_X9_order_80, ↓w_X9_order_95, ↓w_X9_order_98, ↓w_X9_order_104, ↓w_X9_order_110, ↓v_X9_order_25, ↓v_X9_order_45, ↓v_X9_order_80, ↓v_X9_order_95, ↓v_X9_order_98, ↓v_X9_order_104, ↓v_X9_order_110, ↓b_aload_n, ↓b_callS2_1, ↓b_callV1_0, ↓b_callV1_1, ↓b_callV3_0, ↓b_getA, ↓b_goto, ↓b_iadd, ↓b_iaload, ↓b_ic_ge, ↓b_ic_ne, ↓b_iconst, ↓b_if_ne, ↓n_iinc, ↓b_iload, ↓b_iload_n, ↓b_ior, ↓b_iret, ↓b_ishl, ↓n_istore, ↓n_istore_n, ↓n_putI, ↓b_sipush, ↓ldI_hit, ↓ldI_skip, ↓ldL_hit, ↓ldL_skip, ↓ldA_hit, ↓ldA_skip, ↓ldelK_nil, ↓ldelK_hit, ↓ldelK_skipI, ↓ldelK_skipA, ↓ldelK_skipL, qP2_X9_has, qP2_X9_hour, qP2_X9_layRule, qP2_X9_start, qP2_X9_works, ↓bI_b, bI_0, nnot, lget_hit, lget_skip, ldel_nil, ldel_hit, ldel_skipI, ldel_skipA, ldel_skipL, ldel2_nil, ldel2_hit, ldel2_hit2, ldel2_skipI, ldel2_skipA, ldel2_skipL, vc_0, mCat_nil, mCat_I, mCat_L, mCat_A, mRcv_A, mArg_nil, mArg_I, mArg_L, mArg_A, tsg, swt_nil, swt_cons, lkw_nil, lkw_cons, ↓reduceIte, Nat.reduceAdd, Nat.reduceEqDiff, Nat.reduceLeDiff, Nat.reduceMul, true_and, and_true, and_self, List.mem_cons, List.not_mem_nil, or_false, or_self, false_or, true_implies, false_implies, not_true_eq_false, not_false_eq_true, nI00, nI10, nI01, nI11, forall_const, implies_true])
              (try simp (disch := omega) only [ixq, ixz, sb_in, sb_in0, upI_sb, upI_sb0, sb_out, nI_add, nI_mul, nI_subq, Nat.zero_add, forall_eq, u2_at, u2_row, upd_at, upd_ne, nI0b, nI1b, nI00, nI10, nI01, nI11, true_implies, false_implies, not_true_eq_false, not_false_eq_true, and_true, true_and, implies_true])
              exact vc_back P2_ok ok_X9_order [25,45,80,98] 8 t_X9_order_45 (i2) (by simp) (rfl)
            by_cases e0 : ev n w = 1
            · have sb1 := eq_true (sw.mpr e0)
              (try simp only [↓w_X9_order_0, ↓w_X9_order_25, ↓w_X9_order_45, ↓w_X9_order_95, ↓w_X9_order_104, ↓w_X9_order_110, ↓v_X9_order_25, ↓v_X9_order_45, ↓v_X9_order_80, ↓v_X9_order_95, ↓v_X9_order_98, ↓v_X9_order_104, ↓v_X9_order_110, ↓b_aload_n, ↓b_callS2_1, ↓b_callV1_0, ↓b_callV1_1, ↓b_callV3_0, ↓b_getA, ↓b_goto, ↓b_iadd, ↓b_iaload, ↓b_ic_ge, ↓b_ic_ne, ↓b_iconst, ↓b_if_ne, ↓n_iinc, ↓b_iload, ↓b_iload_n, ↓b_ior, ↓b_iret, ↓b_ishl, ↓n_istore, ↓n_istore_n, ↓n_putI, ↓b_sipush, ↓ldI_hit, ↓ldI_skip, ↓ldL_hit, ↓ldL_skip, ↓ldA_hit, ↓ldA_skip, ↓ldelK_nil, ↓ldelK_hit, ↓ldelK_skipI, ↓ldelK_skipA, ↓ldelK_skipL, qP2_X9_has, qP2_X9_hour, qP2_X9_layRule, qP2_X9_start, qP2_X9_works, ↓bI_b, bI_0, nnot, lget_hit, lget_skip, ldel_nil, ldel_hit, ldel_skipI, ldel_skipA, ldel_skipL, ldel2_nil, ldel2_hit, ldel2_hit2, ldel2_skipI, ldel2_skipA, ldel2_skipL, vc_0, mCat_nil, mCat_I, mCat_L, mCat_A, mRcv_A, mArg_nil, mArg_I, mArg_L, mArg_A, tsg, swt_nil, swt_cons, lkw_nil, lkw_cons, ↓reduceIte, Nat.reduceAdd, Nat.reduceEqDiff, Nat.reduceLeDiff, Nat.reduceMul, true_and, and_true, and_self, List.mem_cons, List.not_mem_nil, or_false, or_self, false_or, true_implies, false_implies, not_true_eq_false, not_false_eq_true, nI00, nI10, nI01, nI11, forall_const, implies_true, sb1])
              (try simp (disch := omega) only [ixq, ixz, sb_in, sb_in0, upI_sb, upI_sb0, sb_out, nI_add, nI_mul, nI_subq, Nat.zero_add, forall_eq, u2_at, u2_row, upd_at, upd_ne, nI0b, nI1b, nI00, nI10, nI01, nI11, true_implies, false_implies, not_true_eq_false, not_false_eq_true, and_true, true_and, implies_true, q1'', nI_lq])
              refine ⟨fun z => by omega, fun _ => ?_⟩
              exact skip (fun z => by omega)
            · have sb1 := eq_false (fun z => e0 (sw.mp z))
              by_cases ek : kk = 0
              · have kz : (nI kk = 0) = True := by rw [nI_ez (by omega)]; exact eq_true ek
                (try simp only [↓w_X9_order_0, ↓w_X9_order_25, ↓w_X9_order_45, ↓w_X9_order_95, ↓w_X9_order_104, ↓w_X9_order_110, ↓v_X9_order_25, ↓v_X9_order_45, ↓v_X9_order_80, ↓v_X9_order_95, ↓v_X9_order_98, ↓v_X9_order_104, ↓v_X9_order_110, ↓b_aload_n, ↓b_callS2_1, ↓b_callV1_0, ↓b_callV1_1, ↓b_callV3_0, ↓b_getA, ↓b_goto, ↓b_iadd, ↓b_iaload, ↓b_ic_ge, ↓b_ic_ne, ↓b_iconst, ↓b_if_ne, ↓n_iinc, ↓b_iload, ↓b_iload_n, ↓b_ior, ↓b_iret, ↓b_ishl, ↓n_istore, ↓n_istore_n, ↓n_putI, ↓b_sipush, ↓ldI_hit, ↓ldI_skip, ↓ldL_hit, ↓ldL_skip, ↓ldA_hit, ↓ldA_skip, ↓ldelK_nil, ↓ldelK_hit, ↓ldelK_skipI, ↓ldelK_skipA, ↓ldelK_skipL, qP2_X9_has, qP2_X9_hour, qP2_X9_layRule, qP2_X9_start, qP2_X9_works, ↓bI_b, bI_0, nnot, lget_hit, lget_skip, ldel_nil, ldel_hit, ldel_skipI, ldel_skipA, ldel_skipL, ldel2_nil, ldel2_hit, ldel2_hit2, ldel2_skipI, ldel2_skipA, ldel2_skipL, vc_0, mCat_nil, mCat_I, mCat_L, mCat_A, mRcv_A, mArg_nil, mArg_I, mArg_L, mArg_A, tsg, swt_nil, swt_cons, lkw_nil, lkw_cons, ↓reduceIte, Nat.reduceAdd, Nat.reduceEqDiff, Nat.reduceLeDiff, Nat.reduceMul, true_and, and_true, and_self, List.mem_cons, List.not_mem_nil, or_false, or_self, false_or, true_implies, false_implies, not_true_eq_false, not_false_eq_true, nI00, nI10, nI01, nI11, forall_const, implies_true, sb1])
                (try simp (disch := omega) only [ixq, ixz, sb_in, sb_in0, upI_sb, upI_sb0, sb_out, nI_add, nI_mul, nI_subq, Nat.zero_add, forall_eq, u2_at, u2_row, upd_at, upd_ne, nI0b, nI1b, nI00, nI10, nI01, nI11, true_implies, false_implies, not_true_eq_false, not_false_eq_true, and_true, true_and, implies_true, q1'', nI_lq, v8, kz])
                refine ⟨fun z => by omega, fun _ => ?_⟩
                exact skip (fun z => absurd (e1k.mp z.1) (fun y => y ek))
              · have kz : (nI kk = 0) = False := by rw [nI_ez (by omega)]; exact eq_false ek
                have e1 := e1k.mpr ek
                by_cases hk : nI c = k
                · have hk' := eq_true hk
                  have hK' := hK Q' f1.2.2.2.2.2
                  unfold odW at hK'
                  rw [if_pos ⟨e1, by omega⟩, if_pos hk] at hK'
                  (try simp only [↓w_X9_order_0, ↓w_X9_order_25, ↓w_X9_order_45, ↓w_X9_order_95, ↓w_X9_order_104, ↓w_X9_order_110, ↓v_X9_order_25, ↓v_X9_order_45, ↓v_X9_order_80, ↓v_X9_order_95, ↓v_X9_order_98, ↓v_X9_order_104, ↓v_X9_order_110, ↓b_aload_n, ↓b_callS2_1, ↓b_callV1_0, ↓b_callV1_1, ↓b_callV3_0, ↓b_getA, ↓b_goto, ↓b_iadd, ↓b_iaload, ↓b_ic_ge, ↓b_ic_ne, ↓b_iconst, ↓b_if_ne, ↓n_iinc, ↓b_iload, ↓b_iload_n, ↓b_ior, ↓b_iret, ↓b_ishl, ↓n_istore, ↓n_istore_n, ↓n_putI, ↓b_sipush, ↓ldI_hit, ↓ldI_skip, ↓ldL_hit, ↓ldL_skip, ↓ldA_hit, ↓ldA_skip, ↓ldelK_nil, ↓ldelK_hit, ↓ldelK_skipI, ↓ldelK_skipA, ↓ldelK_skipL, qP2_X9_has, qP2_X9_hour, qP2_X9_layRule, qP2_X9_start, qP2_X9_works, ↓bI_b, bI_0, nnot, lget_hit, lget_skip, ldel_nil, ldel_hit, ldel_skipI, ldel_skipA, ldel_skipL, ldel2_nil, ldel2_hit, ldel2_hit2, ldel2_skipI, ldel2_skipA, ldel2_skipL, vc_0, mCat_nil, mCat_I, mCat_L, mCat_A, mRcv_A, mArg_nil, mArg_I, mArg_L, mArg_A, tsg, swt_nil, swt_cons, lkw_nil, lkw_cons, ↓reduceIte, Nat.reduceAdd, Nat.reduceEqDiff, Nat.reduceLeDiff, Nat.reduceMul, true_and, and_true, and_self, List.mem_cons, List.not_mem_nil, or_false, or_self, false_or, true_implies, false_implies, not_true_eq_false, not_false_eq_true, nI00, nI10, nI01, nI11, forall_const, implies_true, sb1])
                  (try simp (disch := omega) only [ixq, ixz, sb_in, sb_in0, upI_sb, upI_sb0, sb_out, nI_add, nI_mul, nI_subq, Nat.zero_add, forall_eq, u2_at, u2_row, upd_at, upd_ne, nI0b, nI1b, nI00, nI10, nI01, nI11, true_implies, false_implies, not_true_eq_false, not_false_eq_true, and_true, true_and, implies_true, q1'', nI_lq, v8, kz])
                  refine ⟨fun z => by omega, fun _ => ?_⟩
                  (refine vc_from P2_ok ok_X9_order [25,45,80,98] 8 ?_; rw [t_X9_order_80])
                  (try simp only [↓w_X9_order_0, ↓w_X9_order_25, ↓w_X9_order_45, ↓w_X9_order_80, ↓w_X9_order_95, ↓w_X9_order_104, ↓w_X9_order_110, ↓v_X9_order_25, ↓v_X9_order_45, ↓v_X9_order_80, ↓v_X9_order_95, ↓v_X9_order_98, ↓v_X9_order_104, ↓v_X9_order_110, ↓b_aload_n, ↓b_callS2_1, ↓b_callV1_0, ↓b_callV1_1, ↓b_callV3_0, ↓b_getA, ↓b_goto, ↓b_iadd, ↓b_iaload, ↓b_ic_ge, ↓b_ic_ne, ↓b_iconst, ↓b_if_ne, ↓n_iinc, ↓b_iload, ↓b_iload_n, ↓b_ior, ↓b_iret, ↓b_ishl, ↓n_istore, ↓n_istore_n, ↓n_putI, ↓b_sipush, ↓ldI_hit, ↓ldI_skip, ↓ldL_hit, ↓ldL_skip, ↓ldA_hit, ↓ldA_skip, ↓ldelK_nil, ↓ldelK_hit, ↓ldelK_skipI, ↓ldelK_skipA, ↓ldelK_skipL, qP2_X9_has, qP2_X9_hour, qP2_X9_layRule, qP2_X9_start, qP2_X9_works, ↓bI_b, bI_0, nnot, lget_hit, lget_skip, ldel_nil, ldel_hit, ldel_skipI, ldel_skipA, ldel_skipL, ldel2_nil, ldel2_hit, ldel2_hit2, ldel2_skipI, ldel2_skipA, ldel2_skipL, vc_0, mCat_nil, mCat_I, mCat_L, mCat_A, mRcv_A, mArg_nil, mArg_I, mArg_L, mArg_A, tsg, swt_nil, swt_cons, lkw_nil, lkw_cons, ↓reduceIte, Nat.reduceAdd, Nat.reduceEqDiff, Nat.reduceLeDiff, Nat.reduceMul, true_and, and_true, and_self, List.mem_cons, List.not_mem_nil, or_false, or_self, false_or, true_implies, false_implies, not_true_eq_false, not_false_eq_true, nI00, nI10, nI01, nI11, forall_const, implies_true, hk'])
                  (try simp (disch := omega) only [ixq, ixz, sb_in, sb_in0, upI_sb, upI_sb0, sb_out, nI_add, nI_mul, nI_subq, Nat.zero_add, forall_eq, u2_at, u2_row, upd_at, upd_ne, nI0b, nI1b, nI00, nI10, nI01, nI11, true_implies, false_implies, not_true_eq_false, not_false_eq_true, and_true, true_and, implies_true, hk'])
                  exact hK'
                · have hk' := eq_false hk
                  have i2 := ihw (w + 1) (c + 1) _ Q' f1 (by omega) (by omega) (ss.1 e1 e0) (fun μ2 f2 => by
                    have hK' := hK μ2 f2
                    unfold odW at hK'
                    rw [if_pos ⟨e1, by omega⟩, if_neg hk] at hK'
                    exact hK')
                  clear ihw skip
                  (try simp only [↓w_X9_order_0, ↓w_X9_order_25, ↓w_X9_order_45, ↓w_X9_order_95, ↓w_X9_order_104, ↓w_X9_order_110, ↓v_X9_order_25, ↓v_X9_order_45, ↓v_X9_order_80, ↓v_X9_order_95, ↓v_X9_order_98, ↓v_X9_order_104, ↓v_X9_order_110, ↓b_aload_n, ↓b_callS2_1, ↓b_callV1_0, ↓b_callV1_1, ↓b_callV3_0, ↓b_getA, ↓b_goto, ↓b_iadd, ↓b_iaload, ↓b_ic_ge, ↓b_ic_ne, ↓b_iconst, ↓b_if_ne, ↓n_iinc, ↓b_iload, ↓b_iload_n, ↓b_ior, ↓b_iret, ↓b_ishl, ↓n_istore, ↓n_istore_n, ↓n_putI, ↓b_sipush, ↓ldI_hit, ↓ldI_skip, ↓ldL_hit, ↓ldL_skip, ↓ldA_hit, ↓ldA_skip, ↓ldelK_nil, ↓ldelK_hit, ↓ldelK_skipI, ↓ldelK_skipA, ↓ldelK_skipL, qP2_X9_has, qP2_X9_hour, qP2_X9_layRule, qP2_X9_start, qP2_X9_works, ↓bI_b, bI_0, nnot, lget_hit, lget_skip, ldel_nil, ldel_hit, ldel_skipI, ldel_skipA, ldel_skipL, ldel2_nil, ldel2_hit, ldel2_hit2, ldel2_skipI, ldel2_skipA, ldel2_skipL, vc_0, mCat_nil, mCat_I, mCat_L, mCat_A, mRcv_A, mArg_nil, mArg_I, mArg_L, mArg_A, tsg, swt_nil, swt_cons, lkw_nil, lkw_cons, ↓reduceIte, Nat.reduceAdd, Nat.reduceEqDiff, Nat.reduceLeDiff, Nat.reduceMul, true_and, and_true, and_self, List.mem_cons, List.not_mem_nil, or_false, or_self, false_or, true_implies, false_implies, not_true_eq_false, not_false_eq_true, nI00, nI10, nI01, nI11, forall_const, implies_true, sb1])
                  (try simp (disch := omega) only [ixq, ixz, sb_in, sb_in0, upI_sb, upI_sb0, sb_out, nI_add, nI_mul, nI_subq, Nat.zero_add, forall_eq, u2_at, u2_row, upd_at, upd_ne, nI0b, nI1b, nI00, nI10, nI01, nI11, true_implies, false_implies, not_true_eq_false, not_false_eq_true, and_true, true_and, implies_true, q1'', nI_lq, v8, kz])
                  refine ⟨fun z => by omega, fun _ => ?_⟩
                  (refine vc_from P2_ok ok_X9_order [25,45,80,98] 8 ?_; rw [t_X9_order_80])
                  (try simp only [↓w_X9_order_0, ↓w_X9_order_25, ↓w_X9_order_45, ↓w_X9_order_80, ↓w_X9_order_95, ↓w_X9_order_98, ↓w_X9_order_104, ↓w_X9_order_110, ↓v_X9_order_25, ↓v_X9_order_45, ↓v_X9_order_80, ↓v_X9_order_95, ↓v_X9_order_98, ↓v_X9_order_104, ↓v_X9_order_110, ↓b_aload_n, ↓b_callS2_1, ↓b_callV1_0, ↓b_callV1_1, ↓b_callV3_0, ↓b_getA, ↓b_goto, ↓b_iadd, ↓b_iaload, ↓b_ic_ge, ↓b_ic_ne, ↓b_iconst, ↓b_if_ne, ↓n_iinc, ↓b_iload, ↓b_iload_n, ↓b_ior, ↓b_iret, ↓b_ishl, ↓n_istore, ↓n_istore_n, ↓n_putI, ↓b_sipush, ↓ldI_hit, ↓ldI_skip, ↓ldL_hit, ↓ldL_skip, ↓ldA_hit, ↓ldA_skip, ↓ldelK_nil, ↓ldelK_hit, ↓ldelK_skipI, ↓ldelK_skipA, ↓ldelK_skipL, qP2_X9_has, qP2_X9_hour, qP2_X9_layRule, qP2_X9_start, qP2_X9_works, ↓bI_b, bI_0, nnot, lget_hit, lget_skip, ldel_nil, ldel_hit, ldel_skipI, ldel_skipA, ldel_skipL, ldel2_nil, ldel2_hit, ldel2_hit2, ldel2_skipI, ldel2_skipA, ldel2_skipL, vc_0, mCat_nil, mCat_I, mCat_L, mCat_A, mRcv_A, mArg_nil, mArg_I, mArg_L, mArg_A, tsg, swt_nil, swt_cons, lkw_nil, lkw_cons, ↓reduceIte, Nat.reduceAdd, Nat.reduceEqDiff, Nat.reduceLeDiff, Nat.reduceMul, true_and, and_true, and_self, List.mem_cons, List.not_mem_nil, or_false, or_self, false_or, true_implies, false_implies, not_true_eq_false, not_false_eq_true, nI00, nI10, nI01, nI11, forall_const, implies_true, hk'])
                  (try simp (disch := omega) only [ixq, ixz, sb_in, sb_in0, upI_sb, upI_sb0, sb_out, nI_add, nI_mul, nI_subq, Nat.zero_add, forall_eq, u2_at, u2_row, upd_at, upd_ne, nI0b, nI1b, nI00, nI10, nI01, nI11, true_implies, false_implies, not_true_eq_false, not_false_eq_true, and_true, true_and, implies_true, hk'])
                  exact vc_back P2_ok ok_X9_order [25,45,80,98] 8 t_X9_order_45 (i2) (by simp) (rfl)
        (try simp only [↓w_X9_order_0, ↓w_X9_order_25, ↓w_X9_order_80, ↓w_X9_order_95, ↓w_X9_order_98, ↓w_X9_order_104, ↓w_X9_order_110, ↓v_X9_order_25, ↓v_X9_order_45, ↓v_X9_order_80, ↓v_X9_order_95, ↓v_X9_order_98, ↓v_X9_order_104, ↓v_X9_order_110, ↓b_aload_n, ↓b_callS2_1, ↓b_callV1_0, ↓b_callV1_1, ↓b_callV3_0, ↓b_getA, ↓b_goto, ↓b_iadd, ↓b_iaload, ↓b_ic_ge, ↓b_ic_ne, ↓b_iconst, ↓b_if_ne, ↓n_iinc, ↓b_iload, ↓b_iload_n, ↓b_ior, ↓b_iret, ↓b_ishl, ↓n_istore, ↓n_istore_n, ↓n_putI, ↓b_sipush, ↓ldI_hit, ↓ldI_skip, ↓ldL_hit, ↓ldL_skip, ↓ldA_hit, ↓ldA_skip, ↓ldelK_nil, ↓ldelK_hit, ↓ldelK_skipI, ↓ldelK_skipA, ↓ldelK_skipL, qP2_X9_has, qP2_X9_hour, qP2_X9_layRule, qP2_X9_start, qP2_X9_works, ↓bI_b, bI_0, nnot, lget_hit, lget_skip, ldel_nil, ldel_hit, ldel_skipI, ldel_skipA, ldel_skipL, ldel2_nil, ldel2_hit, ldel2_hit2, ldel2_skipI, ldel2_skipA, ldel2_skipL, vc_0, mCat_nil, mCat_I, mCat_L, mCat_A, mRcv_A, mArg_nil, mArg_I, mArg_L, mArg_A, tsg, swt_nil, swt_cons, lkw_nil, lkw_cons, ↓reduceIte, Nat.reduceAdd, Nat.reduceEqDiff, Nat.reduceLeDiff, Nat.reduceMul, true_and, and_true, and_self, List.mem_cons, List.not_mem_nil, or_false, or_self, false_or, true_implies, false_implies, not_true_eq_false, not_false_eq_true, nI00, nI10, nI01, nI11, forall_const, implies_true])
        (try simp (disch := omega) only [ixq, ixz, sb_in, sb_in0, upI_sb, upI_sb0, sb_out, nI_add, nI_mul, nI_subq, Nat.zero_add, forall_eq, u2_at, u2_row, upd_at, upd_ne, nI0b, nI1b, nI00, nI10, nI01, nI11, true_implies, false_implies, not_true_eq_false, not_false_eq_true, and_true, true_and, implies_true, nI_lq])
        refine ⟨fun z => by omega, fun _ => ?_⟩
        refine d_hourT rb pl (by omega) f1 (fun Q2 f2 => ?_)
        rw [hal, ← runC_s (fr := fun _ => all)] at f2
        have i2 := inner W 0 c s Q2 f2 (by omega) (by omega) hs hK
        clear inner ih
        (try simp only [↓w_X9_order_0, ↓w_X9_order_25, ↓w_X9_order_80, ↓w_X9_order_95, ↓w_X9_order_98, ↓w_X9_order_104, ↓w_X9_order_110, ↓v_X9_order_25, ↓v_X9_order_45, ↓v_X9_order_80, ↓v_X9_order_95, ↓v_X9_order_98, ↓v_X9_order_104, ↓v_X9_order_110, ↓b_aload_n, ↓b_callS2_1, ↓b_callV1_0, ↓b_callV1_1, ↓b_callV3_0, ↓b_getA, ↓b_goto, ↓b_iadd, ↓b_iaload, ↓b_ic_ge, ↓b_ic_ne, ↓b_iconst, ↓b_if_ne, ↓n_iinc, ↓b_iload, ↓b_iload_n, ↓b_ior, ↓b_iret, ↓b_ishl, ↓n_istore, ↓n_istore_n, ↓n_putI, ↓b_sipush, ↓ldI_hit, ↓ldI_skip, ↓ldL_hit, ↓ldL_skip, ↓ldA_hit, ↓ldA_skip, ↓ldelK_nil, ↓ldelK_hit, ↓ldelK_skipI, ↓ldelK_skipA, ↓ldelK_skipL, qP2_X9_has, qP2_X9_hour, qP2_X9_layRule, qP2_X9_start, qP2_X9_works, ↓bI_b, bI_0, nnot, lget_hit, lget_skip, ldel_nil, ldel_hit, ldel_skipI, ldel_skipA, ldel_skipL, ldel2_nil, ldel2_hit, ldel2_hit2, ldel2_skipI, ldel2_skipA, ldel2_skipL, vc_0, mCat_nil, mCat_I, mCat_L, mCat_A, mRcv_A, mArg_nil, mArg_I, mArg_L, mArg_A, tsg, swt_nil, swt_cons, lkw_nil, lkw_cons, ↓reduceIte, Nat.reduceAdd, Nat.reduceEqDiff, Nat.reduceLeDiff, Nat.reduceMul, true_and, and_true, and_self, List.mem_cons, List.not_mem_nil, or_false, or_self, false_or, true_implies, false_implies, not_true_eq_false, not_false_eq_true, nI00, nI10, nI01, nI11, forall_const, implies_true])
        (try simp (disch := omega) only [ixq, ixz, sb_in, sb_in0, upI_sb, upI_sb0, sb_out, nI_add, nI_mul, nI_subq, Nat.zero_add, forall_eq, u2_at, u2_row, upd_at, upd_ne, nI0b, nI1b, nI00, nI10, nI01, nI11, true_implies, false_implies, not_true_eq_false, not_false_eq_true, and_true, true_and, implies_true])
        exact i2
    (try simp only [↓w_X9_order_0, ↓w_X9_order_80, ↓w_X9_order_95, ↓w_X9_order_98, ↓w_X9_order_104, ↓w_X9_order_110, ↓v_X9_order_25, ↓v_X9_order_45, ↓v_X9_order_80, ↓v_X9_order_95, ↓v_X9_order_98, ↓v_X9_order_104, ↓v_X9_order_110, ↓b_aload_n, ↓b_callS2_1, ↓b_callV1_0, ↓b_callV1_1, ↓b_callV3_0, ↓b_getA, ↓b_goto, ↓b_iadd, ↓b_iaload, ↓b_ic_ge, ↓b_ic_ne, ↓b_iconst, ↓b_if_ne, ↓n_iinc, ↓b_iload, ↓b_iload_n, ↓b_ior, ↓b_iret, ↓b_ishl, ↓n_istore, ↓n_istore_n, ↓n_putI, ↓b_sipush, ↓ldI_hit, ↓ldI_skip, ↓ldL_hit, ↓ldL_skip, ↓ldA_hit, ↓ldA_skip, ↓ldelK_nil, ↓ldelK_hit, ↓ldelK_skipI, ↓ldelK_skipA, ↓ldelK_skipL, qP2_X9_has, qP2_X9_hour, qP2_X9_layRule, qP2_X9_start, qP2_X9_works, ↓bI_b, bI_0, nnot, lget_hit, lget_skip, ldel_nil, ldel_hit, ldel_skipI, ldel_skipA, ldel_skipL, ldel2_nil, ldel2_hit, ldel2_hit2, ldel2_skipI, ldel2_skipA, ldel2_skipL, vc_0, mCat_nil, mCat_I, mCat_L, mCat_A, mRcv_A, mArg_nil, mArg_I, mArg_L, mArg_A, tsg, swt_nil, swt_cons, lkw_nil, lkw_cons, ↓reduceIte, Nat.reduceAdd, Nat.reduceEqDiff, Nat.reduceLeDiff, Nat.reduceMul, true_and, and_true, and_self, List.mem_cons, List.not_mem_nil, or_false, or_self, false_or, true_implies, false_implies, not_true_eq_false, not_false_eq_true, nI00, nI10, nI01, nI11, forall_const, implies_true])
    (try simp (disch := omega) only [ixq, ixz, sb_in, sb_in0, upI_sb, upI_sb0, sb_out, nI_add, nI_mul, nI_subq, Nat.zero_add, forall_eq, u2_at, upd_at, upd_ne, nI0b, nI1b, nI00, nI10, nI01, nI11, true_implies, false_implies, not_true_eq_false, not_false_eq_true, and_true, true_and, implies_true])
    refine c_layRule ?_
    (try simp only [↓w_X9_order_0, ↓w_X9_order_80, ↓w_X9_order_95, ↓w_X9_order_98, ↓w_X9_order_104, ↓w_X9_order_110, ↓v_X9_order_25, ↓v_X9_order_45, ↓v_X9_order_80, ↓v_X9_order_95, ↓v_X9_order_98, ↓v_X9_order_104, ↓v_X9_order_110, ↓b_aload_n, ↓b_callS2_1, ↓b_callV1_0, ↓b_callV1_1, ↓b_callV3_0, ↓b_getA, ↓b_goto, ↓b_iadd, ↓b_iaload, ↓b_ic_ge, ↓b_ic_ne, ↓b_iconst, ↓b_if_ne, ↓n_iinc, ↓b_iload, ↓b_iload_n, ↓b_ior, ↓b_iret, ↓b_ishl, ↓n_istore, ↓n_istore_n, ↓n_putI, ↓b_sipush, ↓ldI_hit, ↓ldI_skip, ↓ldL_hit, ↓ldL_skip, ↓ldA_hit, ↓ldA_skip, ↓ldelK_nil, ↓ldelK_hit, ↓ldelK_skipI, ↓ldelK_skipA, ↓ldelK_skipL, qP2_X9_has, qP2_X9_hour, qP2_X9_layRule, qP2_X9_start, qP2_X9_works, ↓bI_b, bI_0, nnot, lget_hit, lget_skip, ldel_nil, ldel_hit, ldel_skipI, ldel_skipA, ldel_skipL, ldel2_nil, ldel2_hit, ldel2_hit2, ldel2_skipI, ldel2_skipA, ldel2_skipL, vc_0, mCat_nil, mCat_I, mCat_L, mCat_A, mRcv_A, mArg_nil, mArg_I, mArg_L, mArg_A, tsg, swt_nil, swt_cons, lkw_nil, lkw_cons, ↓reduceIte, Nat.reduceAdd, Nat.reduceEqDiff, Nat.reduceLeDiff, Nat.reduceMul, true_and, and_true, and_self, List.mem_cons, List.not_mem_nil, or_false, or_self, false_or, true_implies, false_implies, not_true_eq_false, not_false_eq_true, nI00, nI10, nI01, nI11, forall_const, implies_true])
    refine d_startT (q := μ.1 (m + 2)) (Q0 := u2 Q 0 0 (nI 0)) rb (by rw [u2_row (by decide)]; exact e) frK_r (fun _ _ => nI 0) (fun Q2 f2 => ?_)
    rw [← runC_z (G := G) (W := W) (fr := fun _ => all)] at f2
    have i2 := main 200 0 0 (nI 0) Q2 f2 (by omega) (by omega) s0 hK
    clear main
    (try simp only [↓w_X9_order_0, ↓w_X9_order_80, ↓w_X9_order_95, ↓w_X9_order_98, ↓w_X9_order_104, ↓w_X9_order_110, ↓v_X9_order_25, ↓v_X9_order_45, ↓v_X9_order_80, ↓v_X9_order_95, ↓v_X9_order_98, ↓v_X9_order_104, ↓v_X9_order_110, ↓b_aload_n, ↓b_callS2_1, ↓b_callV1_0, ↓b_callV1_1, ↓b_callV3_0, ↓b_getA, ↓b_goto, ↓b_iadd, ↓b_iaload, ↓b_ic_ge, ↓b_ic_ne, ↓b_iconst, ↓b_if_ne, ↓n_iinc, ↓b_iload, ↓b_iload_n, ↓b_ior, ↓b_iret, ↓b_ishl, ↓n_istore, ↓n_istore_n, ↓n_putI, ↓b_sipush, ↓ldI_hit, ↓ldI_skip, ↓ldL_hit, ↓ldL_skip, ↓ldA_hit, ↓ldA_skip, ↓ldelK_nil, ↓ldelK_hit, ↓ldelK_skipI, ↓ldelK_skipA, ↓ldelK_skipL, qP2_X9_has, qP2_X9_hour, qP2_X9_layRule, qP2_X9_start, qP2_X9_works, ↓bI_b, bI_0, nnot, lget_hit, lget_skip, ldel_nil, ldel_hit, ldel_skipI, ldel_skipA, ldel_skipL, ldel2_nil, ldel2_hit, ldel2_hit2, ldel2_skipI, ldel2_skipA, ldel2_skipL, vc_0, mCat_nil, mCat_I, mCat_L, mCat_A, mRcv_A, mArg_nil, mArg_I, mArg_L, mArg_A, tsg, swt_nil, swt_cons, lkw_nil, lkw_cons, ↓reduceIte, Nat.reduceAdd, Nat.reduceEqDiff, Nat.reduceLeDiff, Nat.reduceMul, true_and, and_true, and_self, List.mem_cons, List.not_mem_nil, or_false, or_self, false_or, true_implies, false_implies, not_true_eq_false, not_false_eq_true, nI00, nI10, nI01, nI11, forall_const, implies_true])
    (try simp (disch := omega) only [ixq, ixz, sb_in, sb_in0, upI_sb, upI_sb0, sb_out, nI_add, nI_mul, nI_subq, Nat.zero_add, forall_eq, u2_at, u2_row, upd_at, upd_ne, nI0b, nI1b, nI00, nI10, nI01, nI11, true_implies, false_implies, not_true_eq_false, not_false_eq_true, and_true, true_and, implies_true])
    exact i2
end MOd
