def kdS (ck ok : Nat → Nat) (s : Nat) (t : Nat × Nat × Nat) : Nat × Nat × Nat := if (t.1 = 0 ∨ ck s < t.2.2) ∧ ok s = 1 then (1, s, ck s) else t
def kdR (ck ok : Nat → Nat) : Nat → Nat → Nat × Nat × Nat → Nat × Nat × Nat
  | 0, _, t => t
  | n + 1, s, t => kdR ck ok n (s + 1) (kdS ck ok s t)
def kdOk (t : Nat × Nat × Nat) : Prop := t.2.1 < 256 ∧ t.2.2 ≤ 500
theorem kdS_ok {ck ok : Nat → Nat} {s : Nat} {t : Nat × Nat × Nat} (h : kdOk t) (hs : s < 256) (hc : ck s ≤ 500) : kdOk (kdS ck ok s t) := by
  unfold kdS
  by_cases c : (t.1 = 0 ∨ ck s < t.2.2) ∧ ok s = 1
  · rw [if_pos c]; exact ⟨hs, hc⟩
  · rw [if_neg c]; exact h
theorem kd_m1 {t : Nat × Nat × Nat} (h : kdOk t) : (bsM t = -1) = (t.1 = 0) ∧ (bsB t = -1) = (t.1 = 0) := by
  obtain ⟨h1, h2⟩ := h
  unfold bsM bsB
  by_cases h0 : t.1 = 0
  · rw [if_pos h0, if_pos h0]; exact ⟨propext ⟨fun _ => h0, fun _ => rfl⟩, propext ⟨fun _ => h0, fun _ => rfl⟩⟩
  · rw [if_neg h0, if_neg h0, nI_m1 (by omega), nI_m1 (by omega)]; exact ⟨propext ⟨False.elim, fun z => absurd z h0⟩, propext ⟨False.elim, fun z => absurd z h0⟩⟩
theorem kd_le {t : Nat × Nat × Nat} {c : Nat} (h : kdOk t) (h0 : ¬ t.1 = 0) (hc : c ≤ 500) : (bsM t ≤ nI c) = (t.2.2 ≤ c) ∧ (bsN t ≤ nI c) = (t.2.2 ≤ c) := by
  obtain ⟨h1, h2⟩ := h
  unfold bsM bsN
  rw [if_neg h0, if_neg h0, nI_lq (by omega) (by omega)]
  exact ⟨rfl, rfl⟩
section MKj
variable {X : mC} {h x m : Nat} {μ μ1 : Mem} {K : MV → Mem → Prop} {Q Q0 B P R V : Bk} {G W n : Nat} {q f : Nat → Int32} {N : Nat → Int64} {who : Int32}
theorem kc_nat (w8 : W ≤ 8) (g6 : G ≤ 6) (hcb : ∀ c, c < 48 → ∃ t, t ≤ 9 ∧ B 7 c = nI t) : ∃ k, k ≤ 500 ∧ fo W (kcF G B who) (nI 0) = nI k := by
  have inn : ∀ w, w < 8 → ∀ a g, g ≤ 6 → ∃ k, k ≤ a + 9 * g ∧ fo g (fun g a => a + B 7 (w * 6 + g)) (nI a) = nI k := by
    intro w hw a g
    induction g with
    | zero => intro _; exact ⟨a, by omega, rfl⟩
    | succ g ih =>
      intro hg
      obtain ⟨k, k1, k2⟩ := ih (by omega)
      obtain ⟨t, t1, t2⟩ := hcb (w * 6 + g) (by omega)
      exact ⟨k + t, by omega, by rw [fo_s, k2, t2, nI_add]⟩
  have key : ∀ w, w ≤ W → ∃ k, k ≤ 54 * w ∧ fo w (kcF G B who) (nI 0) = nI k := by
    intro w
    induction w with
    | zero => intro _; exact ⟨0, by omega, rfl⟩
    | succ w ih =>
      intro hw
      obtain ⟨k, k1, k2⟩ := ih (by omega)
      rw [fo_s, k2]
      unfold kcF
      by_cases hb : who >>> (nI w &&& 31) &&& nI 1 = nI 1
      · rw [if_pos hb]
        obtain ⟨k', a, b⟩ := inn w (by omega) k G g6
        exact ⟨k', by omega, b⟩
      · rw [if_neg hb]; exact ⟨k, by omega, rfl⟩
  obtain ⟨k, k1, k2⟩ := key W (Nat.le_refl W)
  exact ⟨k, by omega, k2⟩
/-- the kindled RUN does not know what the trial held before -/
theorem kin_can (hF : FB G W f B) (g6 : G ≤ 6) (w8 : W ≤ 8) (hcb : ∀ c, c < 48 → ∃ t s, t ≤ s ∧ s ≤ 200 ∧ B 7 c = nI t ∧ B 8 c = nI s) : ∃ Vn : Nat → Bk, ∀ R n, n ≤ 48 → HB G W (864 * n) n B (Vn n) (fo n (fun _ => passF G W B (nI 1 <<< (nI W &&& 31) - nI 1)) (startKF G W B who R).1) := by
  refine ⟨fun n => fo n (fun k V => hourV G W f (nI 1 <<< (nI W &&& 31) - nI 1) (nI k) V) (va_up (startV f (fun _ _ => nI 0)) 1 (fun c => (startKF G W B who (fun _ _ => nI 0)).1 1 c)), fun R n => ?_⟩
  have st := start_rel (V := fun _ _ => nI 0) (R := R) hF g6 w8
  generalize startV f (fun _ _ => nI 0) = S at st ⊢
  have h0 := HB_vats (who := who) (S' := va_up S 1 (fun c => (startKF G W B who (fun _ _ => nI 0)).1 1 c)) st (fun k a _ _ _ _ j => by rw [up_row a]) (fun c hc => by
    rw [up_at]
    have a := (kin_at (B := B) (who := who) (R := fun _ _ => nI 0) g6 W w8).2.2 c hc
    have b := (kin_at (B := B) (who := who) (R := R) g6 W w8).2.2 c hc
    exact a.trans b.symm) g6 w8 hcb
  generalize va_up S 1 (fun c => (startKF G W B who (fun _ _ => nI 0)).1 1 c) = S' at h0 ⊢
  generalize (startKF G W B who R).1 = R0 at h0 ⊢
  induction n with
  | zero => intro _; exact h0
  | succ n ih =>
    intro hn
    have hh := hour_rel (free := nI 1 <<< (nI W &&& 31) - nI 1) hF (by omega) g6 w8 (by omega) (ih (by omega))
    rw [show 864 * n + 864 = 864 * (n + 1) by omega] at hh
    dsimp only
    rw [fo_s, fo_s]
    exact hh
def kvV (B : Bk) (who : Int32) (c : Nat) : Int32 := if who >>> (nI (c / 6) &&& 31) &&& nI 1 = nI 1 then B 7 c else nI 0
def kvF (G : Nat) (B : Bk) (who : Int32) (w g : Nat) (f : Nat → Int32) : Nat → Int32 := fun j => if 2 ≤ j ∧ j < 50 ∧ (j - 2) % 6 < G ∧ ((j - 2) / 6 < w ∨ (j - 2) / 6 = w ∧ (j - 2) % 6 < g) then kvV B who (j - 2) else f j
theorem kvF_0 {f : Nat → Int32} : kvF G B who 0 0 f = f := funext fun j => if_neg (by omega)
theorem kvF_w {f : Nat → Int32} {w : Nat} (g6 : G ≤ 6) : kvF G B who w G f = kvF G B who (w + 1) 0 f := by
  funext j
  unfold kvF
  by_cases c : 2 ≤ j ∧ j < 50 ∧ (j - 2) % 6 < G ∧ ((j - 2) / 6 < w ∨ (j - 2) / 6 = w ∧ (j - 2) % 6 < G)
  · rw [if_pos c, if_pos (by omega)]
  · rw [if_neg c, if_neg (by omega)]
theorem kvF_s {f : Nat → Int32} {w g : Nat} (g6 : G ≤ 6) (hg : g < G) (hw : w < 8) : upd (kvF G B who w g f) (2 + (w * 6 + g)) (kvV B who (w * 6 + g)) = kvF G B who w (g + 1) f := by
  funext j
  by_cases e : j = 2 + (w * 6 + g)
  · subst e
    rw [upd_at]
    unfold kvF
    rw [if_pos (by omega), Nat.add_sub_cancel_left]
  · rw [upd_ne e]
    unfold kvF
    by_cases c : 2 ≤ j ∧ j < 50 ∧ (j - 2) % 6 < G ∧ ((j - 2) / 6 < w ∨ (j - 2) / 6 = w ∧ (j - 2) % 6 < g)
    · rw [if_pos c, if_pos (by omega)]
    · rw [if_neg c, if_neg (by omega)]
/-- the reference's start of a kindled RUN -/
theorem TI_kin (hr : RBB G W q N B) (hT : TI G W 0 q B Q0 (startF B R) Q) : TI G W 0 q B Q0 (startKF G W B who R).1 (va_up Q 11 (kvF G B who W 0 (Q 11))) := by
  obtain ⟨t1, t2, ⟨t3, t4⟩, ⟨t5, t6, t7⟩, t8, t9⟩ := hT
  have g6 := hr.g6
  have w8 := hr.w8
  refine ⟨by rw [up_row (by decide)]; exact t1, by rw [up_row (by decide)]; exact t2, ⟨by rw [up_row (by decide)]; exact t3, by rw [up_row (by decide)]; exact t4⟩, ⟨by rw [up_row (by decide)]; exact t5, by rw [up_row (by decide)]; exact t6, by rw [up_row (by decide)]; exact t7⟩, ?_, frK_t t9 ⟨fun k h0 hk => up_row (by omega), fun j _ => by rw [up_row (by decide)]⟩⟩
  have v1 : ∀ c, c < 48 → Q 11 (2 + c) = B 9 c := fun c hc => by
    have a := t8.1 1 c (by omega) (by rw [show szR 6 1 = 48 by decide]; exact hc)
    rw [startF_1 hc] at a
    have b : vw 11 0 Q 1 c = Q 11 (0 + (2 + c)) := rfl
    rw [b, Nat.zero_add] at a
    exact a
  have hb := HB_vats (who := who) (S' := va_up (vw 11 0 Q) 1 (fun c => kvF G B who W 0 (Q 11) (2 + c))) t8 (fun k a _ _ _ _ j => by rw [up_row a]) (fun c hc => by
    rw [up_at]
    have z := (kin_at (B := B) (who := who) (R := R) g6 W w8).2.2 c hc
    refine Eq.trans ?_ z.symm
    unfold kvF kvV
    rw [show 2 + c - 2 = c by omega]
    obtain ⟨t, s, a, y, e0, _, s9, a9, _, _, ts, zz, k7, k8, k9, _⟩ := hr.cb c hc
    by_cases i : c / 6 < W ∧ c % 6 < G
    · rw [if_pos (by omega)]
      by_cases b : who >>> (nI (c / 6) &&& 31) &&& nI 1 = nI 1
      · rw [if_pos b, if_pos ⟨i.1, i.2, b⟩]
      · rw [if_neg b, if_neg (fun z => b z.2.2)]
    · rw [if_neg (by omega), if_neg (fun z => i ⟨z.1, z.2.1⟩), v1 c hc, k9]
      have z0 := (zz (by omega)).1
      have := ts z0
      congr 1
      omega) g6 w8 (fun c hc => by
    obtain ⟨t, s, a, y, e0, t9, s9, a9, _, _, ts, zz, k7, k8, k9, _⟩ := hr.cb c hc
    exact ⟨t, s, t9.2, by omega, k7, k8⟩)
  refine HB_eq hb w8 g6 eqB_r eqR_r (fun k j a b c hk hj => ?_)
  have e := ek_lt a b c hk hj
  show (if k = 5 then (va_up Q 11 (kvF G B who W 0 (Q 11))) 12 j else if k = 6 then (va_up Q 11 (kvF G B who W 0 (Q 11))) 13 j else if k = 7 then (va_up Q 11 (kvF G B who W 0 (Q 11))) 14 j else (va_up Q 11 (kvF G B who W 0 (Q 11))) 11 (0 + ek k j)) = _
  rw [if_neg a, if_neg b, if_neg c, up_at, Nat.zero_add]
  by_cases k1 : k = 1
  · subst k1
    rw [up_at]
    rfl
  · rw [up_row k1]
    have ne : ¬ (2 ≤ ek k j ∧ ek k j < 50) := fun z => by
      have d := dkI_1 z.1 z.2
      rw [e.2.1] at d
      exact k1 (Prod.mk.inj d).1
    unfold kvF vw
    rw [if_neg (fun z => ne ⟨z.1, z.2.1⟩), if_neg a, if_neg b, if_neg c, Nat.zero_add]
def kOK (G W n : Nat) (B : Bk) (who set : Int32) : Prop := ∀ w, w < W → set >>> (nI w &&& 31) &&& nI 1 = nI 1 → 0 < fo n (fun _ => passF G W B (nI 1 <<< (nI W &&& 31) - nI 1)) (startKF G W B who (fun _ _ => nI 0)).1 8 w
theorem c_kindlesR {set : Int32} (hn : n ≤ 48) (rb : RBB G W q N B) (pl : PL G W P q) (hq : Q 2 = q) (hf : frK Q0 Q) (hT : kOK G W n B who set → ∀ Q2, frK Q0 Q2 → K (.inl (nI 1)) (sb μ m 21 Q2)) (hN : ¬ kOK G W n B who set → ∀ Q2, frK Q0 Q2 → K (.inl (nI 0)) (sb μ m 21 Q2)) : mMet X (h + 6) m_X9_kindles [.inr (.inr (8, 0, m)), .inl who, .inl set, .inl (nI n)] (sb μ m 21 Q) K := by
  have g6 := rb.g6
  have w8 := rb.w8
  (refine vc_met2 P2_ok ok_X9_kindles cm_X9_kindles [16,28,91,94,115,118,152] 8 t_X9_kindles_0 (Nat.le_of_ble_eq_true rfl) ?_; simp only [mArg_nil, mArg_I, mArg_L, mArg_A, Nat.reduceAdd])
  have k115 : ∀ y Q', TI G W n q B Q0 (fo n (fun _ => passF G W B (nI 1 <<< (nI W &&& 31) - nI 1)) (startKF G W B who (fun _ _ => nI 0)).1) Q' → mAt X m_X9_kindles (h + 5) K 115 [(4, .inl y), (0, .inr (.inr (8, 0, m))), (1, .inl who), (2, .inl set), (3, .inl (nI n))] [] (sb μ m 21 Q') := by
    intro y Q' hTI
    have q1 : Q' 2 1 = nI W := by rw [hTI.1]; exact rb.q1
    have main : ∀ i w, w + i = W → (∀ w', w' < w → set >>> (nI w' &&& 31) &&& nI 1 = nI 1 → 0 < fo n (fun _ => passF G W B (nI 1 <<< (nI W &&& 31) - nI 1)) (startKF G W B who (fun _ _ => nI 0)).1 8 w') → bb X P2 m_X9_kindles (h + 5) K (vc X P2 m_X9_kindles (h + 5) K k_X9_kindles [16,28,91,94,115,118,152] 8) s_X9_kindles_118 [(4, .inl (nI w)), (0, .inr (.inr (8, 0, m))), (1, .inl who), (2, .inl set), (3, .inl (nI n))] [] (sb μ m 21 Q') := by
      intro i
      induction i with
      | zero =>
        intro w hw hall
        have ew : w = W := by omega
        subst ew
        (try simp only [↓w_X9_kindles_0, ↓w_X9_kindles_16, ↓w_X9_kindles_28, ↓w_X9_kindles_77, ↓w_X9_kindles_78, ↓w_X9_kindles_85, ↓w_X9_kindles_91, ↓w_X9_kindles_94, ↓w_X9_kindles_115, ↓w_X9_kindles_118, ↓w_X9_kindles_158, ↓v_X9_kindles_16, ↓v_X9_kindles_28, ↓v_X9_kindles_77, ↓v_X9_kindles_78, ↓v_X9_kindles_85, ↓v_X9_kindles_91, ↓v_X9_kindles_94, ↓v_X9_kindles_115, ↓v_X9_kindles_118, ↓v_X9_kindles_152, ↓v_X9_kindles_158, ↓b_aload_n, ↓b_bipush, ↓b_callS2_1, ↓b_callV1_0, ↓b_callV1_1, ↓b_callV3_0, ↓b_getA, ↓b_goto, ↓b_iadd, ↓b_iaload, ↓n_iastore, ↓b_ic_ge, ↓b_iconst, ↓b_if_eq, ↓b_if_ne, ↓n_iinc, ↓b_iload, ↓b_iload_n, ↓n_istore, ↓b_sipush, ↓b_zret, ↓ldI_hit, ↓ldI_skip, ↓ldL_hit, ↓ldL_skip, ↓ldA_hit, ↓ldA_skip, ↓ldelK_nil, ↓ldelK_hit, ↓ldelK_skipI, ↓ldelK_skipA, ↓ldelK_skipL, qP2_X9_cell, qP2_X9_goods, qP2_X9_has, qP2_X9_hour, qP2_X9_layRule, qP2_X9_start, qP2_X9_works, ↓bI_b, bI_0, nnot, lget_hit, lget_skip, ldel_nil, ldel_hit, ldel_skipI, ldel_skipA, ldel_skipL, ldel2_nil, ldel2_hit, ldel2_hit2, ldel2_skipI, ldel2_skipA, ldel2_skipL, vc_0, mCat_nil, mCat_I, mCat_L, mCat_A, mRcv_A, mArg_nil, mArg_I, mArg_L, mArg_A, tsg, swt_nil, swt_cons, lkw_nil, lkw_cons, ↓reduceIte, Nat.reduceAdd, Nat.reduceEqDiff, Nat.reduceLeDiff, Nat.reduceMul, true_and, and_true, and_self, List.mem_cons, List.not_mem_nil, or_false, or_self, false_or, true_implies, false_implies, not_true_eq_false, not_false_eq_true, nI00, nI10, nI01, nI11, forall_const, implies_true])
        (try simp (disch := omega) only [ixq, ixz, sb_in, sb_in0, upI_sb, upI_sb0, sb_out, nI_add, nI_mul, nI_subq, Nat.zero_add, forall_eq, u2_at, u2_row, upd_at, upd_ne, nI0b, nI1b, nI00, nI10, nI01, nI11, true_implies, false_implies, not_true_eq_false, not_false_eq_true, and_true, true_and, implies_true, q1, nI_lq])
        exact ⟨fun _ => hT hall Q' hTI.2.2.2.2.2, fun z => absurd (Nat.le_refl w) z⟩
      | succ i ih =>
        intro w hw hall
        obtain ⟨_, kk, k1, k2, _⟩ := hTI.2.2.2.2.1.2.2.2.2.2.2.2.2 w (by omega)
        have v8 : Q' 11 (212 + w) = nI kk := by
          have a := hTI.2.2.2.2.1.1 8 w (by omega) (by rw [show szR 6 8 = 8 by decide]; omega)
          rw [k2] at a
          have b : vw 11 0 Q' 8 w = Q' 11 (0 + (212 + w)) := rfl
          rw [b, Nat.zero_add] at a
          exact a
        have lt : (0 : Int32) < nI kk ↔ 0 < kk := by rw [← nI_0, nI_ltq (by omega) (by omega)]
        have go : (set >>> (nI w &&& 31) &&& nI 1 = nI 1 → ¬ kk = 0) → mAt X m_X9_kindles (h + 5) K 152 [(4, .inl (nI w)), (0, .inr (.inr (8, 0, m))), (1, .inl who), (2, .inl set), (3, .inl (nI n))] [] (sb μ m 21 Q') := fun hk => by
          have i2 := ih (w + 1) (by omega) (fun w' hw' hb => by
            by_cases e : w' = w
            · rw [e, k2]
              rw [e] at hb
              exact lt.mpr (by have := hk hb; omega)
            · exact hall w' (by omega) hb)
          clear ih
          (refine vc_from P2_ok ok_X9_kindles [16,28,91,94,115,118,152] 8 ?_; rw [t_X9_kindles_152])
          (try simp only [↓w_X9_kindles_0, ↓w_X9_kindles_16, ↓w_X9_kindles_28, ↓w_X9_kindles_77, ↓w_X9_kindles_78, ↓w_X9_kindles_85, ↓w_X9_kindles_91, ↓w_X9_kindles_94, ↓w_X9_kindles_115, ↓w_X9_kindles_118, ↓w_X9_kindles_152, ↓w_X9_kindles_158, ↓v_X9_kindles_16, ↓v_X9_kindles_28, ↓v_X9_kindles_77, ↓v_X9_kindles_78, ↓v_X9_kindles_85, ↓v_X9_kindles_91, ↓v_X9_kindles_94, ↓v_X9_kindles_115, ↓v_X9_kindles_118, ↓v_X9_kindles_152, ↓v_X9_kindles_158, ↓b_aload_n, ↓b_bipush, ↓b_callS2_1, ↓b_callV1_0, ↓b_callV1_1, ↓b_callV3_0, ↓b_getA, ↓b_goto, ↓b_iadd, ↓b_iaload, ↓n_iastore, ↓b_ic_ge, ↓b_iconst, ↓b_if_eq, ↓b_if_ne, ↓n_iinc, ↓b_iload, ↓b_iload_n, ↓n_istore, ↓b_sipush, ↓b_zret, ↓ldI_hit, ↓ldI_skip, ↓ldL_hit, ↓ldL_skip, ↓ldA_hit, ↓ldA_skip, ↓ldelK_nil, ↓ldelK_hit, ↓ldelK_skipI, ↓ldelK_skipA, ↓ldelK_skipL, qP2_X9_cell, qP2_X9_goods, qP2_X9_has, qP2_X9_hour, qP2_X9_layRule, qP2_X9_start, qP2_X9_works, ↓bI_b, bI_0, nnot, lget_hit, lget_skip, ldel_nil, ldel_hit, ldel_skipI, ldel_skipA, ldel_skipL, ldel2_nil, ldel2_hit, ldel2_hit2, ldel2_skipI, ldel2_skipA, ldel2_skipL, vc_0, mCat_nil, mCat_I, mCat_L, mCat_A, mRcv_A, mArg_nil, mArg_I, mArg_L, mArg_A, tsg, swt_nil, swt_cons, lkw_nil, lkw_cons, ↓reduceIte, Nat.reduceAdd, Nat.reduceEqDiff, Nat.reduceLeDiff, Nat.reduceMul, true_and, and_true, and_self, List.mem_cons, List.not_mem_nil, or_false, or_self, false_or, true_implies, false_implies, not_true_eq_false, not_false_eq_true, nI00, nI10, nI01, nI11, forall_const, implies_true])
          (try simp (disch := omega) only [ixq, ixz, sb_in, sb_in0, upI_sb, upI_sb0, sb_out, nI_add, nI_mul, nI_subq, Nat.zero_add, forall_eq, u2_at, u2_row, upd_at, upd_ne, nI0b, nI1b, nI00, nI10, nI01, nI11, true_implies, false_implies, not_true_eq_false, not_false_eq_true, and_true, true_and, implies_true])
          exact vc_back P2_ok ok_X9_kindles [16,28,91,94,115,118,152] 8 t_X9_kindles_118 (i2) (by simp) (rfl)
        by_cases hb : set >>> (nI w &&& 31) &&& nI 1 = nI 1
        · have hb' := eq_true hb
          by_cases ek : kk = 0
          · have kz : (nI kk = 0) = True := by rw [nI_ez (by omega)]; exact eq_true ek
            (try simp only [↓w_X9_kindles_0, ↓w_X9_kindles_16, ↓w_X9_kindles_28, ↓w_X9_kindles_77, ↓w_X9_kindles_78, ↓w_X9_kindles_85, ↓w_X9_kindles_91, ↓w_X9_kindles_94, ↓w_X9_kindles_115, ↓w_X9_kindles_118, ↓w_X9_kindles_158, ↓v_X9_kindles_16, ↓v_X9_kindles_28, ↓v_X9_kindles_77, ↓v_X9_kindles_78, ↓v_X9_kindles_85, ↓v_X9_kindles_91, ↓v_X9_kindles_94, ↓v_X9_kindles_115, ↓v_X9_kindles_118, ↓v_X9_kindles_152, ↓v_X9_kindles_158, ↓b_aload_n, ↓b_bipush, ↓b_callS2_1, ↓b_callV1_0, ↓b_callV1_1, ↓b_callV3_0, ↓b_getA, ↓b_goto, ↓b_iadd, ↓b_iaload, ↓n_iastore, ↓b_ic_ge, ↓b_iconst, ↓b_if_eq, ↓b_if_ne, ↓n_iinc, ↓b_iload, ↓b_iload_n, ↓n_istore, ↓b_sipush, ↓b_zret, ↓ldI_hit, ↓ldI_skip, ↓ldL_hit, ↓ldL_skip, ↓ldA_hit, ↓ldA_skip, ↓ldelK_nil, ↓ldelK_hit, ↓ldelK_skipI, ↓ldelK_skipA, ↓ldelK_skipL, qP2_X9_cell, qP2_X9_goods, qP2_X9_has, qP2_X9_hour, qP2_X9_layRule, qP2_X9_start, qP2_X9_works, ↓bI_b, bI_0, nnot, lget_hit, lget_skip, ldel_nil, ldel_hit, ldel_skipI, ldel_skipA, ldel_skipL, ldel2_nil, ldel2_hit, ldel2_hit2, ldel2_skipI, ldel2_skipA, ldel2_skipL, vc_0, mCat_nil, mCat_I, mCat_L, mCat_A, mRcv_A, mArg_nil, mArg_I, mArg_L, mArg_A, tsg, swt_nil, swt_cons, lkw_nil, lkw_cons, ↓reduceIte, Nat.reduceAdd, Nat.reduceEqDiff, Nat.reduceLeDiff, Nat.reduceMul, true_and, and_true, and_self, List.mem_cons, List.not_mem_nil, or_false, or_self, false_or, true_implies, false_implies, not_true_eq_false, not_false_eq_true, nI00, nI10, nI01, nI11, forall_const, implies_true, hb'])
            (try simp (disch := omega) only [ixq, ixz, sb_in, sb_in0, upI_sb, upI_sb0, sb_out, nI_add, nI_mul, nI_subq, Nat.zero_add, forall_eq, u2_at, u2_row, upd_at, upd_ne, nI0b, nI1b, nI00, nI10, nI01, nI11, true_implies, false_implies, not_true_eq_false, not_false_eq_true, and_true, true_and, implies_true, q1, nI_lq, v8, kz])
            refine ⟨fun z => by omega, fun _ => ?_⟩
            refine hN (fun ok => ?_) Q' hTI.2.2.2.2.2
            have z := ok w (by omega) hb
            rw [k2] at z
            have := lt.mp z
            omega
          · have kz : (nI kk = 0) = False := by rw [nI_ez (by omega)]; exact eq_false ek
            (try simp only [↓w_X9_kindles_0, ↓w_X9_kindles_16, ↓w_X9_kindles_28, ↓w_X9_kindles_77, ↓w_X9_kindles_78, ↓w_X9_kindles_85, ↓w_X9_kindles_91, ↓w_X9_kindles_94, ↓w_X9_kindles_115, ↓w_X9_kindles_118, ↓w_X9_kindles_158, ↓v_X9_kindles_16, ↓v_X9_kindles_28, ↓v_X9_kindles_77, ↓v_X9_kindles_78, ↓v_X9_kindles_85, ↓v_X9_kindles_91, ↓v_X9_kindles_94, ↓v_X9_kindles_115, ↓v_X9_kindles_118, ↓v_X9_kindles_152, ↓v_X9_kindles_158, ↓b_aload_n, ↓b_bipush, ↓b_callS2_1, ↓b_callV1_0, ↓b_callV1_1, ↓b_callV3_0, ↓b_getA, ↓b_goto, ↓b_iadd, ↓b_iaload, ↓n_iastore, ↓b_ic_ge, ↓b_iconst, ↓b_if_eq, ↓b_if_ne, ↓n_iinc, ↓b_iload, ↓b_iload_n, ↓n_istore, ↓b_sipush, ↓b_zret, ↓ldI_hit, ↓ldI_skip, ↓ldL_hit, ↓ldL_skip, ↓ldA_hit, ↓ldA_skip, ↓ldelK_nil, ↓ldelK_hit, ↓ldelK_skipI, ↓ldelK_skipA, ↓ldelK_skipL, qP2_X9_cell, qP2_X9_goods, qP2_X9_has, qP2_X9_hour, qP2_X9_layRule, qP2_X9_start, qP2_X9_works, ↓bI_b, bI_0, nnot, lget_hit, lget_skip, ldel_nil, ldel_hit, ldel_skipI, ldel_skipA, ldel_skipL, ldel2_nil, ldel2_hit, ldel2_hit2, ldel2_skipI, ldel2_skipA, ldel2_skipL, vc_0, mCat_nil, mCat_I, mCat_L, mCat_A, mRcv_A, mArg_nil, mArg_I, mArg_L, mArg_A, tsg, swt_nil, swt_cons, lkw_nil, lkw_cons, ↓reduceIte, Nat.reduceAdd, Nat.reduceEqDiff, Nat.reduceLeDiff, Nat.reduceMul, true_and, and_true, and_self, List.mem_cons, List.not_mem_nil, or_false, or_self, false_or, true_implies, false_implies, not_true_eq_false, not_false_eq_true, nI00, nI10, nI01, nI11, forall_const, implies_true, hb'])
            (try simp (disch := omega) only [ixq, ixz, sb_in, sb_in0, upI_sb, upI_sb0, sb_out, nI_add, nI_mul, nI_subq, Nat.zero_add, forall_eq, u2_at, u2_row, upd_at, upd_ne, nI0b, nI1b, nI00, nI10, nI01, nI11, true_implies, false_implies, not_true_eq_false, not_false_eq_true, and_true, true_and, implies_true, q1, nI_lq, v8, kz])
            refine ⟨fun z => by omega, fun _ => ?_⟩
            exact go (fun _ => ek)
        · have hb' := eq_false hb
          (try simp only [↓w_X9_kindles_0, ↓w_X9_kindles_16, ↓w_X9_kindles_28, ↓w_X9_kindles_77, ↓w_X9_kindles_78, ↓w_X9_kindles_85, ↓w_X9_kindles_91, ↓w_X9_kindles_94, ↓w_X9_kindles_115, ↓w_X9_kindles_118, ↓w_X9_kindles_158, ↓v_X9_kindles_16, ↓v_X9_kindles_28, ↓v_X9_kindles_77, ↓v_X9_kindles_78, ↓v_X9_kindles_85, ↓v_X9_kindles_91, ↓v_X9_kindles_94, ↓v_X9_kindles_115, ↓v_X9_kindles_118, ↓v_X9_kindles_152, ↓v_X9_kindles_158, ↓b_aload_n, ↓b_bipush, ↓b_callS2_1, ↓b_callV1_0, ↓b_callV1_1, ↓b_callV3_0, ↓b_getA, ↓b_goto, ↓b_iadd, ↓b_iaload, ↓n_iastore, ↓b_ic_ge, ↓b_iconst, ↓b_if_eq, ↓b_if_ne, ↓n_iinc, ↓b_iload, ↓b_iload_n, ↓n_istore, ↓b_sipush, ↓b_zret, ↓ldI_hit, ↓ldI_skip, ↓ldL_hit, ↓ldL_skip, ↓ldA_hit, ↓ldA_skip, ↓ldelK_nil, ↓ldelK_hit, ↓ldelK_skipI, ↓ldelK_skipA, ↓ldelK_skipL, qP2_X9_cell, qP2_X9_goods, qP2_X9_has, qP2_X9_hour, qP2_X9_layRule, qP2_X9_start, qP2_X9_works, ↓bI_b, bI_0, nnot, lget_hit, lget_skip, ldel_nil, ldel_hit, ldel_skipI, ldel_skipA, ldel_skipL, ldel2_nil, ldel2_hit, ldel2_hit2, ldel2_skipI, ldel2_skipA, ldel2_skipL, vc_0, mCat_nil, mCat_I, mCat_L, mCat_A, mRcv_A, mArg_nil, mArg_I, mArg_L, mArg_A, tsg, swt_nil, swt_cons, lkw_nil, lkw_cons, ↓reduceIte, Nat.reduceAdd, Nat.reduceEqDiff, Nat.reduceLeDiff, Nat.reduceMul, true_and, and_true, and_self, List.mem_cons, List.not_mem_nil, or_false, or_self, false_or, true_implies, false_implies, not_true_eq_false, not_false_eq_true, nI00, nI10, nI01, nI11, forall_const, implies_true, hb'])
          (try simp (disch := omega) only [ixq, ixz, sb_in, sb_in0, upI_sb, upI_sb0, sb_out, nI_add, nI_mul, nI_subq, Nat.zero_add, forall_eq, u2_at, u2_row, upd_at, upd_ne, nI0b, nI1b, nI00, nI10, nI01, nI11, true_implies, false_implies, not_true_eq_false, not_false_eq_true, and_true, true_and, implies_true, q1, nI_lq])
          refine ⟨fun z => by omega, fun _ => ?_⟩
          exact go (fun z => absurd z hb)
    have i2 := main W 0 (by omega) (fun w' hw' => absurd hw' (Nat.not_lt_zero w'))
    clear main
    (refine vc_from P2_ok ok_X9_kindles [16,28,91,94,115,118,152] 8 ?_; rw [t_X9_kindles_115])
    (try simp only [↓w_X9_kindles_0, ↓w_X9_kindles_16, ↓w_X9_kindles_28, ↓w_X9_kindles_77, ↓w_X9_kindles_78, ↓w_X9_kindles_85, ↓w_X9_kindles_91, ↓w_X9_kindles_94, ↓w_X9_kindles_115, ↓w_X9_kindles_152, ↓w_X9_kindles_158, ↓v_X9_kindles_16, ↓v_X9_kindles_28, ↓v_X9_kindles_77, ↓v_X9_kindles_78, ↓v_X9_kindles_85, ↓v_X9_kindles_91, ↓v_X9_kindles_94, ↓v_X9_kindles_115, ↓v_X9_kindles_118, ↓v_X9_kindles_152, ↓v_X9_kindles_158, ↓b_aload_n, ↓b_bipush, ↓b_callS2_1, ↓b_callV1_0, ↓b_callV1_1, ↓b_callV3_0, ↓b_getA, ↓b_goto, ↓b_iadd, ↓b_iaload, ↓n_iastore, ↓b_ic_ge, ↓b_iconst, ↓b_if_eq, ↓b_if_ne, ↓n_iinc, ↓b_iload, ↓b_iload_n, ↓n_istore, ↓b_sipush, ↓b_zret, ↓ldI_hit, ↓ldI_skip, ↓ldL_hit, ↓ldL_skip, ↓ldA_hit, ↓ldA_skip, ↓ldelK_nil, ↓ldelK_hit, ↓ldelK_skipI, ↓ldelK_skipA, ↓ldelK_skipL, qP2_X9_cell, qP2_X9_goods, qP2_X9_has, qP2_X9_hour, qP2_X9_layRule, qP2_X9_start, qP2_X9_works, ↓bI_b, bI_0, nnot, lget_hit, lget_skip, ldel_nil, ldel_hit, ldel_skipI, ldel_skipA, ldel_skipL, ldel2_nil, ldel2_hit, ldel2_hit2, ldel2_skipI, ldel2_skipA, ldel2_skipL, vc_0, mCat_nil, mCat_I, mCat_L, mCat_A, mRcv_A, mArg_nil, mArg_I, mArg_L, mArg_A, tsg, swt_nil, swt_cons, lkw_nil, lkw_cons, ↓reduceIte, Nat.reduceAdd, Nat.reduceEqDiff, Nat.reduceLeDiff, Nat.reduceMul, true_and, and_true, and_self, List.mem_cons, List.not_mem_nil, or_false, or_self, false_or, true_implies, false_implies, not_true_eq_false, not_false_eq_true, nI00, nI10, nI01, nI11, forall_const, implies_true])
    (try simp (disch := omega) only [ixq, ixz, sb_in, sb_in0, upI_sb, upI_sb0, sb_out, nI_add, nI_mul, nI_subq, Nat.zero_add, forall_eq, u2_at, u2_row, upd_at, upd_ne, nI0b, nI1b, nI00, nI10, nI01, nI11, true_implies, false_implies, not_true_eq_false, not_false_eq_true, and_true, true_and, implies_true])
    exact i2
  have k91 : ∀ y Q', TI G W 0 q B Q0 (startKF G W B who (fun _ _ => nI 0)).1 Q' → mAt X m_X9_kindles (h + 5) K 91 [(4, .inl y), (0, .inr (.inr (8, 0, m))), (1, .inl who), (2, .inl set), (3, .inl (nI n))] [] (sb μ m 21 Q') := by
    intro y Q' hTI
    have main : ∀ i k Q', k + i = n → TI G W k q B Q0 (fo k (fun _ => passF G W B (nI 1 <<< (nI W &&& 31) - nI 1)) (startKF G W B who (fun _ _ => nI 0)).1) Q' → bb X P2 m_X9_kindles (h + 5) K (vc X P2 m_X9_kindles (h + 5) K k_X9_kindles [16,28,91,94,115,118,152] 8) s_X9_kindles_94 [(4, .inl (nI k)), (0, .inr (.inr (8, 0, m))), (1, .inl who), (2, .inl set), (3, .inl (nI n))] [] (sb μ m 21 Q') := by
      intro i
      induction i with
      | zero =>
        intro k Q' hk hTI
        have ek : k = n := by omega
        subst ek
        (try simp only [↓w_X9_kindles_0, ↓w_X9_kindles_16, ↓w_X9_kindles_28, ↓w_X9_kindles_77, ↓w_X9_kindles_78, ↓w_X9_kindles_85, ↓w_X9_kindles_91, ↓w_X9_kindles_94, ↓w_X9_kindles_118, ↓w_X9_kindles_152, ↓w_X9_kindles_158, ↓v_X9_kindles_16, ↓v_X9_kindles_28, ↓v_X9_kindles_77, ↓v_X9_kindles_78, ↓v_X9_kindles_85, ↓v_X9_kindles_91, ↓v_X9_kindles_94, ↓v_X9_kindles_115, ↓v_X9_kindles_118, ↓v_X9_kindles_152, ↓v_X9_kindles_158, ↓b_aload_n, ↓b_bipush, ↓b_callS2_1, ↓b_callV1_0, ↓b_callV1_1, ↓b_callV3_0, ↓b_getA, ↓b_goto, ↓b_iadd, ↓b_iaload, ↓n_iastore, ↓b_ic_ge, ↓b_iconst, ↓b_if_eq, ↓b_if_ne, ↓n_iinc, ↓b_iload, ↓b_iload_n, ↓n_istore, ↓b_sipush, ↓b_zret, ↓ldI_hit, ↓ldI_skip, ↓ldL_hit, ↓ldL_skip, ↓ldA_hit, ↓ldA_skip, ↓ldelK_nil, ↓ldelK_hit, ↓ldelK_skipI, ↓ldelK_skipA, ↓ldelK_skipL, qP2_X9_cell, qP2_X9_goods, qP2_X9_has, qP2_X9_hour, qP2_X9_layRule, qP2_X9_start, qP2_X9_works, ↓bI_b, bI_0, nnot, lget_hit, lget_skip, ldel_nil, ldel_hit, ldel_skipI, ldel_skipA, ldel_skipL, ldel2_nil, ldel2_hit, ldel2_hit2, ldel2_skipI, ldel2_skipA, ldel2_skipL, vc_0, mCat_nil, mCat_I, mCat_L, mCat_A, mRcv_A, mArg_nil, mArg_I, mArg_L, mArg_A, tsg, swt_nil, swt_cons, lkw_nil, lkw_cons, ↓reduceIte, Nat.reduceAdd, Nat.reduceEqDiff, Nat.reduceLeDiff, Nat.reduceMul, true_and, and_true, and_self, List.mem_cons, List.not_mem_nil, or_false, or_self, false_or, true_implies, false_implies, not_true_eq_false, not_false_eq_true, nI00, nI10, nI01, nI11, forall_const, implies_true])
        (try simp (disch := omega) only [ixq, ixz, sb_in, sb_in0, upI_sb, upI_sb0, sb_out, nI_add, nI_mul, nI_subq, Nat.zero_add, forall_eq, u2_at, u2_row, upd_at, upd_ne, nI0b, nI1b, nI00, nI10, nI01, nI11, true_implies, false_implies, not_true_eq_false, not_false_eq_true, and_true, true_and, implies_true, nI_lq])
        exact ⟨fun _ => k115 _ Q' hTI, fun z => absurd (Nat.le_refl k) z⟩
      | succ i ih =>
        intro k Q' hk hTI
        (try simp only [↓w_X9_kindles_0, ↓w_X9_kindles_16, ↓w_X9_kindles_28, ↓w_X9_kindles_77, ↓w_X9_kindles_78, ↓w_X9_kindles_85, ↓w_X9_kindles_91, ↓w_X9_kindles_94, ↓w_X9_kindles_118, ↓w_X9_kindles_152, ↓w_X9_kindles_158, ↓v_X9_kindles_16, ↓v_X9_kindles_28, ↓v_X9_kindles_77, ↓v_X9_kindles_78, ↓v_X9_kindles_85, ↓v_X9_kindles_91, ↓v_X9_kindles_94, ↓v_X9_kindles_115, ↓v_X9_kindles_118, ↓v_X9_kindles_152, ↓v_X9_kindles_158, ↓b_aload_n, ↓b_bipush, ↓b_callS2_1, ↓b_callV1_0, ↓b_callV1_1, ↓b_callV3_0, ↓b_getA, ↓b_goto, ↓b_iadd, ↓b_iaload, ↓n_iastore, ↓b_ic_ge, ↓b_iconst, ↓b_if_eq, ↓b_if_ne, ↓n_iinc, ↓b_iload, ↓b_iload_n, ↓n_istore, ↓b_sipush, ↓b_zret, ↓ldI_hit, ↓ldI_skip, ↓ldL_hit, ↓ldL_skip, ↓ldA_hit, ↓ldA_skip, ↓ldelK_nil, ↓ldelK_hit, ↓ldelK_skipI, ↓ldelK_skipA, ↓ldelK_skipL, qP2_X9_cell, qP2_X9_goods, qP2_X9_has, qP2_X9_hour, qP2_X9_layRule, qP2_X9_start, qP2_X9_works, ↓bI_b, bI_0, nnot, lget_hit, lget_skip, ldel_nil, ldel_hit, ldel_skipI, ldel_skipA, ldel_skipL, ldel2_nil, ldel2_hit, ldel2_hit2, ldel2_skipI, ldel2_skipA, ldel2_skipL, vc_0, mCat_nil, mCat_I, mCat_L, mCat_A, mRcv_A, mArg_nil, mArg_I, mArg_L, mArg_A, tsg, swt_nil, swt_cons, lkw_nil, lkw_cons, ↓reduceIte, Nat.reduceAdd, Nat.reduceEqDiff, Nat.reduceLeDiff, Nat.reduceMul, true_and, and_true, and_self, List.mem_cons, List.not_mem_nil, or_false, or_self, false_or, true_implies, false_implies, not_true_eq_false, not_false_eq_true, nI00, nI10, nI01, nI11, forall_const, implies_true])
        (try simp (disch := omega) only [ixq, ixz, sb_in, sb_in0, upI_sb, upI_sb0, sb_out, nI_add, nI_mul, nI_subq, Nat.zero_add, forall_eq, u2_at, u2_row, upd_at, upd_ne, nI0b, nI1b, nI00, nI10, nI01, nI11, true_implies, false_implies, not_true_eq_false, not_false_eq_true, and_true, true_and, implies_true, nI_lq])
        refine ⟨fun z => by omega, fun _ => ?_⟩
        refine d_hourT rb pl (by omega) hTI (fun Q2 f2 => ?_)
        have i2 := ih (k + 1) Q2 (by omega) f2
        clear ih
        (try simp only [↓w_X9_kindles_0, ↓w_X9_kindles_16, ↓w_X9_kindles_28, ↓w_X9_kindles_77, ↓w_X9_kindles_78, ↓w_X9_kindles_85, ↓w_X9_kindles_91, ↓w_X9_kindles_94, ↓w_X9_kindles_118, ↓w_X9_kindles_152, ↓w_X9_kindles_158, ↓v_X9_kindles_16, ↓v_X9_kindles_28, ↓v_X9_kindles_77, ↓v_X9_kindles_78, ↓v_X9_kindles_85, ↓v_X9_kindles_91, ↓v_X9_kindles_94, ↓v_X9_kindles_115, ↓v_X9_kindles_118, ↓v_X9_kindles_152, ↓v_X9_kindles_158, ↓b_aload_n, ↓b_bipush, ↓b_callS2_1, ↓b_callV1_0, ↓b_callV1_1, ↓b_callV3_0, ↓b_getA, ↓b_goto, ↓b_iadd, ↓b_iaload, ↓n_iastore, ↓b_ic_ge, ↓b_iconst, ↓b_if_eq, ↓b_if_ne, ↓n_iinc, ↓b_iload, ↓b_iload_n, ↓n_istore, ↓b_sipush, ↓b_zret, ↓ldI_hit, ↓ldI_skip, ↓ldL_hit, ↓ldL_skip, ↓ldA_hit, ↓ldA_skip, ↓ldelK_nil, ↓ldelK_hit, ↓ldelK_skipI, ↓ldelK_skipA, ↓ldelK_skipL, qP2_X9_cell, qP2_X9_goods, qP2_X9_has, qP2_X9_hour, qP2_X9_layRule, qP2_X9_start, qP2_X9_works, ↓bI_b, bI_0, nnot, lget_hit, lget_skip, ldel_nil, ldel_hit, ldel_skipI, ldel_skipA, ldel_skipL, ldel2_nil, ldel2_hit, ldel2_hit2, ldel2_skipI, ldel2_skipA, ldel2_skipL, vc_0, mCat_nil, mCat_I, mCat_L, mCat_A, mRcv_A, mArg_nil, mArg_I, mArg_L, mArg_A, tsg, swt_nil, swt_cons, lkw_nil, lkw_cons, ↓reduceIte, Nat.reduceAdd, Nat.reduceEqDiff, Nat.reduceLeDiff, Nat.reduceMul, true_and, and_true, and_self, List.mem_cons, List.not_mem_nil, or_false, or_self, false_or, true_implies, false_implies, not_true_eq_false, not_false_eq_true, nI00, nI10, nI01, nI11, forall_const, implies_true])
        (try simp (disch := omega) only [ixq, ixz, sb_in, sb_in0, upI_sb, upI_sb0, sb_out, nI_add, nI_mul, nI_subq, Nat.zero_add, forall_eq, u2_at, u2_row, upd_at, upd_ne, nI0b, nI1b, nI00, nI10, nI01, nI11, true_implies, false_implies, not_true_eq_false, not_false_eq_true, and_true, true_and, implies_true])
        exact vc_back P2_ok ok_X9_kindles [16,28,91,94,115,118,152] 8 t_X9_kindles_94 (i2) (by simp) (rfl)
    have i2 := main n 0 Q' (by omega) hTI
    clear main
    (refine vc_from P2_ok ok_X9_kindles [16,28,91,94,115,118,152] 8 ?_; rw [t_X9_kindles_91])
    (try simp only [↓w_X9_kindles_0, ↓w_X9_kindles_16, ↓w_X9_kindles_28, ↓w_X9_kindles_77, ↓w_X9_kindles_78, ↓w_X9_kindles_85, ↓w_X9_kindles_91, ↓w_X9_kindles_115, ↓w_X9_kindles_118, ↓w_X9_kindles_152, ↓w_X9_kindles_158, ↓v_X9_kindles_16, ↓v_X9_kindles_28, ↓v_X9_kindles_77, ↓v_X9_kindles_78, ↓v_X9_kindles_85, ↓v_X9_kindles_91, ↓v_X9_kindles_94, ↓v_X9_kindles_115, ↓v_X9_kindles_118, ↓v_X9_kindles_152, ↓v_X9_kindles_158, ↓b_aload_n, ↓b_bipush, ↓b_callS2_1, ↓b_callV1_0, ↓b_callV1_1, ↓b_callV3_0, ↓b_getA, ↓b_goto, ↓b_iadd, ↓b_iaload, ↓n_iastore, ↓b_ic_ge, ↓b_iconst, ↓b_if_eq, ↓b_if_ne, ↓n_iinc, ↓b_iload, ↓b_iload_n, ↓n_istore, ↓b_sipush, ↓b_zret, ↓ldI_hit, ↓ldI_skip, ↓ldL_hit, ↓ldL_skip, ↓ldA_hit, ↓ldA_skip, ↓ldelK_nil, ↓ldelK_hit, ↓ldelK_skipI, ↓ldelK_skipA, ↓ldelK_skipL, qP2_X9_cell, qP2_X9_goods, qP2_X9_has, qP2_X9_hour, qP2_X9_layRule, qP2_X9_start, qP2_X9_works, ↓bI_b, bI_0, nnot, lget_hit, lget_skip, ldel_nil, ldel_hit, ldel_skipI, ldel_skipA, ldel_skipL, ldel2_nil, ldel2_hit, ldel2_hit2, ldel2_skipI, ldel2_skipA, ldel2_skipL, vc_0, mCat_nil, mCat_I, mCat_L, mCat_A, mRcv_A, mArg_nil, mArg_I, mArg_L, mArg_A, tsg, swt_nil, swt_cons, lkw_nil, lkw_cons, ↓reduceIte, Nat.reduceAdd, Nat.reduceEqDiff, Nat.reduceLeDiff, Nat.reduceMul, true_and, and_true, and_self, List.mem_cons, List.not_mem_nil, or_false, or_self, false_or, true_implies, false_implies, not_true_eq_false, not_false_eq_true, nI00, nI10, nI01, nI11, forall_const, implies_true])
    (try simp (disch := omega) only [ixq, ixz, sb_in, sb_in0, upI_sb, upI_sb0, sb_out, nI_add, nI_mul, nI_subq, Nat.zero_add, forall_eq, u2_at, u2_row, upd_at, upd_ne, nI0b, nI1b, nI00, nI10, nI01, nI11, true_implies, false_implies, not_true_eq_false, not_false_eq_true, and_true, true_and, implies_true])
    exact i2
  clear k115
  (try simp only [↓w_X9_kindles_0, ↓w_X9_kindles_28, ↓w_X9_kindles_77, ↓w_X9_kindles_78, ↓w_X9_kindles_85, ↓w_X9_kindles_91, ↓w_X9_kindles_94, ↓w_X9_kindles_115, ↓w_X9_kindles_118, ↓w_X9_kindles_152, ↓w_X9_kindles_158, ↓v_X9_kindles_16, ↓v_X9_kindles_28, ↓v_X9_kindles_77, ↓v_X9_kindles_78, ↓v_X9_kindles_85, ↓v_X9_kindles_91, ↓v_X9_kindles_94, ↓v_X9_kindles_115, ↓v_X9_kindles_118, ↓v_X9_kindles_152, ↓v_X9_kindles_158, ↓b_aload_n, ↓b_bipush, ↓b_callS2_1, ↓b_callV1_0, ↓b_callV1_1, ↓b_callV3_0, ↓b_getA, ↓b_goto, ↓b_iadd, ↓b_iaload, ↓n_iastore, ↓b_ic_ge, ↓b_iconst, ↓b_if_eq, ↓b_if_ne, ↓n_iinc, ↓b_iload, ↓b_iload_n, ↓n_istore, ↓b_sipush, ↓b_zret, ↓ldI_hit, ↓ldI_skip, ↓ldL_hit, ↓ldL_skip, ↓ldA_hit, ↓ldA_skip, ↓ldelK_nil, ↓ldelK_hit, ↓ldelK_skipI, ↓ldelK_skipA, ↓ldelK_skipL, qP2_X9_cell, qP2_X9_goods, qP2_X9_has, qP2_X9_hour, qP2_X9_layRule, qP2_X9_start, qP2_X9_works, ↓bI_b, bI_0, nnot, lget_hit, lget_skip, ldel_nil, ldel_hit, ldel_skipI, ldel_skipA, ldel_skipL, ldel2_nil, ldel2_hit, ldel2_hit2, ldel2_skipI, ldel2_skipA, ldel2_skipL, vc_0, mCat_nil, mCat_I, mCat_L, mCat_A, mRcv_A, mArg_nil, mArg_I, mArg_L, mArg_A, tsg, swt_nil, swt_cons, lkw_nil, lkw_cons, ↓reduceIte, Nat.reduceAdd, Nat.reduceEqDiff, Nat.reduceLeDiff, Nat.reduceMul, true_and, and_true, and_self, List.mem_cons, List.not_mem_nil, or_false, or_self, false_or, true_implies, false_implies, not_true_eq_false, not_false_eq_true, nI00, nI10, nI01, nI11, forall_const, implies_true])
  refine c_layRule ?_
  (try simp only [↓w_X9_kindles_0, ↓w_X9_kindles_28, ↓w_X9_kindles_77, ↓w_X9_kindles_78, ↓w_X9_kindles_85, ↓w_X9_kindles_91, ↓w_X9_kindles_94, ↓w_X9_kindles_115, ↓w_X9_kindles_118, ↓w_X9_kindles_152, ↓w_X9_kindles_158, ↓v_X9_kindles_16, ↓v_X9_kindles_28, ↓v_X9_kindles_77, ↓v_X9_kindles_78, ↓v_X9_kindles_85, ↓v_X9_kindles_91, ↓v_X9_kindles_94, ↓v_X9_kindles_115, ↓v_X9_kindles_118, ↓v_X9_kindles_152, ↓v_X9_kindles_158, ↓b_aload_n, ↓b_bipush, ↓b_callS2_1, ↓b_callV1_0, ↓b_callV1_1, ↓b_callV3_0, ↓b_getA, ↓b_goto, ↓b_iadd, ↓b_iaload, ↓n_iastore, ↓b_ic_ge, ↓b_iconst, ↓b_if_eq, ↓b_if_ne, ↓n_iinc, ↓b_iload, ↓b_iload_n, ↓n_istore, ↓b_sipush, ↓b_zret, ↓ldI_hit, ↓ldI_skip, ↓ldL_hit, ↓ldL_skip, ↓ldA_hit, ↓ldA_skip, ↓ldelK_nil, ↓ldelK_hit, ↓ldelK_skipI, ↓ldelK_skipA, ↓ldelK_skipL, qP2_X9_cell, qP2_X9_goods, qP2_X9_has, qP2_X9_hour, qP2_X9_layRule, qP2_X9_start, qP2_X9_works, ↓bI_b, bI_0, nnot, lget_hit, lget_skip, ldel_nil, ldel_hit, ldel_skipI, ldel_skipA, ldel_skipL, ldel2_nil, ldel2_hit, ldel2_hit2, ldel2_skipI, ldel2_skipA, ldel2_skipL, vc_0, mCat_nil, mCat_I, mCat_L, mCat_A, mRcv_A, mArg_nil, mArg_I, mArg_L, mArg_A, tsg, swt_nil, swt_cons, lkw_nil, lkw_cons, ↓reduceIte, Nat.reduceAdd, Nat.reduceEqDiff, Nat.reduceLeDiff, Nat.reduceMul, true_and, and_true, and_self, List.mem_cons, List.not_mem_nil, or_false, or_self, false_or, true_implies, false_implies, not_true_eq_false, not_false_eq_true, nI00, nI10, nI01, nI11, forall_const, implies_true])
  refine d_startT (q := q) (Q0 := Q0) rb hq hf (fun _ _ => nI 0) (fun Q2 f2 => ?_)
  have q1 : Q2 2 1 = nI W := by rw [f2.1]; exact rb.q1
  have q0 : Q2 2 0 = nI G := by rw [f2.1]; exact rb.q0
  have f38 : ∀ c, c < 48 → Q2 10 (38 + c) = B 7 c := fun c hc => (f2.2.1.2.2.2.2.1 c hc).1
  have outer : ∀ i w, w + i = W → bb X P2 m_X9_kindles (h + 5) K (vc X P2 m_X9_kindles (h + 5) K k_X9_kindles [16,28,91,94,115,118,152] 8) s_X9_kindles_16 [(4, .inl (nI w)), (0, .inr (.inr (8, 0, m))), (1, .inl who), (2, .inl set), (3, .inl (nI n))] [] (sb μ m 21 (va_up Q2 11 (kvF G B who w 0 (Q2 11)))) := by
    intro i
    induction i with
    | zero =>
      intro w hw
      have ew : w = W := by omega
      subst ew
      (try simp only [↓w_X9_kindles_0, ↓w_X9_kindles_16, ↓w_X9_kindles_77, ↓w_X9_kindles_78, ↓w_X9_kindles_85, ↓w_X9_kindles_94, ↓w_X9_kindles_115, ↓w_X9_kindles_118, ↓w_X9_kindles_152, ↓w_X9_kindles_158, ↓v_X9_kindles_16, ↓v_X9_kindles_28, ↓v_X9_kindles_77, ↓v_X9_kindles_78, ↓v_X9_kindles_85, ↓v_X9_kindles_91, ↓v_X9_kindles_94, ↓v_X9_kindles_115, ↓v_X9_kindles_118, ↓v_X9_kindles_152, ↓v_X9_kindles_158, ↓b_aload_n, ↓b_bipush, ↓b_callS2_1, ↓b_callV1_0, ↓b_callV1_1, ↓b_callV3_0, ↓b_getA, ↓b_goto, ↓b_iadd, ↓b_iaload, ↓n_iastore, ↓b_ic_ge, ↓b_iconst, ↓b_if_eq, ↓b_if_ne, ↓n_iinc, ↓b_iload, ↓b_iload_n, ↓n_istore, ↓b_sipush, ↓b_zret, ↓ldI_hit, ↓ldI_skip, ↓ldL_hit, ↓ldL_skip, ↓ldA_hit, ↓ldA_skip, ↓ldelK_nil, ↓ldelK_hit, ↓ldelK_skipI, ↓ldelK_skipA, ↓ldelK_skipL, qP2_X9_cell, qP2_X9_goods, qP2_X9_has, qP2_X9_hour, qP2_X9_layRule, qP2_X9_start, qP2_X9_works, ↓bI_b, bI_0, nnot, lget_hit, lget_skip, ldel_nil, ldel_hit, ldel_skipI, ldel_skipA, ldel_skipL, ldel2_nil, ldel2_hit, ldel2_hit2, ldel2_skipI, ldel2_skipA, ldel2_skipL, vc_0, mCat_nil, mCat_I, mCat_L, mCat_A, mRcv_A, mArg_nil, mArg_I, mArg_L, mArg_A, tsg, swt_nil, swt_cons, lkw_nil, lkw_cons, ↓reduceIte, Nat.reduceAdd, Nat.reduceEqDiff, Nat.reduceLeDiff, Nat.reduceMul, true_and, and_true, and_self, List.mem_cons, List.not_mem_nil, or_false, or_self, false_or, true_implies, false_implies, not_true_eq_false, not_false_eq_true, nI00, nI10, nI01, nI11, forall_const, implies_true])
      (try simp (disch := omega) only [ixq, ixz, sb_in, sb_in0, upI_sb, upI_sb0, sb_out, nI_add, nI_mul, nI_subq, Nat.zero_add, forall_eq, u2_at, u2_row, upd_at, upd_ne, nI0b, nI1b, nI00, nI10, nI01, nI11, true_implies, false_implies, not_true_eq_false, not_false_eq_true, and_true, true_and, implies_true, q1, nI_lq, up_row])
      exact ⟨fun _ => k91 _ _ (TI_kin rb f2), fun z => absurd (Nat.le_refl w) z⟩
    | succ i ih =>
      intro w hw
      clear k91
      have inner : ∀ j g, g + j = G → bb X P2 m_X9_kindles (h + 5) K (vc X P2 m_X9_kindles (h + 5) K k_X9_kindles [16,28,91,94,115,118,152] 8) s_X9_kindles_28 [(5, .inl (nI g)), (4, .inl (nI w)), (0, .inr (.inr (8, 0, m))), (1, .inl who), (2, .inl set), (3, .inl (nI n))] [] (sb μ m 21 (va_up Q2 11 (kvF G B who w g (Q2 11)))) := by
        intro j
        induction j with
        | zero =>
          intro g hg
          have eg : g = G := by omega
          subst eg
          have i2 := ih (w + 1) (by omega)
          rw [← kvF_w g6] at i2
          clear ih
          (try simp only [↓w_X9_kindles_0, ↓w_X9_kindles_16, ↓w_X9_kindles_28, ↓w_X9_kindles_77, ↓w_X9_kindles_78, ↓w_X9_kindles_85, ↓w_X9_kindles_91, ↓w_X9_kindles_94, ↓w_X9_kindles_115, ↓w_X9_kindles_118, ↓w_X9_kindles_152, ↓w_X9_kindles_158, ↓v_X9_kindles_16, ↓v_X9_kindles_28, ↓v_X9_kindles_77, ↓v_X9_kindles_78, ↓v_X9_kindles_85, ↓v_X9_kindles_91, ↓v_X9_kindles_94, ↓v_X9_kindles_115, ↓v_X9_kindles_118, ↓v_X9_kindles_152, ↓v_X9_kindles_158, ↓b_aload_n, ↓b_bipush, ↓b_callS2_1, ↓b_callV1_0, ↓b_callV1_1, ↓b_callV3_0, ↓b_getA, ↓b_goto, ↓b_iadd, ↓b_iaload, ↓n_iastore, ↓b_ic_ge, ↓b_iconst, ↓b_if_eq, ↓b_if_ne, ↓n_iinc, ↓b_iload, ↓b_iload_n, ↓n_istore, ↓b_sipush, ↓b_zret, ↓ldI_hit, ↓ldI_skip, ↓ldL_hit, ↓ldL_skip, ↓ldA_hit, ↓ldA_skip, ↓ldelK_nil, ↓ldelK_hit, ↓ldelK_skipI, ↓ldelK_skipA, ↓ldelK_skipL, qP2_X9_cell, qP2_X9_goods, qP2_X9_has, qP2_X9_hour, qP2_X9_layRule, qP2_X9_start, qP2_X9_works, ↓bI_b, bI_0, nnot, lget_hit, lget_skip, ldel_nil, ldel_hit, ldel_skipI, ldel_skipA, ldel_skipL, ldel2_nil, ldel2_hit, ldel2_hit2, ldel2_skipI, ldel2_skipA, ldel2_skipL, vc_0, mCat_nil, mCat_I, mCat_L, mCat_A, mRcv_A, mArg_nil, mArg_I, mArg_L, mArg_A, tsg, swt_nil, swt_cons, lkw_nil, lkw_cons, ↓reduceIte, Nat.reduceAdd, Nat.reduceEqDiff, Nat.reduceLeDiff, Nat.reduceMul, true_and, and_true, and_self, List.mem_cons, List.not_mem_nil, or_false, or_self, false_or, true_implies, false_implies, not_true_eq_false, not_false_eq_true, nI00, nI10, nI01, nI11, forall_const, implies_true])
          (try simp (disch := omega) only [ixq, ixz, sb_in, sb_in0, upI_sb, upI_sb0, sb_out, nI_add, nI_mul, nI_subq, Nat.zero_add, forall_eq, u2_at, u2_row, upd_at, upd_ne, nI0b, nI1b, nI00, nI10, nI01, nI11, true_implies, false_implies, not_true_eq_false, not_false_eq_true, and_true, true_and, implies_true, q0, nI_lq, up_row])
          refine ⟨fun _ => ?_, fun z => absurd (Nat.le_refl g) z⟩
          exact vc_back P2_ok ok_X9_kindles [16,28,91,94,115,118,152] 8 t_X9_kindles_16 (i2) (by simp) (rfl)
        | succ j ihg =>
          intro g hg
          have i2 := ihg (g + 1) (by omega)
          rw [← kvF_s g6 (by omega) (by omega)] at i2
          clear ihg ih
          have e38 := f38 (w * 6 + g) (by omega)
          have ew : (w * 6 + g) / 6 = w := by omega
          by_cases hb : who >>> (nI w &&& 31) &&& nI 1 = nI 1
          · have hb' := eq_true hb
            have kv : kvV B who (w * 6 + g) = B 7 (w * 6 + g) := if_pos (by rw [ew]; exact hb)
            rw [kv] at i2
            (try simp only [↓w_X9_kindles_0, ↓w_X9_kindles_16, ↓w_X9_kindles_28, ↓w_X9_kindles_77, ↓w_X9_kindles_78, ↓w_X9_kindles_85, ↓w_X9_kindles_91, ↓w_X9_kindles_94, ↓w_X9_kindles_115, ↓w_X9_kindles_118, ↓w_X9_kindles_152, ↓w_X9_kindles_158, ↓v_X9_kindles_16, ↓v_X9_kindles_28, ↓v_X9_kindles_77, ↓v_X9_kindles_78, ↓v_X9_kindles_85, ↓v_X9_kindles_91, ↓v_X9_kindles_94, ↓v_X9_kindles_115, ↓v_X9_kindles_118, ↓v_X9_kindles_152, ↓v_X9_kindles_158, ↓b_aload_n, ↓b_bipush, ↓b_callS2_1, ↓b_callV1_0, ↓b_callV1_1, ↓b_callV3_0, ↓b_getA, ↓b_goto, ↓b_iadd, ↓b_iaload, ↓n_iastore, ↓b_ic_ge, ↓b_iconst, ↓b_if_eq, ↓b_if_ne, ↓n_iinc, ↓b_iload, ↓b_iload_n, ↓n_istore, ↓b_sipush, ↓b_zret, ↓ldI_hit, ↓ldI_skip, ↓ldL_hit, ↓ldL_skip, ↓ldA_hit, ↓ldA_skip, ↓ldelK_nil, ↓ldelK_hit, ↓ldelK_skipI, ↓ldelK_skipA, ↓ldelK_skipL, qP2_X9_cell, qP2_X9_goods, qP2_X9_has, qP2_X9_hour, qP2_X9_layRule, qP2_X9_start, qP2_X9_works, ↓bI_b, bI_0, nnot, lget_hit, lget_skip, ldel_nil, ldel_hit, ldel_skipI, ldel_skipA, ldel_skipL, ldel2_nil, ldel2_hit, ldel2_hit2, ldel2_skipI, ldel2_skipA, ldel2_skipL, vc_0, mCat_nil, mCat_I, mCat_L, mCat_A, mRcv_A, mArg_nil, mArg_I, mArg_L, mArg_A, tsg, swt_nil, swt_cons, lkw_nil, lkw_cons, ↓reduceIte, Nat.reduceAdd, Nat.reduceEqDiff, Nat.reduceLeDiff, Nat.reduceMul, true_and, and_true, and_self, List.mem_cons, List.not_mem_nil, or_false, or_self, false_or, true_implies, false_implies, not_true_eq_false, not_false_eq_true, nI00, nI10, nI01, nI11, forall_const, implies_true, hb'])
            (try simp (disch := omega) only [ixq, ixz, sb_in, sb_in0, upI_sb, upI_sb0, sb_out, nI_add, nI_mul, nI_subq, Nat.zero_add, forall_eq, u2_at, u2_row, upd_at, upd_ne, nI0b, nI1b, nI00, nI10, nI01, nI11, true_implies, false_implies, not_true_eq_false, not_false_eq_true, and_true, true_and, implies_true, q0, nI_lq, up_row, u2_vup, e38])
            refine ⟨fun z => by omega, fun _ => ?_⟩
            exact vc_back P2_ok ok_X9_kindles [16,28,91,94,115,118,152] 8 t_X9_kindles_28 (i2) (by simp) (rfl)
          · have hb' := eq_false hb
            have kv : kvV B who (w * 6 + g) = nI 0 := if_neg (by rw [ew]; exact hb)
            rw [kv] at i2
            (try simp only [↓w_X9_kindles_0, ↓w_X9_kindles_16, ↓w_X9_kindles_28, ↓w_X9_kindles_77, ↓w_X9_kindles_78, ↓w_X9_kindles_85, ↓w_X9_kindles_91, ↓w_X9_kindles_94, ↓w_X9_kindles_115, ↓w_X9_kindles_118, ↓w_X9_kindles_152, ↓w_X9_kindles_158, ↓v_X9_kindles_16, ↓v_X9_kindles_28, ↓v_X9_kindles_77, ↓v_X9_kindles_78, ↓v_X9_kindles_85, ↓v_X9_kindles_91, ↓v_X9_kindles_94, ↓v_X9_kindles_115, ↓v_X9_kindles_118, ↓v_X9_kindles_152, ↓v_X9_kindles_158, ↓b_aload_n, ↓b_bipush, ↓b_callS2_1, ↓b_callV1_0, ↓b_callV1_1, ↓b_callV3_0, ↓b_getA, ↓b_goto, ↓b_iadd, ↓b_iaload, ↓n_iastore, ↓b_ic_ge, ↓b_iconst, ↓b_if_eq, ↓b_if_ne, ↓n_iinc, ↓b_iload, ↓b_iload_n, ↓n_istore, ↓b_sipush, ↓b_zret, ↓ldI_hit, ↓ldI_skip, ↓ldL_hit, ↓ldL_skip, ↓ldA_hit, ↓ldA_skip, ↓ldelK_nil, ↓ldelK_hit, ↓ldelK_skipI, ↓ldelK_skipA, ↓ldelK_skipL, qP2_X9_cell, qP2_X9_goods, qP2_X9_has, qP2_X9_hour, qP2_X9_layRule, qP2_X9_start, qP2_X9_works, ↓bI_b, bI_0, nnot, lget_hit, lget_skip, ldel_nil, ldel_hit, ldel_skipI, ldel_skipA, ldel_skipL, ldel2_nil, ldel2_hit, ldel2_hit2, ldel2_skipI, ldel2_skipA, ldel2_skipL, vc_0, mCat_nil, mCat_I, mCat_L, mCat_A, mRcv_A, mArg_nil, mArg_I, mArg_L, mArg_A, tsg, swt_nil, swt_cons, lkw_nil, lkw_cons, ↓reduceIte, Nat.reduceAdd, Nat.reduceEqDiff, Nat.reduceLeDiff, Nat.reduceMul, true_and, and_true, and_self, List.mem_cons, List.not_mem_nil, or_false, or_self, false_or, true_implies, false_implies, not_true_eq_false, not_false_eq_true, nI00, nI10, nI01, nI11, forall_const, implies_true, hb'])
            (try simp (disch := omega) only [ixq, ixz, sb_in, sb_in0, upI_sb, upI_sb0, sb_out, nI_add, nI_mul, nI_subq, Nat.zero_add, forall_eq, u2_at, u2_row, upd_at, upd_ne, nI0b, nI1b, nI00, nI10, nI01, nI11, true_implies, false_implies, not_true_eq_false, not_false_eq_true, and_true, true_and, implies_true, q0, nI_lq, up_row, u2_vup])
            refine ⟨fun z => by omega, fun _ => ?_⟩
            exact vc_back P2_ok ok_X9_kindles [16,28,91,94,115,118,152] 8 t_X9_kindles_28 (i2) (by simp) (rfl)
      have i2 := inner G 0 (by omega)
      clear inner ih
      (try simp only [↓w_X9_kindles_0, ↓w_X9_kindles_16, ↓w_X9_kindles_77, ↓w_X9_kindles_78, ↓w_X9_kindles_85, ↓w_X9_kindles_91, ↓w_X9_kindles_94, ↓w_X9_kindles_115, ↓w_X9_kindles_118, ↓w_X9_kindles_152, ↓w_X9_kindles_158, ↓v_X9_kindles_16, ↓v_X9_kindles_28, ↓v_X9_kindles_77, ↓v_X9_kindles_78, ↓v_X9_kindles_85, ↓v_X9_kindles_91, ↓v_X9_kindles_94, ↓v_X9_kindles_115, ↓v_X9_kindles_118, ↓v_X9_kindles_152, ↓v_X9_kindles_158, ↓b_aload_n, ↓b_bipush, ↓b_callS2_1, ↓b_callV1_0, ↓b_callV1_1, ↓b_callV3_0, ↓b_getA, ↓b_goto, ↓b_iadd, ↓b_iaload, ↓n_iastore, ↓b_ic_ge, ↓b_iconst, ↓b_if_eq, ↓b_if_ne, ↓n_iinc, ↓b_iload, ↓b_iload_n, ↓n_istore, ↓b_sipush, ↓b_zret, ↓ldI_hit, ↓ldI_skip, ↓ldL_hit, ↓ldL_skip, ↓ldA_hit, ↓ldA_skip, ↓ldelK_nil, ↓ldelK_hit, ↓ldelK_skipI, ↓ldelK_skipA, ↓ldelK_skipL, qP2_X9_cell, qP2_X9_goods, qP2_X9_has, qP2_X9_hour, qP2_X9_layRule, qP2_X9_start, qP2_X9_works, ↓bI_b, bI_0, nnot, lget_hit, lget_skip, ldel_nil, ldel_hit, ldel_skipI, ldel_skipA, ldel_skipL, ldel2_nil, ldel2_hit, ldel2_hit2, ldel2_skipI, ldel2_skipA, ldel2_skipL, vc_0, mCat_nil, mCat_I, mCat_L, mCat_A, mRcv_A, mArg_nil, mArg_I, mArg_L, mArg_A, tsg, swt_nil, swt_cons, lkw_nil, lkw_cons, ↓reduceIte, Nat.reduceAdd, Nat.reduceEqDiff, Nat.reduceLeDiff, Nat.reduceMul, true_and, and_true, and_self, List.mem_cons, List.not_mem_nil, or_false, or_self, false_or, true_implies, false_implies, not_true_eq_false, not_false_eq_true, nI00, nI10, nI01, nI11, forall_const, implies_true])
      (try simp (disch := omega) only [ixq, ixz, sb_in, sb_in0, upI_sb, upI_sb0, sb_out, nI_add, nI_mul, nI_subq, Nat.zero_add, forall_eq, u2_at, u2_row, upd_at, upd_ne, nI0b, nI1b, nI00, nI10, nI01, nI11, true_implies, false_implies, not_true_eq_false, not_false_eq_true, and_true, true_and, implies_true, q1, nI_lq, up_row])
      refine ⟨fun z => by omega, fun _ => ?_⟩
      exact i2
  have i2 := outer W 0 (by omega)
  rw [kvF_0, vup_id] at i2
  clear outer k91
  (try simp only [↓w_X9_kindles_0, ↓w_X9_kindles_28, ↓w_X9_kindles_77, ↓w_X9_kindles_78, ↓w_X9_kindles_85, ↓w_X9_kindles_91, ↓w_X9_kindles_94, ↓w_X9_kindles_115, ↓w_X9_kindles_118, ↓w_X9_kindles_152, ↓w_X9_kindles_158, ↓v_X9_kindles_16, ↓v_X9_kindles_28, ↓v_X9_kindles_77, ↓v_X9_kindles_78, ↓v_X9_kindles_85, ↓v_X9_kindles_91, ↓v_X9_kindles_94, ↓v_X9_kindles_115, ↓v_X9_kindles_118, ↓v_X9_kindles_152, ↓v_X9_kindles_158, ↓b_aload_n, ↓b_bipush, ↓b_callS2_1, ↓b_callV1_0, ↓b_callV1_1, ↓b_callV3_0, ↓b_getA, ↓b_goto, ↓b_iadd, ↓b_iaload, ↓n_iastore, ↓b_ic_ge, ↓b_iconst, ↓b_if_eq, ↓b_if_ne, ↓n_iinc, ↓b_iload, ↓b_iload_n, ↓n_istore, ↓b_sipush, ↓b_zret, ↓ldI_hit, ↓ldI_skip, ↓ldL_hit, ↓ldL_skip, ↓ldA_hit, ↓ldA_skip, ↓ldelK_nil, ↓ldelK_hit, ↓ldelK_skipI, ↓ldelK_skipA, ↓ldelK_skipL, qP2_X9_cell, qP2_X9_goods, qP2_X9_has, qP2_X9_hour, qP2_X9_layRule, qP2_X9_start, qP2_X9_works, ↓bI_b, bI_0, nnot, lget_hit, lget_skip, ldel_nil, ldel_hit, ldel_skipI, ldel_skipA, ldel_skipL, ldel2_nil, ldel2_hit, ldel2_hit2, ldel2_skipI, ldel2_skipA, ldel2_skipL, vc_0, mCat_nil, mCat_I, mCat_L, mCat_A, mRcv_A, mArg_nil, mArg_I, mArg_L, mArg_A, tsg, swt_nil, swt_cons, lkw_nil, lkw_cons, ↓reduceIte, Nat.reduceAdd, Nat.reduceEqDiff, Nat.reduceLeDiff, Nat.reduceMul, true_and, and_true, and_self, List.mem_cons, List.not_mem_nil, or_false, or_self, false_or, true_implies, false_implies, not_true_eq_false, not_false_eq_true, nI00, nI10, nI01, nI11, forall_const, implies_true])
  (try simp (disch := omega) only [ixq, ixz, sb_in, sb_in0, upI_sb, upI_sb0, sb_out, nI_add, nI_mul, nI_subq, Nat.zero_add, forall_eq, u2_at, u2_row, upd_at, upd_ne, nI0b, nI1b, nI00, nI10, nI01, nI11, true_implies, false_implies, not_true_eq_false, not_false_eq_true, and_true, true_and, implies_true])
  exact i2
end MKj
