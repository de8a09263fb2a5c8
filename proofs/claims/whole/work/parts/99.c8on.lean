section MOn
variable {X : mC} {h x m : Nat} {μ : Mem} {K : MV → Mem → Prop} {G W N n L : Nat} {B V R P : Bk} {f q : Nat → Int32}
theorem HB_u {k j : Nat} {y : Int32} (hk : k = 11 ∨ k = 1 ∧ ∃ v s, v ≤ s ∧ s ≤ 200 ∧ y = nI v ∧ B 8 j = nI s) (h : HB G W N n B V R) : HB G W N n B (u2 V k j y) (u2 R k j y) := by
  obtain ⟨h1, h2, h3, h4, h5, h6, h7, h8, h9⟩ := h
  have rv' : ∀ l, l ≠ 1 → l ≠ 11 → u2 V k j y l = V l := fun l a b => u2_row (by omega)
  have rr : ∀ l, l ≠ 1 → l ≠ 11 → u2 R k j y l = R l := fun l a b => u2_row (by omega)
  refine ⟨fun l i hl hi => ?_, fun g hg => ?_, fun g hg hg2 => ?_, ?_, ?_, ?_, ?_, fun w a b => ?_, fun w hw => ?_⟩
  · by_cases e : l = k
    · subst e
      rw [u2_at, u2_at]
      by_cases ei : i = j
      · rw [ei, upd_at, upd_at]
      · rw [upd_ne ei, upd_ne ei]; exact h1 l i hl hi
    · rw [u2_row e, u2_row e]; exact h1 l i hl hi
  · rw [rv' 15 (by decide) (by decide), rv' 16 (by decide) (by decide), rv' 17 (by decide) (by decide), rr 5 (by decide) (by decide), rr 6 (by decide) (by decide), rr 7 (by decide) (by decide)]
    exact h2 g hg
  · rw [rv' 15 (by decide) (by decide), rr 5 (by decide) (by decide)]
    exact h3 g hg hg2
  · rcases hk with rfl | ⟨rfl, v, s, a, b, c, d⟩
    · exact RI_o h4 (by decide) (by decide) (by decide)
    · rw [c]
      exact RI_1 h4 a b d
  · rw [rr 0 (by decide) (by decide)]; exact h5
  · rw [rv' 0 (by decide) (by decide)]; exact h6
  · rw [rv' 18 (by decide) (by decide)]; exact h7
  · rw [rv' 13 (by decide) (by decide)]; exact h8 w a b
  · have z := h9 w hw
    unfold HBw at z ⊢
    rw [rv' 13 (by decide) (by decide), rv' 12 (by decide) (by decide), rv' 14 (by decide) (by decide), rr 8 (by decide) (by decide), rr 9 (by decide) (by decide), rr 0 (by decide) (by decide)]
    exact z
theorem bring_rel {k : Nat} (g6 : G ≤ 6) (w8 : W ≤ 8) (hF : FB G W f B) (h : HB G W N n B V R) (ha : ACT G W P k (fun j => q (279 + 5 * k + j))) : HB G W N n B (bringV f q (nI n) k V) (bringS B P k R) := by
  have r0 : R 0 0 = nI n := h.2.2.2.2.1
  rcases ha with ⟨a1, a2, _⟩ | ⟨a1, a2, w, g, a, hw, hg, ha, f1, f2, p3, p4, f3, f4⟩
  · have a2 : q (279 + 5 * k) = nI 0 := a2
    unfold bringV
    rw [bringS_neg (fun z => by rw [a1] at z; exact absurd z.1 (by decide)), if_neg (fun z => by rw [a2] at z; exact absurd z.1 (by decide))]
    exact h
  · have a2 : q (279 + 5 * k) = nI 1 := a2
    have f1 : q (279 + 5 * k + 1) = nI w := f1
    have f2 : q (279 + 5 * k + 2) = nI g := f2
    have f3 : q (279 + 5 * k + 3) = nI a := f3
    have f4 : q (279 + 5 * k + 4) = P 5 k := f4
    by_cases hc : P 5 k = nI n
    · have hc48 : w * 6 + g < 48 := by omega
      rw [bringS_pos ⟨a1, hc.trans r0.symm⟩, p3, p4, nI_clamp (by omega)]
      unfold bringV bringF
      rw [if_pos ⟨a2, f4.trans hc⟩, f1, f2, f3, cl_nI (by omega), cl_nI (by omega)]
      dsimp only
      have e1 : V 1 (w * 6 + g) = R 1 (w * 6 + g) := h.1 1 _ (by omega) (by rw [show szR 6 1 = 48 by decide]; exact hc48)
      obtain ⟨v, s, v1, v2, v3, v4, _⟩ := h.2.2.2.1.2 (w * 6 + g) hc48
      have e8 : f (86 + (w * 6 + g)) = nI s := (hF.2.2.2.2.1 _ hc48).2.1.trans v4
      have md : (w * 6 + g) % 6 = g := by omega
      rw [e1, e8, v3, v4, md, nI_subq v1]
      have m1 : (if nI a < nI (s - v) then nI a else nI (s - v)) = nI (min a (s - v)) := mn1 (by omega) (by omega)
      have m2 : (if nI (s - v) < nI a then nI (s - v) else nI a) = nI (min a (s - v)) := mn2 (by omega) (by omega)
      rw [m1, m2, nI_add]
      have hb := HB_u (k := 1) (j := w * 6 + g) (y := nI (v + min a (s - v))) (Or.inr ⟨rfl, v + min a (s - v), s, by omega, v2, rfl, v4⟩) h
      generalize hV : u2 V 1 (w * 6 + g) (nI (v + min a (s - v))) = V1 at hb ⊢
      generalize hR : u2 R 1 (w * 6 + g) (nI (v + min a (s - v))) = R1 at hb ⊢
      have g11 : ∀ (V R : Bk), HB G W N n B V R → ∀ j, j < 36 → V 11 j = R 11 j := fun V R h j hj => h.1 11 j (by omega) (by rw [show szR 6 11 = 36 by decide]; exact hj)
      have c1 : ∀ j, j < 36 → V 11 j = R 11 j := g11 V R h
      have hb2 := HB_u (k := 11) (j := 6 + g) (y := R 11 (6 + g) + nI a) (Or.inl rfl) hb
      have hb3 := HB_u (k := 11) (j := 24 + g) (y := R 11 (24 + g) + (nI a - nI (min a (s - v)))) (Or.inl rfl) hb2
      rw [c1 (6 + g) (by omega), c1 (24 + g) (by omega)]
      exact hb3
    · unfold bringV
      rw [bringS_neg (fun z => hc (z.2.trans r0)), if_neg (fun z => hc (f4.symm.trans z.2))]
      exact h
theorem stop_bit {hour : Int32} {w : Nat} (w8 : W ≤ 8) (hw : w < W) (hl : ∀ i, i < L → ACT G W P i (fun j => q (279 + 5 * i + j))) : (fo L (stopF P hour) (nI 0) >>> (nI w &&& 31) &&& nI 1 = nI 1) ↔ ∃ k, k < L ∧ q (279 + 5 * k) = 0 ∧ q (279 + 5 * k + 1) = nI w ∧ q (279 + 5 * k + 2) ≤ hour ∧ hour ≤ q (279 + 5 * k + 3) := by
  induction L with
  | zero =>
    have : ¬ nI 0 >>> (nI w &&& 31) &&& nI 1 = nI 1 := by
      have h2 : w = 0 ∨ w = 1 ∨ w = 2 ∨ w = 3 ∨ w = 4 ∨ w = 5 ∨ w = 6 ∨ w = 7 := by omega
      rcases h2 with rfl | rfl | rfl | rfl | rfl | rfl | rfl | rfl <;> decide
    exact ⟨fun z => absurd z this, fun ⟨k, hk, _⟩ => absurd hk (Nat.not_lt_zero k)⟩
  | succ L ih =>
    have ih := ih (fun i hi => hl i (by omega))
    have ext : (∃ k, k < L + 1 ∧ q (279 + 5 * k) = 0 ∧ q (279 + 5 * k + 1) = nI w ∧ q (279 + 5 * k + 2) ≤ hour ∧ hour ≤ q (279 + 5 * k + 3)) ↔ ((q (279 + 5 * L) = 0 ∧ q (279 + 5 * L + 1) = nI w ∧ q (279 + 5 * L + 2) ≤ hour ∧ hour ≤ q (279 + 5 * L + 3)) ∨ ∃ k, k < L ∧ q (279 + 5 * k) = 0 ∧ q (279 + 5 * k + 1) = nI w ∧ q (279 + 5 * k + 2) ≤ hour ∧ hour ≤ q (279 + 5 * k + 3)) := by
      constructor
      · rintro ⟨k, hk, z⟩
        by_cases e : k = L
        · rw [e] at z; exact Or.inl z
        · exact Or.inr ⟨k, by omega, z⟩
      · rintro (z | ⟨k, hk, z⟩)
        · exact ⟨L, by omega, z⟩
        · exact ⟨k, by omega, z⟩
    rw [ext, ← ih, fo_s]
    generalize fo L (stopF P hour) (nI 0) = s
    rcases hl L (by omega) with ⟨a1, a2, v, hv, f1, p2, f2, f3⟩ | ⟨a1, a2, _⟩
    · have a2 : q (279 + 5 * L) = nI 0 := a2
      have f1 : q (279 + 5 * L + 1) = nI v := f1
      have f2 : q (279 + 5 * L + 2) = P 5 L := f2
      have f3 : q (279 + 5 * L + 3) = P 6 L := f3
      rw [a2, f1, f2, f3, nI_eqq (by omega) (by omega)]
      by_cases hc : P 5 L ≤ hour ∧ hour ≤ P 6 L
      · rw [stopF_pos ⟨a1, hc.1, hc.2⟩, p2, bit_or (by omega) (by omega)]
        exact ⟨fun z => z.elim (fun e => Or.inl ⟨rfl, e.symm, hc.1, hc.2⟩) Or.inr, fun z => z.elim (fun e => Or.inl e.2.1.symm) Or.inr⟩
      · rw [stopF_neg (fun z => hc z.2)]
        exact ⟨Or.inr, fun z => z.elim (fun e => absurd e.2.2 hc) id⟩
    · have a2 : q (279 + 5 * L) = nI 1 := a2
      rw [a2, stopF_neg (fun z => by rw [a1] at z; exact absurd z.1 (by decide))]
      exact ⟨Or.inr, fun z => z.elim (fun e => absurd e.1 (by decide)) id⟩
theorem HB_vg {r base : Nat} {Q : Bk} (w8 : W ≤ 8) (g6 : G ≤ 6) (h : HB G W N n B V R) : HB G W N n B (vw r base (rb r base Q V)) R :=
  HB_eq h w8 g6 eqB_r eqR_r (fun k j a b c hk hj => by
    have e := ek_lt a b c hk hj
    show (if k = 5 then rb r base Q V 12 j else if k = 6 then rb r base Q V 13 j else if k = 7 then rb r base Q V 14 j else rb r base Q V r (base + ek k j)) = V k j
    rw [if_neg a, if_neg b, if_neg c, rb_seg e.2.2, e.2.1])
theorem HB_sv {Q : Bk} (w8 : W ≤ 8) (g6 : G ≤ 6) (h : HB G W N n B (vw 2 621 Q) R) : HB G W N n B (sv (Q 2)) R :=
  HB_eq h w8 g6 eqB_r eqR_r (fun k j a b c _ _ => by
    unfold vw sv
    rw [if_neg a, if_neg b, if_neg c])
/-- an HOUR by the PLAN -/
def onS (G W L : Nat) (B P R : Bk) : Bk := passF G W B ((nI 1 <<< (nI W &&& 31) - nI 1) &&& (fo L (stopF P (fo L (bringS B P) R 0 0)) (nI 0) ^^^ -1)) (fo L (bringS B P) R)
def OI (G W n : Nat) (q : Nat → Int32) (B Q0 R Q : Bk) : Prop := (∀ j, j < 621 → Q 2 j = q j) ∧ FB G W (Q 10) B ∧ (Q 10 0 = nI G ∧ Q 10 1 = nI W) ∧ (Q 0 27 = nI 0 ∧ Q 0 28 = -1 ∧ Q 0 29 = nI 1) ∧ HB G W (864 * n) n B (vw 2 621 Q) R ∧ (∀ k, k = 1 ∨ k = 5 ∨ k = 9 ∨ k = 18 → Q k = Q0 k) ∧ ∀ j, j = 2 ∨ j = 10 ∨ j = 33 ∨ j = 35 ∨ j = 38 → Q 0 j = Q0 0 j
theorem d_hourO {Q Q0 : Bk} (g6 : G ≤ 6) (w8 : W ≤ 8) (l20 : L ≤ 20) (hq : q 278 = nI L) (hl : ∀ i, i < L → ACT G W P i (fun j => q (279 + 5 * i + j))) (hn : n < 2000) (hT : OI G W n q B Q0 R Q) (hK : ∀ Q2, OI G W (n + 1) q B Q0 (onS G W L B P R) Q2 → K (.inl 0) (sb μ m 21 Q2)) : mMet X (h + 4) m_X9_hour [.inr (.inr (8, 0, m)), .inr (.inr (16, 925, m + 2)), .inl (nI 621)] (sb μ m 21 Q) K := by
  obtain ⟨t1, t2, ⟨t3, t4⟩, ⟨t5, t6, t7⟩, t8, t9, t10⟩ := hT
  have v0 : vw 2 621 Q 0 0 = nI n := t8.2.2.2.2.2.1
  have e := rb_self (r := 2) (base := 621) (Q := Q) (by decide)
  have hl' : ∀ i, i < L → ACT G W P i (fun j => Q 2 (279 + 5 * i + j)) := fun i hi => ACT_ext (hl i hi) (fun _ _ _ => rfl) (fun j hj => t1 _ (by omega))
  have hB := fo_rel (P := fun _ V R => HB G W (864 * n) n B V R) (fa := bringV (Q 10) (Q 2) (nI n)) (fb := bringS B P) L t8 (fun i x y hi hx => bring_rel g6 w8 t2 hx (hl' i hi))
  have r0 : fo L (bringS B P) R 0 0 = nI n := hB.2.2.2.2.1
  have hH := hour_rel (free := (nI 1 <<< (nI W &&& 31) - nI 1) &&& (fo L (stopF P (nI n)) (nI 0) ^^^ -1)) t2 (by omega) g6 w8 (by omega) hB
  rw [show 864 * n + 864 = 864 * (n + 1) by omega] at hH
  have ho : passF G W B ((nI 1 <<< (nI W &&& 31) - nI 1) &&& (fo L (stopF P (nI n)) (nI 0) ^^^ -1)) (fo L (bringS B P) R) = onS G W L B P R := by unfold onS; rw [r0]
  rw [ho] at hH
  have key := c_hourR (X := X) (h := h) (m := m) (r := 2) (base := 621) (n := 925) (free := (nI 1 <<< (nI W &&& 31) - nI 1) &&& (fo L (stopF P (nI n)) (nI 0) ^^^ -1)) (V := vw 2 621 Q) (V0 := fo L (bringV (Q 10) (Q 2) (nI n)) (vw 2 621 Q)) (μ := μ) (Q := Q) (K := K) (L := L) (Or.inl ⟨rfl, rfl⟩) (by omega) (by omega) t3 g6 t4 w8 (by rw [t1 _ (by omega)]; exact hq) l20 (fun k hk z => by
    rcases hl' k hk with ⟨_, b, _⟩ | ⟨_, _, w, g, a, c1, c2, _, c4, c5, _⟩
    · have b : Q 2 (279 + 5 * k) = nI 0 := b
      rw [b] at z
      exact absurd z (by decide)
    · exact ⟨w, g, by omega, by omega, c4, c5⟩) (fun w hw => by
    rw [v0, t5, t6, t7]
    have y : ¬ nI n / nI 12 = -1 := by rw [pk_div (by omega) (by decide) (by decide), nI_m1 (by omega)]; exact id
    have b := (bit_free (k := 0) w8 hw (by omega)).mpr
    have z : ¬ nI 0 >>> (nI w &&& 31) &&& nI 1 = nI 1 := by
      rw [bit_iff (by omega)]
      have h2 : w = 0 ∨ w = 1 ∨ w = 2 ∨ w = 3 ∨ w = 4 ∨ w = 5 ∨ w = 6 ∨ w = 7 := by omega
      rcases h2 with rfl | rfl | rfl | rfl | rfl | rfl | rfl | rfl <;> decide
    have s := stop_bit (L := L) (hour := nI n) w8 hw hl'
    have st := bit_st (set := fo L (stopF P (nI n)) (nI 0)) w8 hw
    have sp : stpP (Q 2) (nI 1) L (nI w) (nI n) ↔ ∃ k, k < L ∧ Q 2 (279 + 5 * k) = 0 ∧ Q 2 (279 + 5 * k + 1) = nI w ∧ Q 2 (279 + 5 * k + 2) ≤ nI n ∧ nI n ≤ Q 2 (279 + 5 * k + 3) := ⟨fun ⟨k, a, _, c⟩ => ⟨k, a, c⟩, fun ⟨k, a, c⟩ => ⟨k, a, by decide, c⟩⟩
    rw [sp, ← s, ← st]
    exact ⟨fun a => Classical.byContradiction a.2.2, fun a => ⟨z, y, fun c => c a⟩⟩) (by rw [v0, if_neg (show ¬ Q 0 29 = 0 by rw [t7]; decide)])
  rw [v0, e] at key
  generalize hourV G W (Q 10) ((nI 1 <<< (nI W &&& 31) - nI 1) &&& (fo L (stopF P (nI n)) (nI 0) ^^^ -1)) (nI n) (fo L (bringV (Q 10) (Q 2) (nI n)) (vw 2 621 Q)) = S at key hH
  refine key (hK _ ⟨fun j hj => ?_, ?_, ⟨?_, ?_⟩, ⟨?_, ?_, ?_⟩, HB_vg w8 g6 hH, fun k hk => ?_, fun j hj => ?_⟩)
  · rw [rb_lo hj]; exact t1 j hj
  · rw [rb_else (by decide) (by decide) (by decide) (by decide)]; exact t2
  · rw [rb_else (by decide) (by decide) (by decide) (by decide)]; exact t3
  · rw [rb_else (by decide) (by decide) (by decide) (by decide)]; exact t4
  · rw [rb_else (by decide) (by decide) (by decide) (by decide)]; exact t5
  · rw [rb_else (by decide) (by decide) (by decide) (by decide)]; exact t6
  · rw [rb_else (by decide) (by decide) (by decide) (by decide)]; exact t7
  · rw [rb_else (by omega) (by omega) (by omega) (by omega)]; exact t9 k hk
  · rw [rb_else (by decide) (by decide) (by decide) (by decide)]; exact t10 j hj
theorem f_on {t : Int32} (hx : x + 164 = m) (hr : Rel x m μ) : PAIR X (h + 9) m_X8_on m_X9_on x m [.inl t] μ := by
  obtain ⟨G, W, rb', pl, sn, rn⟩ := id hr.2.2.1
  have b1 : μ.1 (x + 4) 1 = nI W := rb'.b1
  have g6 := rb'.g6
  have w8 := rb'.w8
  by_cases ht : ∃ d, d ≤ 200 ∧ t = nI d
  · obtain ⟨d, hd, rfl⟩ := ht
    have y1 : (nI d < 0) = False := eq_false (nI_pos (by omega))
    have y2 : (nI 200 < nI d) = False := by rw [nI_ltq (by omega) (by omega)]; exact eq_false (by omega)
    have y3 : (nI 0 ≤ nI d ∧ nI d ≤ nI 200) = True := by rw [nI_lq (by omega) (by omega), nI_lq (by omega) (by omega)]; exact eq_true ⟨by omega, hd⟩
    rcases rn with ⟨e1, e2⟩ | ⟨n, n1, n2, n3, n4⟩
    · have e1' : μ.1 (x + 50) 0 = -1 := e1
      have e2' : bk μ m 2 621 = nI 0 := e2
      refine get (.inl (-1)) hx hr (fun K hK => ?_) (fun K hK => ?_)
      · (refine vc_met2 P2_ok ok_X8_on cm_X8_on [20,38] 8 t_X8_on_0 (Nat.le_of_ble_eq_true rfl) ?_; simp only [mArg_nil, mArg_I, mArg_L, mArg_A, Nat.reduceAdd])
        (try simp only [↓w_X8_on_0, ↓w_X8_on_18, ↓w_X8_on_99, ↓v_X8_on_18, ↓v_X8_on_20, ↓v_X8_on_38, ↓v_X8_on_99, ↓b_aload_n, ↓b_callV1_1, ↓b_callV2_1, ↓b_callV3_0, ↓b_getA, ↓b_getI, ↓b_goto, ↓b_iand, ↓b_ic_ge, ↓b_ic_gt, ↓b_iconst, ↓b_if_lt, ↓b_if_ne, ↓n_iinc, ↓b_iload_n, ↓b_iret, ↓n_istore_n, ↓n_isub, ↓b_ixor, ↓b_min, ↓b_sipush, ↓ldI_hit, ↓ldI_skip, ↓ldL_hit, ↓ldL_skip, ↓ldA_hit, ↓ldA_skip, ↓ldelK_nil, ↓ldelK_hit, ↓ldelK_skipI, ↓ldelK_skipA, ↓ldelK_skipL, qP2_J6_bitCount_0f7a4, qP2_X0_allWorks, qP2_X3_bringAll, qP2_X3_stoppedAt, qP2_X4_pass, qP2_X8_isRunning, ↓bI_b, bI_0, nnot, lget_hit, lget_skip, ldel_nil, ldel_hit, ldel_skipI, ldel_skipA, ldel_skipL, ldel2_nil, ldel2_hit, ldel2_hit2, ldel2_skipI, ldel2_skipA, ldel2_skipL, vc_0, mCat_nil, mCat_I, mCat_L, mCat_A, mRcv_A, mArg_nil, mArg_I, mArg_L, mArg_A, tsg, swt_nil, swt_cons, lkw_nil, lkw_cons, ↓reduceIte, Nat.reduceAdd, Nat.reduceEqDiff, Nat.reduceLeDiff, Nat.reduceMul, true_and, and_true, and_self, List.mem_cons, List.not_mem_nil, or_false, or_self, false_or, true_implies, false_implies, not_true_eq_false, not_false_eq_true, nI00, nI10, nI01, nI11, forall_const, implies_true, y1, y2])
        (try simp (disch := omega) only [ixq, ixz, sb_in, sb_in0, upI_sb, upI_sb0, sb_out, nI_add, nI_mul, nI_subq, Nat.zero_add, forall_eq, u2_at, u2_row, upd_at, upd_ne, nI0b, nI1b, nI00, nI10, nI01, nI11, true_implies, false_implies, not_true_eq_false, not_false_eq_true, and_true, true_and, implies_true, e1'])
        exact hK
      · (refine vc_met2 P2_ok ok_X9_on cm_X9_on [25,36] 8 t_X9_on_0 (Nat.le_of_ble_eq_true rfl) ?_; simp only [mArg_nil, mArg_I, mArg_L, mArg_A, Nat.reduceAdd])
        (try simp only [↓w_X9_on_0, ↓w_X9_on_23, ↓w_X9_on_72, ↓v_X9_on_23, ↓v_X9_on_25, ↓v_X9_on_36, ↓v_X9_on_72, ↓b_aload_n, ↓b_callS3_1, ↓b_callV1_0, ↓b_callV1_1, ↓b_callV3_0, ↓b_getA, ↓b_goto, ↓b_iaload, ↓b_ic_ge, ↓b_iconst, ↓b_if_eq, ↓b_if_ne, ↓n_iinc, ↓b_iload_n, ↓b_iret, ↓n_istore_n, ↓n_putI, ↓n_putZ, ↓b_sipush, ↓ldI_hit, ↓ldI_skip, ↓ldL_hit, ↓ldL_skip, ↓ldA_hit, ↓ldA_skip, ↓ldelK_nil, ↓ldelK_hit, ↓ldelK_skipI, ↓ldelK_skipA, ↓ldelK_skipL, qP2_X9_hour, qP2_X9_isIn, qP2_X9_isRun, qP2_X9_layRule, ↓bI_b, bI_0, nnot, lget_hit, lget_skip, ldel_nil, ldel_hit, ldel_skipI, ldel_skipA, ldel_skipL, ldel2_nil, ldel2_hit, ldel2_hit2, ldel2_skipI, ldel2_skipA, ldel2_skipL, vc_0, mCat_nil, mCat_I, mCat_L, mCat_A, mRcv_A, mArg_nil, mArg_I, mArg_L, mArg_A, tsg, swt_nil, swt_cons, lkw_nil, lkw_cons, ↓reduceIte, Nat.reduceAdd, Nat.reduceEqDiff, Nat.reduceLeDiff, Nat.reduceMul, true_and, and_true, and_self, List.mem_cons, List.not_mem_nil, or_false, or_self, false_or, true_implies, false_implies, not_true_eq_false, not_false_eq_true, nI00, nI10, nI01, nI11, forall_const, implies_true])
        (try simp (disch := omega) only [ixq, ixz, sb_in, sb_in0, upI_sb, upI_sb0, sb_out, nI_add, nI_mul, nI_subq, Nat.zero_add, forall_eq, u2_at, u2_row, upd_at, upd_ne, nI0b, nI1b, nI00, nI10, nI01, nI11, true_implies, false_implies, not_true_eq_false, not_false_eq_true, and_true, true_and, implies_true, e2', z0])
        exact hK
    · have e1' : μ.1 (x + 50) 0 = nI n := n4.2.2.2.2.1
      have e1n : (μ.1 (x + 50) 0 = -1) = False := by rw [e1', nI_m1 (by omega)]
      have e2' : bk μ m 2 621 = nI 1 := n3
      obtain ⟨L, l20, p0, l2, hl⟩ := pl
      have pl : PL G W (bk μ (x + 28)) (μ.1 (m + 2)) := ⟨L, l20, p0, l2, hl⟩
      generalize hK : (fun (a' : MV) (μ1 : Mem) => mMet X (h + 9) m_X9_on [.inr (.inr (8, 0, m)), .inl (nI d)] μ1 (fun b μ2 => a' = b ∧ Rel x m μ2)) = K
      show mMet X (h + 9) m_X8_on [.inr (.inr (7, 0, x)), .inl (nI d)] μ _
      rw [hK]
      have end8 : K (.inl (nI (min d (200 - n)))) (sb μ (x + 50) 12 (fo (min d (200 - n)) (fun _ => onS G W L (bk μ (x + 4)) (bk μ (x + 28))) (bk μ (x + 50)))) := by
        rw [← hK, sb_bk (j := m) (by omega)]
        generalize hK2 : (fun (b' : MV) (μ2 : Mem) => (.inl (nI (min d (200 - n))) : MV) = b' ∧ Rel x m μ2) = K2
        have endR : ∀ Q', OI G W (n + min d (200 - n)) (μ.1 (m + 2)) (bk μ (x + 4)) (bk μ m) (fo (min d (200 - n)) (fun _ => onS G W L (bk μ (x + 4)) (bk μ (x + 28))) (bk μ (x + 50))) Q' → K2 (.inl (nI (min d (200 - n)))) (sb (sb μ (x + 50) 12 (fo (min d (200 - n)) (fun _ => onS G W L (bk μ (x + 4)) (bk μ (x + 28))) (bk μ (x + 50)))) m 21 Q') := fun Q' hq => by
          rw [← hK2]
          obtain ⟨t1, t2, ⟨t3, t4⟩, ⟨t5, t6, t7⟩, t8, t9, t10⟩ := hq
          have hs := HB_sv w8 g6 t8
          refine ⟨rfl, Rel_run hx hr rb' pl sn (Or.inr ⟨n + min d (200 - n), by omega, n2, hs.2.2.2.2.2.2.1, hs⟩) t1 (fun k hk => t9 k hk) (fun j hj => t10 j hj)⟩
        (refine vc_met2 P2_ok ok_X9_on cm_X9_on [25,36] 8 t_X9_on_0 (Nat.le_of_ble_eq_true rfl) ?_; simp only [mArg_nil, mArg_I, mArg_L, mArg_A, Nat.reduceAdd])
        have main : ∀ i j Q', j + i = min d (200 - n) → OI G W (n + j) (μ.1 (m + 2)) (bk μ (x + 4)) (bk μ m) (fo j (fun _ => onS G W L (bk μ (x + 4)) (bk μ (x + 28))) (bk μ (x + 50))) Q' → bb X P2 m_X9_on (h + 8) K2 (vc X P2 m_X9_on (h + 8) K2 k_X9_on [25, 36] 8) s_X9_on_36 [(2, .inl (nI j)), (0, .inr (.inr (8, 0, m))), (1, .inl (nI d))] [] (sb (sb μ (x + 50) 12 (fo (min d (200 - n)) (fun _ => onS G W L (bk μ (x + 4)) (bk μ (x + 28))) (bk μ (x + 50)))) m 21 Q') := by
          intro i
          generalize sb μ (x + 50) 12 (fo (min d (200 - n)) (fun _ => onS G W L (bk μ (x + 4)) (bk μ (x + 28))) (bk μ (x + 50))) = μ1 at endR ⊢
          induction i with
          | zero =>
            intro j Q' hj hq
            have h622 : Q' 2 622 = nI (n + j) := hq.2.2.2.2.1.2.2.2.2.2.1
            have ej : j = min d (200 - n) := by omega
            have fin := endR Q' (by rw [← ej]; exact hq)
            rw [← ej] at fin
            by_cases hd2 : d ≤ j
            · (try simp only [↓w_X9_on_0, ↓w_X9_on_23, ↓w_X9_on_25, ↓w_X9_on_36, ↓w_X9_on_72, ↓v_X9_on_23, ↓v_X9_on_25, ↓v_X9_on_36, ↓v_X9_on_72, ↓b_aload_n, ↓b_callS3_1, ↓b_callV1_0, ↓b_callV1_1, ↓b_callV3_0, ↓b_getA, ↓b_goto, ↓b_iaload, ↓b_ic_ge, ↓b_iconst, ↓b_if_eq, ↓b_if_ne, ↓n_iinc, ↓b_iload_n, ↓b_iret, ↓n_istore_n, ↓n_putI, ↓n_putZ, ↓b_sipush, ↓ldI_hit, ↓ldI_skip, ↓ldL_hit, ↓ldL_skip, ↓ldA_hit, ↓ldA_skip, ↓ldelK_nil, ↓ldelK_hit, ↓ldelK_skipI, ↓ldelK_skipA, ↓ldelK_skipL, qP2_X9_hour, qP2_X9_isIn, qP2_X9_isRun, qP2_X9_layRule, ↓bI_b, bI_0, nnot, lget_hit, lget_skip, ldel_nil, ldel_hit, ldel_skipI, ldel_skipA, ldel_skipL, ldel2_nil, ldel2_hit, ldel2_hit2, ldel2_skipI, ldel2_skipA, ldel2_skipL, vc_0, mCat_nil, mCat_I, mCat_L, mCat_A, mRcv_A, mArg_nil, mArg_I, mArg_L, mArg_A, tsg, swt_nil, swt_cons, lkw_nil, lkw_cons, ↓reduceIte, Nat.reduceAdd, Nat.reduceEqDiff, Nat.reduceLeDiff, Nat.reduceMul, true_and, and_true, and_self, List.mem_cons, List.not_mem_nil, or_false, or_self, false_or, true_implies, false_implies, not_true_eq_false, not_false_eq_true, nI00, nI10, nI01, nI11, forall_const, implies_true])
              (try simp (disch := omega) only [ixq, ixz, sb_in, sb_in0, upI_sb, upI_sb0, sb_out, nI_add, nI_mul, nI_subq, Nat.zero_add, forall_eq, u2_at, u2_row, upd_at, upd_ne, nI0b, nI1b, nI00, nI10, nI01, nI11, true_implies, false_implies, not_true_eq_false, not_false_eq_true, and_true, true_and, implies_true, nI_lq])
              exact ⟨fun _ => fin, fun z => absurd hd2 z⟩
            · (try simp only [↓w_X9_on_0, ↓w_X9_on_23, ↓w_X9_on_25, ↓w_X9_on_36, ↓w_X9_on_72, ↓v_X9_on_23, ↓v_X9_on_25, ↓v_X9_on_36, ↓v_X9_on_72, ↓b_aload_n, ↓b_callS3_1, ↓b_callV1_0, ↓b_callV1_1, ↓b_callV3_0, ↓b_getA, ↓b_goto, ↓b_iaload, ↓b_ic_ge, ↓b_iconst, ↓b_if_eq, ↓b_if_ne, ↓n_iinc, ↓b_iload_n, ↓b_iret, ↓n_istore_n, ↓n_putI, ↓n_putZ, ↓b_sipush, ↓ldI_hit, ↓ldI_skip, ↓ldL_hit, ↓ldL_skip, ↓ldA_hit, ↓ldA_skip, ↓ldelK_nil, ↓ldelK_hit, ↓ldelK_skipI, ↓ldelK_skipA, ↓ldelK_skipL, qP2_X9_hour, qP2_X9_isIn, qP2_X9_isRun, qP2_X9_layRule, ↓bI_b, bI_0, nnot, lget_hit, lget_skip, ldel_nil, ldel_hit, ldel_skipI, ldel_skipA, ldel_skipL, ldel2_nil, ldel2_hit, ldel2_hit2, ldel2_skipI, ldel2_skipA, ldel2_skipL, vc_0, mCat_nil, mCat_I, mCat_L, mCat_A, mRcv_A, mArg_nil, mArg_I, mArg_L, mArg_A, tsg, swt_nil, swt_cons, lkw_nil, lkw_cons, ↓reduceIte, Nat.reduceAdd, Nat.reduceEqDiff, Nat.reduceLeDiff, Nat.reduceMul, true_and, and_true, and_self, List.mem_cons, List.not_mem_nil, or_false, or_self, false_or, true_implies, false_implies, not_true_eq_false, not_false_eq_true, nI00, nI10, nI01, nI11, forall_const, implies_true])
              (try simp (disch := omega) only [ixq, ixz, sb_in, sb_in0, upI_sb, upI_sb0, sb_out, nI_add, nI_mul, nI_subq, Nat.zero_add, forall_eq, u2_at, u2_row, upd_at, upd_ne, nI0b, nI1b, nI00, nI10, nI01, nI11, true_implies, false_implies, not_true_eq_false, not_false_eq_true, and_true, true_and, implies_true, nI_lq, h622])
              exact ⟨fun z => absurd z hd2, fun _ => ⟨fun _ => fin, fun z => absurd (show 200 ≤ n + j by omega) z⟩⟩
          | succ i ih =>
            intro j Q' hj hq
            have h622 : Q' 2 622 = nI (n + j) := hq.2.2.2.2.1.2.2.2.2.2.1
            (try simp only [↓w_X9_on_0, ↓w_X9_on_23, ↓w_X9_on_25, ↓w_X9_on_36, ↓w_X9_on_72, ↓v_X9_on_23, ↓v_X9_on_25, ↓v_X9_on_36, ↓v_X9_on_72, ↓b_aload_n, ↓b_callS3_1, ↓b_callV1_0, ↓b_callV1_1, ↓b_callV3_0, ↓b_getA, ↓b_goto, ↓b_iaload, ↓b_ic_ge, ↓b_iconst, ↓b_if_eq, ↓b_if_ne, ↓n_iinc, ↓b_iload_n, ↓b_iret, ↓n_istore_n, ↓n_putI, ↓n_putZ, ↓b_sipush, ↓ldI_hit, ↓ldI_skip, ↓ldL_hit, ↓ldL_skip, ↓ldA_hit, ↓ldA_skip, ↓ldelK_nil, ↓ldelK_hit, ↓ldelK_skipI, ↓ldelK_skipA, ↓ldelK_skipL, qP2_X9_hour, qP2_X9_isIn, qP2_X9_isRun, qP2_X9_layRule, ↓bI_b, bI_0, nnot, lget_hit, lget_skip, ldel_nil, ldel_hit, ldel_skipI, ldel_skipA, ldel_skipL, ldel2_nil, ldel2_hit, ldel2_hit2, ldel2_skipI, ldel2_skipA, ldel2_skipL, vc_0, mCat_nil, mCat_I, mCat_L, mCat_A, mRcv_A, mArg_nil, mArg_I, mArg_L, mArg_A, tsg, swt_nil, swt_cons, lkw_nil, lkw_cons, ↓reduceIte, Nat.reduceAdd, Nat.reduceEqDiff, Nat.reduceLeDiff, Nat.reduceMul, true_and, and_true, and_self, List.mem_cons, List.not_mem_nil, or_false, or_self, false_or, true_implies, false_implies, not_true_eq_false, not_false_eq_true, nI00, nI10, nI01, nI11, forall_const, implies_true])
            (try simp (disch := omega) only [ixq, ixz, sb_in, sb_in0, upI_sb, upI_sb0, sb_out, nI_add, nI_mul, nI_subq, Nat.zero_add, forall_eq, u2_at, u2_row, upd_at, upd_ne, nI0b, nI1b, nI00, nI10, nI01, nI11, true_implies, false_implies, not_true_eq_false, not_false_eq_true, and_true, true_and, implies_true, nI_lq, h622])
            refine ⟨fun z => by omega, fun _ => ⟨fun z => by omega, fun _ => ?_⟩⟩
            refine d_hourO (P := bk μ (x + 28)) (L := L) g6 w8 l20 l2 hl (by omega) hq (fun Q2 f2 => ?_)
            rw [← fo_s (f := fun _ => onS G W L (bk μ (x + 4)) (bk μ (x + 28)))] at f2
            have i2 := ih (j + 1) Q2 (by omega) f2
            (try simp only [↓w_X9_on_0, ↓w_X9_on_23, ↓w_X9_on_25, ↓w_X9_on_36, ↓w_X9_on_72, ↓v_X9_on_23, ↓v_X9_on_25, ↓v_X9_on_36, ↓v_X9_on_72, ↓b_aload_n, ↓b_callS3_1, ↓b_callV1_0, ↓b_callV1_1, ↓b_callV3_0, ↓b_getA, ↓b_goto, ↓b_iaload, ↓b_ic_ge, ↓b_iconst, ↓b_if_eq, ↓b_if_ne, ↓n_iinc, ↓b_iload_n, ↓b_iret, ↓n_istore_n, ↓n_putI, ↓n_putZ, ↓b_sipush, ↓ldI_hit, ↓ldI_skip, ↓ldL_hit, ↓ldL_skip, ↓ldA_hit, ↓ldA_skip, ↓ldelK_nil, ↓ldelK_hit, ↓ldelK_skipI, ↓ldelK_skipA, ↓ldelK_skipL, qP2_X9_hour, qP2_X9_isIn, qP2_X9_isRun, qP2_X9_layRule, ↓bI_b, bI_0, nnot, lget_hit, lget_skip, ldel_nil, ldel_hit, ldel_skipI, ldel_skipA, ldel_skipL, ldel2_nil, ldel2_hit, ldel2_hit2, ldel2_skipI, ldel2_skipA, ldel2_skipL, vc_0, mCat_nil, mCat_I, mCat_L, mCat_A, mRcv_A, mArg_nil, mArg_I, mArg_L, mArg_A, tsg, swt_nil, swt_cons, lkw_nil, lkw_cons, ↓reduceIte, Nat.reduceAdd, Nat.reduceEqDiff, Nat.reduceLeDiff, Nat.reduceMul, true_and, and_true, and_self, List.mem_cons, List.not_mem_nil, or_false, or_self, false_or, true_implies, false_implies, not_true_eq_false, not_false_eq_true, nI00, nI10, nI01, nI11, forall_const, implies_true])
            (try simp (disch := omega) only [ixq, ixz, sb_in, sb_in0, upI_sb, upI_sb0, sb_out, nI_add, nI_mul, nI_subq, Nat.zero_add, forall_eq, u2_at, u2_row, upd_at, upd_ne, nI0b, nI1b, nI00, nI10, nI01, nI11, true_implies, false_implies, not_true_eq_false, not_false_eq_true, and_true, true_and, implies_true])
            exact vc_back P2_ok ok_X9_on [25,36] 8 t_X9_on_36 (i2) (by simp) (rfl)
        have hF : FB G W (layF (u2 (bk μ m) 0 0 (nI 0)) 10) (bk μ (x + 4)) := RBB_FB (RBB_eq rb' eqB_r (fun j hj => by rw [lay_10 hj, u2_row (by decide)]; rfl) (fun _ _ => rfl))
        have oi : OI G W (n + 0) (μ.1 (m + 2)) (bk μ (x + 4)) (bk μ m) (fo 0 (fun _ => onS G W L (bk μ (x + 4)) (bk μ (x + 28))) (bk μ (x + 50))) (u2 (layF (u2 (bk μ m) 0 0 (nI 0))) 0 29 (nI 1)) := by
          refine ⟨fun j hj => ?_, ?_, ⟨?_, ?_⟩, ⟨?_, ?_, ?_⟩, ?_, fun k hk => ?_, fun j hj => ?_⟩
          · rw [u2_row (by decide), lay_k (by decide) (by decide), u2_row (by decide)]; rfl
          · rw [u2_row (by decide)]; exact hF
          · rw [u2_row (by decide), lay_10 (by omega), u2_row (by decide)]; exact rb'.q0
          · rw [u2_row (by decide), lay_10 (by omega), u2_row (by decide)]; exact rb'.q1
          · rw [u2_at, upd_ne (by decide)]; exact lay_f.1
          · rw [u2_at, upd_ne (by decide)]; exact lay_f.2.1
          · rw [u2_at, upd_at]
          · refine HB_vw w8 g6 ?_
            rw [u2_row (by decide), lay_k (by decide) (by decide), u2_row (by decide)]
            exact n4
          · rw [u2_row (by omega), lay_k (by omega) (by omega), u2_row (by omega)]
          · rw [u2_at, upd_ne (by omega), lay_0 (by omega), u2_at, upd_ne (by omega)]
        have i2 := main (min d (200 - n)) 0 _ (by omega) oi
        clear main
        (try simp only [↓w_X9_on_0, ↓w_X9_on_23, ↓w_X9_on_72, ↓v_X9_on_23, ↓v_X9_on_25, ↓v_X9_on_36, ↓v_X9_on_72, ↓b_aload_n, ↓b_callS3_1, ↓b_callV1_0, ↓b_callV1_1, ↓b_callV3_0, ↓b_getA, ↓b_goto, ↓b_iaload, ↓b_ic_ge, ↓b_iconst, ↓b_if_eq, ↓b_if_ne, ↓n_iinc, ↓b_iload_n, ↓b_iret, ↓n_istore_n, ↓n_putI, ↓n_putZ, ↓b_sipush, ↓ldI_hit, ↓ldI_skip, ↓ldL_hit, ↓ldL_skip, ↓ldA_hit, ↓ldA_skip, ↓ldelK_nil, ↓ldelK_hit, ↓ldelK_skipI, ↓ldelK_skipA, ↓ldelK_skipL, qP2_X9_hour, qP2_X9_isIn, qP2_X9_isRun, qP2_X9_layRule, ↓bI_b, bI_0, nnot, lget_hit, lget_skip, ldel_nil, ldel_hit, ldel_skipI, ldel_skipA, ldel_skipL, ldel2_nil, ldel2_hit, ldel2_hit2, ldel2_skipI, ldel2_skipA, ldel2_skipL, vc_0, mCat_nil, mCat_I, mCat_L, mCat_A, mRcv_A, mArg_nil, mArg_I, mArg_L, mArg_A, tsg, swt_nil, swt_cons, lkw_nil, lkw_cons, ↓reduceIte, Nat.reduceAdd, Nat.reduceEqDiff, Nat.reduceLeDiff, Nat.reduceMul, true_and, and_true, and_self, List.mem_cons, List.not_mem_nil, or_false, or_self, false_or, true_implies, false_implies, not_true_eq_false, not_false_eq_true, nI00, nI10, nI01, nI11, forall_const, implies_true, y3])
        (try simp (disch := omega) only [ixq, ixz, sb_in, sb_in0, upI_sb, upI_sb0, sb_out, nI_add, nI_mul, nI_subq, Nat.zero_add, forall_eq, u2_at, u2_row, upd_at, upd_ne, nI0b, nI1b, nI00, nI10, nI01, nI11, true_implies, false_implies, not_true_eq_false, not_false_eq_true, and_true, true_and, implies_true, e2', z1])
        (refine vc_from P2_ok ok_X9_on [25,36] 8 ?_; rw [t_X9_on_25])
        (try simp only [↓w_X9_on_0, ↓w_X9_on_23, ↓w_X9_on_25, ↓w_X9_on_72, ↓v_X9_on_23, ↓v_X9_on_25, ↓v_X9_on_36, ↓v_X9_on_72, ↓b_aload_n, ↓b_callS3_1, ↓b_callV1_0, ↓b_callV1_1, ↓b_callV3_0, ↓b_getA, ↓b_goto, ↓b_iaload, ↓b_ic_ge, ↓b_iconst, ↓b_if_eq, ↓b_if_ne, ↓n_iinc, ↓b_iload_n, ↓b_iret, ↓n_istore_n, ↓n_putI, ↓n_putZ, ↓b_sipush, ↓ldI_hit, ↓ldI_skip, ↓ldL_hit, ↓ldL_skip, ↓ldA_hit, ↓ldA_skip, ↓ldelK_nil, ↓ldelK_hit, ↓ldelK_skipI, ↓ldelK_skipA, ↓ldelK_skipL, qP2_X9_hour, qP2_X9_isIn, qP2_X9_isRun, qP2_X9_layRule, ↓bI_b, bI_0, nnot, lget_hit, lget_skip, ldel_nil, ldel_hit, ldel_skipI, ldel_skipA, ldel_skipL, ldel2_nil, ldel2_hit, ldel2_hit2, ldel2_skipI, ldel2_skipA, ldel2_skipL, vc_0, mCat_nil, mCat_I, mCat_L, mCat_A, mRcv_A, mArg_nil, mArg_I, mArg_L, mArg_A, tsg, swt_nil, swt_cons, lkw_nil, lkw_cons, ↓reduceIte, Nat.reduceAdd, Nat.reduceEqDiff, Nat.reduceLeDiff, Nat.reduceMul, true_and, and_true, and_self, List.mem_cons, List.not_mem_nil, or_false, or_self, false_or, true_implies, false_implies, not_true_eq_false, not_false_eq_true, nI00, nI10, nI01, nI11, forall_const, implies_true])
        refine c_layRule ?_
        (try simp only [↓w_X9_on_0, ↓w_X9_on_23, ↓w_X9_on_25, ↓w_X9_on_72, ↓v_X9_on_23, ↓v_X9_on_25, ↓v_X9_on_36, ↓v_X9_on_72, ↓b_aload_n, ↓b_callS3_1, ↓b_callV1_0, ↓b_callV1_1, ↓b_callV3_0, ↓b_getA, ↓b_goto, ↓b_iaload, ↓b_ic_ge, ↓b_iconst, ↓b_if_eq, ↓b_if_ne, ↓n_iinc, ↓b_iload_n, ↓b_iret, ↓n_istore_n, ↓n_putI, ↓n_putZ, ↓b_sipush, ↓ldI_hit, ↓ldI_skip, ↓ldL_hit, ↓ldL_skip, ↓ldA_hit, ↓ldA_skip, ↓ldelK_nil, ↓ldelK_hit, ↓ldelK_skipI, ↓ldelK_skipA, ↓ldelK_skipL, qP2_X9_hour, qP2_X9_isIn, qP2_X9_isRun, qP2_X9_layRule, ↓bI_b, bI_0, nnot, lget_hit, lget_skip, ldel_nil, ldel_hit, ldel_skipI, ldel_skipA, ldel_skipL, ldel2_nil, ldel2_hit, ldel2_hit2, ldel2_skipI, ldel2_skipA, ldel2_skipL, vc_0, mCat_nil, mCat_I, mCat_L, mCat_A, mRcv_A, mArg_nil, mArg_I, mArg_L, mArg_A, tsg, swt_nil, swt_cons, lkw_nil, lkw_cons, ↓reduceIte, Nat.reduceAdd, Nat.reduceEqDiff, Nat.reduceLeDiff, Nat.reduceMul, true_and, and_true, and_self, List.mem_cons, List.not_mem_nil, or_false, or_self, false_or, true_implies, false_implies, not_true_eq_false, not_false_eq_true, nI00, nI10, nI01, nI11, forall_const, implies_true])
        (try simp (disch := omega) only [ixq, ixz, sb_in, sb_in0, upI_sb, upI_sb0, sb_out, nI_add, nI_mul, nI_subq, Nat.zero_add, forall_eq, upd_at, upd_ne, nI0b, nI1b, nI00, nI10, nI01, nI11, true_implies, false_implies, not_true_eq_false, not_false_eq_true, and_true, true_and, implies_true])
        rw [← hK2] at i2
        exact i2
      (refine vc_met2 P2_ok ok_X8_on cm_X8_on [20,38] 8 t_X8_on_0 (Nat.le_of_ble_eq_true rfl) ?_; simp only [mArg_nil, mArg_I, mArg_L, mArg_A, Nat.reduceAdd])
      have main : ∀ i j, j + i = min d (200 - n) → bb X P2 m_X8_on (h + 8) K (vc X P2 m_X8_on (h + 8) K k_X8_on [20,38] 8) s_X8_on_38 [(3, .inl (nI j)), (2, .inl (nI (min d (200 - n)))), (0, .inr (.inr (7, 0, x))), (1, .inl (nI d))] [] (sb μ (x + 50) 12 (fo j (fun _ => onS G W L (bk μ (x + 4)) (bk μ (x + 28))) (bk μ (x + 50)))) := by
        intro i
        induction i with
        | zero =>
          intro j hj
          have ej : j = min d (200 - n) := by omega
          rw [← ej] at end8 ⊢
          (try simp only [↓w_X8_on_0, ↓w_X8_on_18, ↓w_X8_on_20, ↓w_X8_on_38, ↓w_X8_on_99, ↓v_X8_on_18, ↓v_X8_on_20, ↓v_X8_on_38, ↓v_X8_on_99, ↓b_aload_n, ↓b_callV1_1, ↓b_callV2_1, ↓b_callV3_0, ↓b_getA, ↓b_getI, ↓b_goto, ↓b_iand, ↓b_ic_ge, ↓b_ic_gt, ↓b_iconst, ↓b_if_lt, ↓b_if_ne, ↓n_iinc, ↓b_iload_n, ↓b_iret, ↓n_istore_n, ↓n_isub, ↓b_ixor, ↓b_min, ↓b_sipush, ↓ldI_hit, ↓ldI_skip, ↓ldL_hit, ↓ldL_skip, ↓ldA_hit, ↓ldA_skip, ↓ldelK_nil, ↓ldelK_hit, ↓ldelK_skipI, ↓ldelK_skipA, ↓ldelK_skipL, qP2_J6_bitCount_0f7a4, qP2_X0_allWorks, qP2_X3_bringAll, qP2_X3_stoppedAt, qP2_X4_pass, qP2_X8_isRunning, ↓bI_b, bI_0, nnot, lget_hit, lget_skip, ldel_nil, ldel_hit, ldel_skipI, ldel_skipA, ldel_skipL, ldel2_nil, ldel2_hit, ldel2_hit2, ldel2_skipI, ldel2_skipA, ldel2_skipL, vc_0, mCat_nil, mCat_I, mCat_L, mCat_A, mRcv_A, mArg_nil, mArg_I, mArg_L, mArg_A, tsg, swt_nil, swt_cons, lkw_nil, lkw_cons, ↓reduceIte, Nat.reduceAdd, Nat.reduceEqDiff, Nat.reduceLeDiff, Nat.reduceMul, true_and, and_true, and_self, List.mem_cons, List.not_mem_nil, or_false, or_self, false_or, true_implies, false_implies, not_true_eq_false, not_false_eq_true, nI00, nI10, nI01, nI11, forall_const, implies_true])
          (try simp (disch := omega) only [ixq, ixz, sb_in, sb_in0, upI_sb, upI_sb0, sb_out, nI_add, nI_mul, nI_subq, Nat.zero_add, forall_eq, u2_at, u2_row, upd_at, upd_ne, nI0b, nI1b, nI00, nI10, nI01, nI11, true_implies, false_implies, not_true_eq_false, not_false_eq_true, and_true, true_and, implies_true, nI_lq])
          exact ⟨fun _ => end8, fun z => absurd (Nat.le_refl j) z⟩
        | succ i ih =>
          intro j hj
          have i2 := ih (j + 1) (by omega)
          rw [fo_s] at i2
          clear ih end8
          generalize fo j (fun _ => onS G W L (bk μ (x + 4)) (bk μ (x + 28))) (bk μ (x + 50)) = R at i2 ⊢
          unfold onS at i2
          (try simp only [↓w_X8_on_0, ↓w_X8_on_18, ↓w_X8_on_20, ↓w_X8_on_38, ↓w_X8_on_99, ↓v_X8_on_18, ↓v_X8_on_20, ↓v_X8_on_38, ↓v_X8_on_99, ↓b_aload_n, ↓b_callV1_1, ↓b_callV2_1, ↓b_callV3_0, ↓b_getA, ↓b_getI, ↓b_goto, ↓b_iand, ↓b_ic_ge, ↓b_ic_gt, ↓b_iconst, ↓b_if_lt, ↓b_if_ne, ↓n_iinc, ↓b_iload_n, ↓b_iret, ↓n_istore_n, ↓n_isub, ↓b_ixor, ↓b_min, ↓b_sipush, ↓ldI_hit, ↓ldI_skip, ↓ldL_hit, ↓ldL_skip, ↓ldA_hit, ↓ldA_skip, ↓ldelK_nil, ↓ldelK_hit, ↓ldelK_skipI, ↓ldelK_skipA, ↓ldelK_skipL, qP2_J6_bitCount_0f7a4, qP2_X0_allWorks, qP2_X3_bringAll, qP2_X3_stoppedAt, qP2_X4_pass, qP2_X8_isRunning, ↓bI_b, bI_0, nnot, lget_hit, lget_skip, ldel_nil, ldel_hit, ldel_skipI, ldel_skipA, ldel_skipL, ldel2_nil, ldel2_hit, ldel2_hit2, ldel2_skipI, ldel2_skipA, ldel2_skipL, vc_0, mCat_nil, mCat_I, mCat_L, mCat_A, mRcv_A, mArg_nil, mArg_I, mArg_L, mArg_A, tsg, swt_nil, swt_cons, lkw_nil, lkw_cons, ↓reduceIte, Nat.reduceAdd, Nat.reduceEqDiff, Nat.reduceLeDiff, Nat.reduceMul, true_and, and_true, and_self, List.mem_cons, List.not_mem_nil, or_false, or_self, false_or, true_implies, false_implies, not_true_eq_false, not_false_eq_true, nI00, nI10, nI01, nI11, forall_const, implies_true])
          (try simp (disch := omega) only [ixq, ixz, sb_in, sb_in0, upI_sb, upI_sb0, sb_out, nI_add, nI_mul, nI_subq, Nat.zero_add, forall_eq, u2_at, u2_row, upd_at, upd_ne, nI0b, nI1b, nI00, nI10, nI01, nI11, true_implies, false_implies, not_true_eq_false, not_false_eq_true, and_true, true_and, implies_true, nI_lq])
          refine ⟨fun z => by omega, fun _ => ?_⟩
          refine c_bringAll (Q := bk μ (x + 28)) (B := bk μ (x + 4)) (L := L) (fun _ _ => rfl) (fun _ _ => rfl) (by omega) (by omega) p0 l20 (fun i hi z => ?_) ?_
          · rcases hl i hi with ⟨a1, _⟩ | ⟨_, _, w, g, a, c1, c2, _, _, _, c6, _⟩
            · rw [a1] at z
              exact absurd z (by decide)
            · exact ⟨w * 6 + g, by omega, c6⟩
          generalize fo L (bringS (bk μ (x + 4)) (bk μ (x + 28))) R = R1 at i2 ⊢
          (try simp only [↓w_X8_on_0, ↓w_X8_on_18, ↓w_X8_on_20, ↓w_X8_on_38, ↓w_X8_on_99, ↓v_X8_on_18, ↓v_X8_on_20, ↓v_X8_on_38, ↓v_X8_on_99, ↓b_aload_n, ↓b_callV1_1, ↓b_callV2_1, ↓b_callV3_0, ↓b_getA, ↓b_getI, ↓b_goto, ↓b_iand, ↓b_ic_ge, ↓b_ic_gt, ↓b_iconst, ↓b_if_lt, ↓b_if_ne, ↓n_iinc, ↓b_iload_n, ↓b_iret, ↓n_istore_n, ↓n_isub, ↓b_ixor, ↓b_min, ↓b_sipush, ↓ldI_hit, ↓ldI_skip, ↓ldL_hit, ↓ldL_skip, ↓ldA_hit, ↓ldA_skip, ↓ldelK_nil, ↓ldelK_hit, ↓ldelK_skipI, ↓ldelK_skipA, ↓ldelK_skipL, qP2_J6_bitCount_0f7a4, qP2_X0_allWorks, qP2_X3_bringAll, qP2_X3_stoppedAt, qP2_X4_pass, qP2_X8_isRunning, ↓bI_b, bI_0, nnot, lget_hit, lget_skip, ldel_nil, ldel_hit, ldel_skipI, ldel_skipA, ldel_skipL, ldel2_nil, ldel2_hit, ldel2_hit2, ldel2_skipI, ldel2_skipA, ldel2_skipL, vc_0, mCat_nil, mCat_I, mCat_L, mCat_A, mRcv_A, mArg_nil, mArg_I, mArg_L, mArg_A, tsg, swt_nil, swt_cons, lkw_nil, lkw_cons, ↓reduceIte, Nat.reduceAdd, Nat.reduceEqDiff, Nat.reduceLeDiff, Nat.reduceMul, true_and, and_true, and_self, List.mem_cons, List.not_mem_nil, or_false, or_self, false_or, true_implies, false_implies, not_true_eq_false, not_false_eq_true, nI00, nI10, nI01, nI11, forall_const, implies_true])
          (try simp (disch := omega) only [ixq, ixz, sb_in, sb_in0, upI_sb, upI_sb0, sb_out, nI_add, nI_mul, nI_subq, Nat.zero_add, forall_eq, u2_at, u2_row, upd_at, upd_ne, nI0b, nI1b, nI00, nI10, nI01, nI11, true_implies, false_implies, not_true_eq_false, not_false_eq_true, and_true, true_and, implies_true, b1])
          refine c_stoppedAt (Q := bk μ (x + 28)) (L := L) (fun k hk => by rw [sb_out (by omega)]; rfl) p0 l20 ?_
          (try simp only [↓w_X8_on_0, ↓w_X8_on_18, ↓w_X8_on_20, ↓w_X8_on_38, ↓w_X8_on_99, ↓v_X8_on_18, ↓v_X8_on_20, ↓v_X8_on_38, ↓v_X8_on_99, ↓b_aload_n, ↓b_callV1_1, ↓b_callV2_1, ↓b_callV3_0, ↓b_getA, ↓b_getI, ↓b_goto, ↓b_iand, ↓b_ic_ge, ↓b_ic_gt, ↓b_iconst, ↓b_if_lt, ↓b_if_ne, ↓n_iinc, ↓b_iload_n, ↓b_iret, ↓n_istore_n, ↓n_isub, ↓b_ixor, ↓b_min, ↓b_sipush, ↓ldI_hit, ↓ldI_skip, ↓ldL_hit, ↓ldL_skip, ↓ldA_hit, ↓ldA_skip, ↓ldelK_nil, ↓ldelK_hit, ↓ldelK_skipI, ↓ldelK_skipA, ↓ldelK_skipL, qP2_J6_bitCount_0f7a4, qP2_X0_allWorks, qP2_X3_bringAll, qP2_X3_stoppedAt, qP2_X4_pass, qP2_X8_isRunning, ↓bI_b, bI_0, nnot, lget_hit, lget_skip, ldel_nil, ldel_hit, ldel_skipI, ldel_skipA, ldel_skipL, ldel2_nil, ldel2_hit, ldel2_hit2, ldel2_skipI, ldel2_skipA, ldel2_skipL, vc_0, mCat_nil, mCat_I, mCat_L, mCat_A, mRcv_A, mArg_nil, mArg_I, mArg_L, mArg_A, tsg, swt_nil, swt_cons, lkw_nil, lkw_cons, ↓reduceIte, Nat.reduceAdd, Nat.reduceEqDiff, Nat.reduceLeDiff, Nat.reduceMul, true_and, and_true, and_self, List.mem_cons, List.not_mem_nil, or_false, or_self, false_or, true_implies, false_implies, not_true_eq_false, not_false_eq_true, nI00, nI10, nI01, nI11, forall_const, implies_true])
          (try simp (disch := omega) only [ixq, ixz, sb_in, sb_in0, upI_sb, upI_sb0, sb_out, nI_add, nI_mul, nI_subq, Nat.zero_add, forall_eq, u2_at, u2_row, upd_at, upd_ne, nI0b, nI1b, nI00, nI10, nI01, nI11, true_implies, false_implies, not_true_eq_false, not_false_eq_true, and_true, true_and, implies_true, b1])
          refine c_pass (B := bk μ (x + 4)) (fun _ _ => rfl) rb'.b0 g6 rb'.b1 w8 (by omega) ?_
          (try simp only [↓w_X8_on_0, ↓w_X8_on_18, ↓w_X8_on_20, ↓w_X8_on_38, ↓w_X8_on_99, ↓v_X8_on_18, ↓v_X8_on_20, ↓v_X8_on_38, ↓v_X8_on_99, ↓b_aload_n, ↓b_callV1_1, ↓b_callV2_1, ↓b_callV3_0, ↓b_getA, ↓b_getI, ↓b_goto, ↓b_iand, ↓b_ic_ge, ↓b_ic_gt, ↓b_iconst, ↓b_if_lt, ↓b_if_ne, ↓n_iinc, ↓b_iload_n, ↓b_iret, ↓n_istore_n, ↓n_isub, ↓b_ixor, ↓b_min, ↓b_sipush, ↓ldI_hit, ↓ldI_skip, ↓ldL_hit, ↓ldL_skip, ↓ldA_hit, ↓ldA_skip, ↓ldelK_nil, ↓ldelK_hit, ↓ldelK_skipI, ↓ldelK_skipA, ↓ldelK_skipL, qP2_J6_bitCount_0f7a4, qP2_X0_allWorks, qP2_X3_bringAll, qP2_X3_stoppedAt, qP2_X4_pass, qP2_X8_isRunning, ↓bI_b, bI_0, nnot, lget_hit, lget_skip, ldel_nil, ldel_hit, ldel_skipI, ldel_skipA, ldel_skipL, ldel2_nil, ldel2_hit, ldel2_hit2, ldel2_skipI, ldel2_skipA, ldel2_skipL, vc_0, mCat_nil, mCat_I, mCat_L, mCat_A, mRcv_A, mArg_nil, mArg_I, mArg_L, mArg_A, tsg, swt_nil, swt_cons, lkw_nil, lkw_cons, ↓reduceIte, Nat.reduceAdd, Nat.reduceEqDiff, Nat.reduceLeDiff, Nat.reduceMul, true_and, and_true, and_self, List.mem_cons, List.not_mem_nil, or_false, or_self, false_or, true_implies, false_implies, not_true_eq_false, not_false_eq_true, nI00, nI10, nI01, nI11, forall_const, implies_true])
          (try simp (disch := omega) only [ixq, ixz, sb_in, sb_in0, upI_sb, upI_sb0, sb_out, nI_add, nI_mul, nI_subq, Nat.zero_add, forall_eq, u2_at, u2_row, upd_at, upd_ne, nI0b, nI1b, nI00, nI10, nI01, nI11, true_implies, false_implies, not_true_eq_false, not_false_eq_true, and_true, true_and, implies_true])
          exact vc_back P2_ok ok_X8_on [20,38] 8 t_X8_on_38 (i2) (by simp) (rfl)
      have i2 := main (min d (200 - n)) 0 (by omega)
      rw [fo_0, sb_self] at i2
      clear main end8
      (try simp only [↓w_X8_on_0, ↓w_X8_on_18, ↓w_X8_on_99, ↓v_X8_on_18, ↓v_X8_on_20, ↓v_X8_on_38, ↓v_X8_on_99, ↓b_aload_n, ↓b_callV1_1, ↓b_callV2_1, ↓b_callV3_0, ↓b_getA, ↓b_getI, ↓b_goto, ↓b_iand, ↓b_ic_ge, ↓b_ic_gt, ↓b_iconst, ↓b_if_lt, ↓b_if_ne, ↓n_iinc, ↓b_iload_n, ↓b_iret, ↓n_istore_n, ↓n_isub, ↓b_ixor, ↓b_min, ↓b_sipush, ↓ldI_hit, ↓ldI_skip, ↓ldL_hit, ↓ldL_skip, ↓ldA_hit, ↓ldA_skip, ↓ldelK_nil, ↓ldelK_hit, ↓ldelK_skipI, ↓ldelK_skipA, ↓ldelK_skipL, qP2_J6_bitCount_0f7a4, qP2_X0_allWorks, qP2_X3_bringAll, qP2_X3_stoppedAt, qP2_X4_pass, qP2_X8_isRunning, ↓bI_b, bI_0, nnot, lget_hit, lget_skip, ldel_nil, ldel_hit, ldel_skipI, ldel_skipA, ldel_skipL, ldel2_nil, ldel2_hit, ldel2_hit2, ldel2_skipI, ldel2_skipA, ldel2_skipL, vc_0, mCat_nil, mCat_I, mCat_L, mCat_A, mRcv_A, mArg_nil, mArg_I, mArg_L, mArg_A, tsg, swt_nil, swt_cons, lkw_nil, lkw_cons, ↓reduceIte, Nat.reduceAdd, Nat.reduceEqDiff, Nat.reduceLeDiff, Nat.reduceMul, true_and, and_true, and_self, List.mem_cons, List.not_mem_nil, or_false, or_self, false_or, true_implies, false_implies, not_true_eq_false, not_false_eq_true, nI00, nI10, nI01, nI11, forall_const, implies_true, y1, y2])
      (try simp (disch := omega) only [ixq, ixz, sb_in, sb_in0, upI_sb, upI_sb0, sb_out, nI_add, nI_mul, nI_subq, Nat.zero_add, forall_eq, u2_at, u2_row, upd_at, upd_ne, nI0b, nI1b, nI00, nI10, nI01, nI11, true_implies, false_implies, not_true_eq_false, not_false_eq_true, and_true, true_and, implies_true, e1n])
      (refine vc_from P2_ok ok_X8_on [20,38] 8 ?_; rw [t_X8_on_20])
      (try simp only [↓w_X8_on_0, ↓w_X8_on_18, ↓w_X8_on_20, ↓w_X8_on_99, ↓v_X8_on_18, ↓v_X8_on_20, ↓v_X8_on_38, ↓v_X8_on_99, ↓b_aload_n, ↓b_callV1_1, ↓b_callV2_1, ↓b_callV3_0, ↓b_getA, ↓b_getI, ↓b_goto, ↓b_iand, ↓b_ic_ge, ↓b_ic_gt, ↓b_iconst, ↓b_if_lt, ↓b_if_ne, ↓n_iinc, ↓b_iload_n, ↓b_iret, ↓n_istore_n, ↓n_isub, ↓b_ixor, ↓b_min, ↓b_sipush, ↓ldI_hit, ↓ldI_skip, ↓ldL_hit, ↓ldL_skip, ↓ldA_hit, ↓ldA_skip, ↓ldelK_nil, ↓ldelK_hit, ↓ldelK_skipI, ↓ldelK_skipA, ↓ldelK_skipL, qP2_J6_bitCount_0f7a4, qP2_X0_allWorks, qP2_X3_bringAll, qP2_X3_stoppedAt, qP2_X4_pass, qP2_X8_isRunning, ↓bI_b, bI_0, nnot, lget_hit, lget_skip, ldel_nil, ldel_hit, ldel_skipI, ldel_skipA, ldel_skipL, ldel2_nil, ldel2_hit, ldel2_hit2, ldel2_skipI, ldel2_skipA, ldel2_skipL, vc_0, mCat_nil, mCat_I, mCat_L, mCat_A, mRcv_A, mArg_nil, mArg_I, mArg_L, mArg_A, tsg, swt_nil, swt_cons, lkw_nil, lkw_cons, ↓reduceIte, Nat.reduceAdd, Nat.reduceEqDiff, Nat.reduceLeDiff, Nat.reduceMul, true_and, and_true, and_self, List.mem_cons, List.not_mem_nil, or_false, or_self, false_or, true_implies, false_implies, not_true_eq_false, not_false_eq_true, nI00, nI10, nI01, nI11, forall_const, implies_true])
      (try simp (disch := omega) only [ixq, ixz, sb_in, sb_in0, upI_sb, upI_sb0, sb_out, nI_add, nI_mul, nI_subq, Nat.zero_add, forall_eq, u2_at, u2_row, upd_at, upd_ne, nI0b, nI1b, nI00, nI10, nI01, nI11, true_implies, false_implies, not_true_eq_false, not_false_eq_true, and_true, true_and, implies_true, e1', mn2])
      exact i2
  · have ht' : ¬ (nI 0 ≤ t ∧ t ≤ nI 200) := by rw [tin (by decide)]; exact ht
    have ht2 := eq_false ht'
    refine get (.inl (-1)) hx hr (fun K hK => ?_) (fun K hK => ?_)
    · by_cases z1 : t < 0
      · have y1 := eq_true z1
        (refine vc_met2 P2_ok ok_X8_on cm_X8_on [20,38] 8 t_X8_on_0 (Nat.le_of_ble_eq_true rfl) ?_; simp only [mArg_nil, mArg_I, mArg_L, mArg_A, Nat.reduceAdd])
        (try simp only [↓w_X8_on_0, ↓w_X8_on_18, ↓w_X8_on_99, ↓v_X8_on_18, ↓v_X8_on_20, ↓v_X8_on_38, ↓v_X8_on_99, ↓b_aload_n, ↓b_callV1_1, ↓b_callV2_1, ↓b_callV3_0, ↓b_getA, ↓b_getI, ↓b_goto, ↓b_iand, ↓b_ic_ge, ↓b_ic_gt, ↓b_iconst, ↓b_if_lt, ↓b_if_ne, ↓n_iinc, ↓b_iload_n, ↓b_iret, ↓n_istore_n, ↓n_isub, ↓b_ixor, ↓b_min, ↓b_sipush, ↓ldI_hit, ↓ldI_skip, ↓ldL_hit, ↓ldL_skip, ↓ldA_hit, ↓ldA_skip, ↓ldelK_nil, ↓ldelK_hit, ↓ldelK_skipI, ↓ldelK_skipA, ↓ldelK_skipL, qP2_J6_bitCount_0f7a4, qP2_X0_allWorks, qP2_X3_bringAll, qP2_X3_stoppedAt, qP2_X4_pass, qP2_X8_isRunning, ↓bI_b, bI_0, nnot, lget_hit, lget_skip, ldel_nil, ldel_hit, ldel_skipI, ldel_skipA, ldel_skipL, ldel2_nil, ldel2_hit, ldel2_hit2, ldel2_skipI, ldel2_skipA, ldel2_skipL, vc_0, mCat_nil, mCat_I, mCat_L, mCat_A, mRcv_A, mArg_nil, mArg_I, mArg_L, mArg_A, tsg, swt_nil, swt_cons, lkw_nil, lkw_cons, ↓reduceIte, Nat.reduceAdd, Nat.reduceEqDiff, Nat.reduceLeDiff, Nat.reduceMul, true_and, and_true, and_self, List.mem_cons, List.not_mem_nil, or_false, or_self, false_or, true_implies, false_implies, not_true_eq_false, not_false_eq_true, nI00, nI10, nI01, nI11, forall_const, implies_true, y1])
        (try simp (disch := omega) only [ixq, ixz, sb_in, sb_in0, upI_sb, upI_sb0, sb_out, nI_add, nI_mul, nI_subq, Nat.zero_add, forall_eq, u2_at, u2_row, upd_at, upd_ne, nI0b, nI1b, nI00, nI10, nI01, nI11, true_implies, false_implies, not_true_eq_false, not_false_eq_true, and_true, true_and, implies_true])
        exact hK
      · have y1 := eq_false z1
        have y2 : (nI 200 < t) = True := eq_true (by
          rcases Int32.lt_or_le (nI 200) t with z | z
          · exact z
          · exact absurd ⟨Int32.not_lt.mp z1, z⟩ ht')
        (refine vc_met2 P2_ok ok_X8_on cm_X8_on [20,38] 8 t_X8_on_0 (Nat.le_of_ble_eq_true rfl) ?_; simp only [mArg_nil, mArg_I, mArg_L, mArg_A, Nat.reduceAdd])
        (try simp only [↓w_X8_on_0, ↓w_X8_on_18, ↓w_X8_on_99, ↓v_X8_on_18, ↓v_X8_on_20, ↓v_X8_on_38, ↓v_X8_on_99, ↓b_aload_n, ↓b_callV1_1, ↓b_callV2_1, ↓b_callV3_0, ↓b_getA, ↓b_getI, ↓b_goto, ↓b_iand, ↓b_ic_ge, ↓b_ic_gt, ↓b_iconst, ↓b_if_lt, ↓b_if_ne, ↓n_iinc, ↓b_iload_n, ↓b_iret, ↓n_istore_n, ↓n_isub, ↓b_ixor, ↓b_min, ↓b_sipush, ↓ldI_hit, ↓ldI_skip, ↓ldL_hit, ↓ldL_skip, ↓ldA_hit, ↓ldA_skip, ↓ldelK_nil, ↓ldelK_hit, ↓ldelK_skipI, ↓ldelK_skipA, ↓ldelK_skipL, qP2_J6_bitCount_0f7a4, qP2_X0_allWorks, qP2_X3_bringAll, qP2_X3_stoppedAt, qP2_X4_pass, qP2_X8_isRunning, ↓bI_b, bI_0, nnot, lget_hit, lget_skip, ldel_nil, ldel_hit, ldel_skipI, ldel_skipA, ldel_skipL, ldel2_nil, ldel2_hit, ldel2_hit2, ldel2_skipI, ldel2_skipA, ldel2_skipL, vc_0, mCat_nil, mCat_I, mCat_L, mCat_A, mRcv_A, mArg_nil, mArg_I, mArg_L, mArg_A, tsg, swt_nil, swt_cons, lkw_nil, lkw_cons, ↓reduceIte, Nat.reduceAdd, Nat.reduceEqDiff, Nat.reduceLeDiff, Nat.reduceMul, true_and, and_true, and_self, List.mem_cons, List.not_mem_nil, or_false, or_self, false_or, true_implies, false_implies, not_true_eq_false, not_false_eq_true, nI00, nI10, nI01, nI11, forall_const, implies_true, y1, y2])
        (try simp (disch := omega) only [ixq, ixz, sb_in, sb_in0, upI_sb, upI_sb0, sb_out, nI_add, nI_mul, nI_subq, Nat.zero_add, forall_eq, u2_at, u2_row, upd_at, upd_ne, nI0b, nI1b, nI00, nI10, nI01, nI11, true_implies, false_implies, not_true_eq_false, not_false_eq_true, and_true, true_and, implies_true])
        exact hK
    · (refine vc_met2 P2_ok ok_X9_on cm_X9_on [25,36] 8 t_X9_on_0 (Nat.le_of_ble_eq_true rfl) ?_; simp only [mArg_nil, mArg_I, mArg_L, mArg_A, Nat.reduceAdd])
      (try simp only [↓w_X9_on_0, ↓w_X9_on_23, ↓w_X9_on_72, ↓v_X9_on_23, ↓v_X9_on_25, ↓v_X9_on_36, ↓v_X9_on_72, ↓b_aload_n, ↓b_callS3_1, ↓b_callV1_0, ↓b_callV1_1, ↓b_callV3_0, ↓b_getA, ↓b_goto, ↓b_iaload, ↓b_ic_ge, ↓b_iconst, ↓b_if_eq, ↓b_if_ne, ↓n_iinc, ↓b_iload_n, ↓b_iret, ↓n_istore_n, ↓n_putI, ↓n_putZ, ↓b_sipush, ↓ldI_hit, ↓ldI_skip, ↓ldL_hit, ↓ldL_skip, ↓ldA_hit, ↓ldA_skip, ↓ldelK_nil, ↓ldelK_hit, ↓ldelK_skipI, ↓ldelK_skipA, ↓ldelK_skipL, qP2_X9_hour, qP2_X9_isIn, qP2_X9_isRun, qP2_X9_layRule, ↓bI_b, bI_0, nnot, lget_hit, lget_skip, ldel_nil, ldel_hit, ldel_skipI, ldel_skipA, ldel_skipL, ldel2_nil, ldel2_hit, ldel2_hit2, ldel2_skipI, ldel2_skipA, ldel2_skipL, vc_0, mCat_nil, mCat_I, mCat_L, mCat_A, mRcv_A, mArg_nil, mArg_I, mArg_L, mArg_A, tsg, swt_nil, swt_cons, lkw_nil, lkw_cons, ↓reduceIte, Nat.reduceAdd, Nat.reduceEqDiff, Nat.reduceLeDiff, Nat.reduceMul, true_and, and_true, and_self, List.mem_cons, List.not_mem_nil, or_false, or_self, false_or, true_implies, false_implies, not_true_eq_false, not_false_eq_true, nI00, nI10, nI01, nI11, forall_const, implies_true, ht2])
      (try simp (disch := omega) only [ixq, ixz, sb_in, sb_in0, upI_sb, upI_sb0, sb_out, nI_add, nI_mul, nI_subq, Nat.zero_add, forall_eq, u2_at, u2_row, upd_at, upd_ne, nI0b, nI1b, nI00, nI10, nI01, nI11, true_implies, false_implies, not_true_eq_false, not_false_eq_true, and_true, true_and, implies_true])
      exact ⟨fun _ => hK, fun _ => hK⟩
end MOn
