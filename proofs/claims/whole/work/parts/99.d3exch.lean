/-! two WORKS exchanged -/
def xg (w g j : Nat) : Nat := if w * 6 ≤ j ∧ j < w * 6 + g then j + 6 else if w * 6 + 6 ≤ j ∧ j < w * 6 + 6 + g then j - 6 else j
def sw (a j : Nat) : Nat := if j = a then a + 1 else if j = a + 1 then a else j
def xs (w n j : Nat) : Nat := if 38 ≤ j ∧ (j - 38) % 48 / 6 = w ∧ 6 * ((j - 38) / 48) + (j - 38) % 6 < n then j + 6 else if 38 ≤ j ∧ (j - 38) % 48 / 6 = w + 1 ∧ 6 * ((j - 38) / 48) + (j - 38) % 6 < n then j - 6 else j
theorem exR_p {i j l : Nat} {f : Nat → Int32} (h : i ≠ j) : exR i j f l = f (if l = i then j else if l = j then i else l) := by
  unfold exR
  by_cases h1 : l = j
  · rw [h1, upd_at, if_neg (fun z => h z.symm), if_pos rfl]
  · rw [upd_ne h1]
    by_cases h2 : l = i
    · rw [h2, upd_at, if_pos rfl]
    · rw [upd_ne h2, if_neg h2, if_neg h1]
theorem exR_1 {a l : Nat} {f : Nat → Int32} : exR a (a + 1) f l = f (sw a l) := exR_p (by omega)
section MEx
variable {X : mC} {h x m : Nat} {μ : Mem} {K : MV → Mem → Prop} {A B B' Q : Bk} {G W w : Nat} {f f' : Nat → Int32}
theorem ex_fo : ∀ g, g ≤ 6 → (∀ k, 7 ≤ k → k ≤ 11 → ∀ j, fo g (exCF w) A k j = A k (xg w g j)) ∧ ∀ k, k < 7 → fo g (exCF w) A k = A k := by
  intro g
  induction g with
  | zero =>
    intro _
    refine ⟨fun k _ _ j => ?_, fun k _ => rfl⟩
    unfold xg
    rw [if_neg (by omega), if_neg (by omega)]
    rfl
  | succ g ih =>
    intro hg
    obtain ⟨i1, i2⟩ := ih (by omega)
    rw [fo_s]
    generalize fo g (exCF w) A = C at i1 i2
    have row : ∀ k, 7 ≤ k → k ≤ 11 → exCF w g C k = exR (w * 6 + g) (w * 6 + g + 6) (C k) := fun k h1 h2 => by
      unfold exCF
      have hc : k = 7 ∨ k = 8 ∨ k = 9 ∨ k = 10 ∨ k = 11 := by omega
      rcases hc with rfl | rfl | rfl | rfl | rfl <;> simp (disch := omega) only [up_row, up_at]
    have oth : ∀ k, k < 7 → exCF w g C k = C k := fun k hk => by
      unfold exCF
      rw [up_row (by omega), up_row (by omega), up_row (by omega), up_row (by omega), up_row (by omega)]
    refine ⟨fun k h1 h2 j => ?_, fun k hk => by rw [oth k hk]; exact i2 k hk⟩
    rw [row k h1 h2, exR_p (by omega), i1 k h1 h2]
    congr 1
    unfold xg
    by_cases a1 : j = w * 6 + g
    · rw [if_pos a1, if_neg (by omega), if_neg (by omega), if_pos (by omega)]; omega
    · by_cases a2 : j = w * 6 + g + 6
      · rw [if_neg a1, if_pos a2, if_neg (by omega), if_neg (by omega), if_neg (by omega), if_pos (by omega)]; omega
      · rw [if_neg a1, if_neg a2]
        by_cases b1 : w * 6 ≤ j ∧ j < w * 6 + g
        · rw [if_pos b1, if_pos (by omega)]
        · rw [if_neg b1]
          by_cases b2 : w * 6 + 6 ≤ j ∧ j < w * 6 + 6 + g
          · rw [if_pos b2, if_neg (by omega), if_pos (by omega)]
          · rw [if_neg b2, if_neg (by omega), if_neg (by omega)]
theorem exW_at (g6 : G ≤ 6) : (∀ k, 7 ≤ k → k ≤ 11 → ∀ j, exWF G w B k j = B k (xg w G j)) ∧ (∀ k, 4 ≤ k → k ≤ 6 → ∀ j, exWF G w B k j = B k (sw w j)) ∧ ∀ k, k < 4 → exWF G w B k = B k := by
  unfold exWF
  obtain ⟨i1, i2⟩ := ex_fo (w := w) (A := va_up (va_up (va_up B 4 (exR w (w + 1) (B 4))) 5 (exR w (w + 1) (B 5))) 6 (exR w (w + 1) (B 6))) G g6
  refine ⟨fun k h1 h2 j => ?_, fun k h1 h2 j => ?_, fun k hk => ?_⟩
  · rw [i1 k h1 h2, up_row (by omega), up_row (by omega), up_row (by omega)]
  · have z := exR_1 (a := w) (f := B k) (l := j)
    rw [i2 k (by omega), ← z]
    have hc : k = 4 ∨ k = 5 ∨ k = 6 := by omega
    rcases hc with rfl | rfl | rfl <;> simp (disch := omega) only [up_row, up_at]
  · rw [i2 k (by omega), up_row (by omega), up_row (by omega), up_row (by omega)]
theorem xg_lt {j : Nat} (g6 : G ≤ 6) (hw : w + 1 < 8) (hj : j < 48) : xg w G j < 48 := by
  unfold xg
  by_cases b1 : w * 6 ≤ j ∧ j < w * 6 + G
  · rw [if_pos b1]; omega
  · rw [if_neg b1]
    by_cases b2 : w * 6 + 6 ≤ j ∧ j < w * 6 + 6 + G
    · rw [if_pos b2]; omega
    · rw [if_neg b2]; exact hj
theorem xg_xg {j : Nat} (g6 : G ≤ 6) : xg w G (xg w G j) = j := by
  unfold xg
  by_cases b1 : w * 6 ≤ j ∧ j < w * 6 + G
  · rw [if_pos b1, if_neg (by omega), if_pos (by omega)]; omega
  · rw [if_neg b1]
    by_cases b2 : w * 6 + 6 ≤ j ∧ j < w * 6 + 6 + G
    · rw [if_pos b2, if_pos (by omega)]; omega
    · rw [if_neg b2, if_neg b1, if_neg b2]
theorem sw_lt {j : Nat} (hw : w + 1 < 8) (hj : j < 8) : sw w j < 8 := by
  unfold sw
  by_cases a : j = w
  · rw [if_pos a]; omega
  · rw [if_neg a]
    by_cases b : j = w + 1
    · rw [if_pos b]; omega
    · rw [if_neg b]; exact hj
theorem sw_o {a j : Nat} (hj : j < a ∨ a + 1 < j) : sw a j = j := by
  unfold sw
  rw [if_neg (by omega), if_neg (by omega)]
theorem sw_sw {j : Nat} : sw w (sw w j) = j := by
  unfold sw
  by_cases a : j = w
  · rw [if_pos a, if_neg (by omega), if_pos rfl]; omega
  · rw [if_neg a]
    by_cases b : j = w + 1
    · rw [if_pos b, if_pos rfl]; omega
    · rw [if_neg b, if_neg a, if_neg b]
theorem eqB_ex (g6 : G ≤ 6) (hw : w + 1 < 8) (h : eqB B B') : eqB (exWF G w B) (exWF G w B') := by
  obtain ⟨e0, e1, e2, e7⟩ := h
  obtain ⟨a1, a2, a3⟩ := exW_at (w := w) (B := B) g6
  obtain ⟨c1, c2, c3⟩ := exW_at (w := w) (B := B') g6
  refine ⟨fun j hj => by rw [a3 0 (by omega), c3 0 (by omega)]; exact e0 j hj, fun j hj => by rw [a3 1 (by omega), c3 1 (by omega), a3 3 (by omega), c3 3 (by omega)]; exact e1 j hj, fun j hj => ?_, fun j hj => ?_⟩
  · rw [a3 2 (by omega), c3 2 (by omega), a2 4 (by omega) (by omega), c2 4 (by omega) (by omega), a2 5 (by omega) (by omega), c2 5 (by omega) (by omega), a2 6 (by omega) (by omega), c2 6 (by omega) (by omega)]
    have z := e2 _ (sw_lt hw hj)
    exact ⟨(e2 j hj).1, z.2.1, z.2.2.1, z.2.2.2⟩
  · rw [a1 7 (by omega) (by omega), c1 7 (by omega) (by omega), a1 8 (by omega) (by omega), c1 8 (by omega) (by omega), a1 9 (by omega) (by omega), c1 9 (by omega) (by omega), a1 10 (by omega) (by omega), c1 10 (by omega) (by omega), a1 11 (by omega) (by omega), c1 11 (by omega) (by omega)]
    exact e7 _ (xg_lt g6 hw hj)
theorem ex_ex (g6 : G ≤ 6) : exWF G w (exWF G w B) = B := by
  obtain ⟨a1, a2, a3⟩ := exW_at (w := w) (B := B) g6
  obtain ⟨c1, c2, c3⟩ := exW_at (w := w) (B := exWF G w B) g6
  funext k j
  by_cases h1 : k < 4
  · rw [c3 k h1, a3 k h1]
  · by_cases h2 : k ≤ 6
    · rw [c2 k (by omega) h2, a2 k (by omega) h2, sw_sw]
    · by_cases h3 : k ≤ 11
      · rw [c1 k (by omega) h3, a1 k (by omega) h3, xg_xg g6]
      · have o : ∀ A : Bk, exWF G w A k = A k := fun A => by
          unfold exWF
          have z := fo_inv (P := fun _ (p : Bk) => p k = A k) (fa := exCF w) (a := va_up (va_up (va_up A 4 (exR w (w + 1) (A 4))) 5 (exR w (w + 1) (A 5))) 6 (exR w (w + 1) (A 6))) G (by rw [up_row (by omega), up_row (by omega), up_row (by omega)]) (fun i p hi hp => by
            unfold exCF
            rw [up_row (by omega), up_row (by omega), up_row (by omega), up_row (by omega), up_row (by omega)]; exact hp)
          exact z
        rw [o, o]
/-- the rule with two WORKS exchanged -/
theorem FB_ex (h : FB G W f B) (g6 : G ≤ 6) (w8 : W ≤ 8) (hw : w + 1 < W) (hz : ∀ c, c < 48 → G ≤ c % 6 → ∀ k, 7 ≤ k → k ≤ 11 → B k c = nI 0) (h2 : f' 2 = f 2) (h8 : ∀ g, g < 6 → f' (8 + g) = f (8 + g)) (h14 : ∀ j, j < 8 → f' (14 + j) = f (14 + sw w j) ∧ f' (22 + j) = f (22 + sw w j) ∧ f' (30 + j) = f (30 + sw w j)) (h38 : ∀ r c, r < 5 → c < 48 → f' (38 + 48 * r + c) = f (38 + 48 * r + xg w 6 c)) : FB G W f' (exWF G w B) := by
  obtain ⟨k1, k2, k3, k4, k5, k6⟩ := h
  obtain ⟨a1, a2, a3⟩ := exW_at (w := w) (B := B) g6
  refine ⟨by rw [h2, a3 0 (by omega)]; exact k1, by rw [a3 0 (by omega)]; exact k2, fun g hg => ?_, fun w' hw' => ?_, fun c hc => ?_, fun c hc => ?_⟩
  · rw [h8 g (by omega), a3 3 (by omega)]; exact k3 g hg
  · obtain ⟨b1, b2, b3⟩ := h14 w' (by omega)
    rw [b1, b2, b3, a2 4 (by omega) (by omega), a2 5 (by omega) (by omega), a2 6 (by omega) (by omega)]
    have : sw w w' < W := by
      unfold sw
      by_cases a : w' = w
      · rw [if_pos a]; omega
      · rw [if_neg a]
        by_cases b : w' = w + 1
        · rw [if_pos b]; omega
        · rw [if_neg b]; exact hw'
    exact k4 _ this
  · have key : ∀ r k, r < 5 → 7 ≤ k → k ≤ 11 → (∀ c, c < 48 → f (38 + 48 * r + c) = B k c) → f' (38 + 48 * r + c) = exWF G w B k c := fun r k hr h7 h11 hf => by
      rw [h38 r c hr hc, a1 k h7 h11, hf _ (xg_lt (by omega) (by omega) hc)]
      by_cases hg : c % 6 < G
      · congr 1
        unfold xg
        by_cases b1 : w * 6 ≤ c ∧ c < w * 6 + 6
        · rw [if_pos b1, if_pos (by omega)]
        · by_cases b2 : w * 6 + 6 ≤ c ∧ c < w * 6 + 6 + 6
          · rw [if_neg b1, if_pos b2, if_neg (by omega), if_pos (by omega)]
          · rw [if_neg b1, if_neg b2, if_neg (by omega), if_neg (by omega)]
      · have m1 : xg w 6 c % 6 = c % 6 := by
          unfold xg
          by_cases b1 : w * 6 ≤ c ∧ c < w * 6 + 6
          · rw [if_pos b1]; omega
          · rw [if_neg b1]
            by_cases b2 : w * 6 + 6 ≤ c ∧ c < w * 6 + 6 + 6
            · rw [if_pos b2]; omega
            · rw [if_neg b2]
        have m2 : xg w G c % 6 = c % 6 := by
          unfold xg
          by_cases b1 : w * 6 ≤ c ∧ c < w * 6 + G
          · rw [if_pos b1]; omega
          · rw [if_neg b1]
            by_cases b2 : w * 6 + 6 ≤ c ∧ c < w * 6 + 6 + G
            · rw [if_pos b2]; omega
            · rw [if_neg b2]
        rw [hz _ (xg_lt (by omega) (by omega) hc) (by omega) k h7 h11, hz _ (xg_lt g6 (by omega) hc) (by omega) k h7 h11]
    exact ⟨key 0 7 (by omega) (by omega) (by omega) (fun c hc => (k5 c hc).1), key 1 8 (by omega) (by omega) (by omega) (fun c hc => (k5 c hc).2.1), key 2 9 (by omega) (by omega) (by omega) (fun c hc => (k5 c hc).2.2.1), key 3 10 (by omega) (by omega) (by omega) (fun c hc => (k5 c hc).2.2.2.1), key 4 11 (by omega) (by omega) (by omega) (fun c hc => (k5 c hc).2.2.2.2)⟩
  · rw [a1 7 (by omega) (by omega), a1 8 (by omega) (by omega), a1 9 (by omega) (by omega), a1 10 (by omega) (by omega), a1 11 (by omega) (by omega)]
    exact k6 _ (xg_lt g6 (by omega) hc)
theorem c_change {a b : Nat} (ha : a < 278) (hb : b < 278) (hab : a ≠ b) (hK : K (.inl 0) (sb μ m 21 (va_up Q 10 (exR a b (Q 10))))) : mMet X (h + 1) m_X9_change [.inr (.inr (8, 0, m)), .inl (nI a), .inl (nI b)] (sb μ m 21 Q) K := by
  have e : u2 (u2 Q 10 a (Q 10 b)) 10 b (Q 10 a) = va_up Q 10 (exR a b (Q 10)) := by
    funext k j
    by_cases hk : k = 10
    · rw [hk, u2_at, u2_at, up_at]
      rfl
    · rw [u2_row hk, u2_row hk, up_row hk]
  rw [← e] at hK
  (refine vc_met2 P0_ok ok_X9_change cm_X9_change [] 6 t_X9_change_0 (Nat.le_of_ble_eq_true rfl) ?_; simp only [mArg_nil, mArg_I, mArg_L, mArg_A, Nat.reduceAdd])
  (try simp only [↓w_X9_change_0, ↓b_aload_n, ↓b_getA, ↓b_iaload, ↓n_iastore, ↓b_iload_n, ↓n_istore_n, ↓b_vret, ↓ldI_hit, ↓ldI_skip, ↓ldL_hit, ↓ldL_skip, ↓ldA_hit, ↓ldA_skip, ↓ldelK_nil, ↓ldelK_hit, ↓ldelK_skipI, ↓ldelK_skipA, ↓ldelK_skipL, lget_hit, lget_skip, ldel_nil, ldel_hit, ldel_skipI, ldel_skipA, ldel_skipL, ldel2_nil, ldel2_hit, ldel2_hit2, ldel2_skipI, ldel2_skipA, ldel2_skipL, vc_0, mCall_P0, mCat_nil, mCat_I, mCat_L, mCat_A, mRcv_A, mArg_nil, mArg_I, mArg_L, mArg_A, tsg, swt_nil, swt_cons, lkw_nil, lkw_cons, ↓reduceIte, Nat.reduceAdd, Nat.reduceEqDiff, Nat.reduceLeDiff, Nat.reduceMul, true_and, and_true, and_self, List.mem_cons, List.not_mem_nil, or_false, or_self, false_or, true_implies, false_implies, not_true_eq_false, not_false_eq_true, nI00, nI10, nI01, nI11, forall_const, implies_true])
  (try simp (disch := omega) only [ixq, ixz, sb_in, sb_in0, upI_sb, upI_sb0, sb_out, nI_add, nI_mul, nI_subq, Nat.zero_add, forall_eq, u2_at, u2_row, upd_at, upd_ne, nI0b, nI1b, nI00, nI10, nI01, nI11, true_implies, false_implies, not_true_eq_false, not_false_eq_true, and_true, true_and, implies_true])
  exact hK
theorem vup_vup {k : Nat} {F F' : Nat → Int32} : va_up (va_up Q k F) k F' = va_up Q k F' := by
  funext j
  by_cases hj : j = k
  · rw [hj, up_at, up_at]
  · rw [up_row hj, up_row hj, up_row hj]
theorem xs_s {r g : Nat} (hr : r < 5) (hg : g < 6) (hw : w + 1 < 8) : exR (38 + 48 * r + (w * 6 + g)) (38 + 48 * r + ((w + 1) * 6 + g)) (fun j => f (xs w (6 * r + g) j)) = fun j => f (xs w (6 * r + g + 1) j) := by
  funext j
  rw [exR_p (by omega)]
  congr 1
  unfold xs
  by_cases a1 : j = 38 + 48 * r + (w * 6 + g)
  · rw [if_pos a1, if_neg (by omega), if_neg (by omega), if_pos (by omega)]; omega
  · by_cases a2 : j = 38 + 48 * r + ((w + 1) * 6 + g)
    · rw [if_neg a1, if_pos a2, if_neg (by omega), if_neg (by omega), if_neg (by omega), if_pos (by omega)]; omega
    · rw [if_neg a1, if_neg a2]
      by_cases b1 : 38 ≤ j ∧ (j - 38) % 48 / 6 = w ∧ 6 * ((j - 38) / 48) + (j - 38) % 6 < 6 * r + g
      · rw [if_pos b1, if_pos (by omega)]
      · by_cases b2 : 38 ≤ j ∧ (j - 38) % 48 / 6 = w + 1 ∧ 6 * ((j - 38) / 48) + (j - 38) % 6 < 6 * r + g
        · rw [if_neg b1, if_pos b2, if_neg (by omega), if_pos (by omega)]
        · rw [if_neg b1, if_neg b2, if_neg (by omega), if_neg (by omega)]
theorem xs_0 : (fun j => f (xs w 0 j)) = f := by
  funext j
  unfold xs
  rw [if_neg (by omega), if_neg (by omega)]
theorem f_exchanged {t : Int32} (hx : x + 164 = m) (hr : Rel x m μ) : PAIR X (h + 9) m_X8_exchanged m_X9_exchanged x m [.inl t] μ := by
  obtain ⟨G, W, rb, pl, sn, rn⟩ := id hr.2.2.1
  have b0 : μ.1 (x + 4) 0 = nI G := rb.b0
  have b1 : μ.1 (x + 4) 1 = nI W := rb.b1
  have q0 : bk μ m 2 0 = nI G := rb.q0
  have q1 : bk μ m 2 1 = nI W := rb.q1
  have g6 := rb.g6
  have w8 := rb.w8
  by_cases ht : ∃ k, 1 ≤ k ∧ k ≤ 200 ∧ t = nI k
  · obtain ⟨d, d1, d2, rfl⟩ := ht
    have hF0 := RBB_FB rb
    have hz : ∀ c, c < 48 → G ≤ c % 6 → ∀ k, 7 ≤ k → k ≤ 11 → bk μ (x + 4) k c = nI 0 := fun c hc hg k h7 h11 => by
      obtain ⟨t, s, a, y, e0, t9, s9, a9, y9, e9, ts, zz, k7, k8, k9, k10, k11⟩ := rb.cb c hc
      obtain ⟨z1, z2, z3⟩ := zz (Or.inr hg)
      have s0 := ts z1
      have a0 : a = 0 := by omega
      subst z1 z2 z3 s0 a0
      have hc' : k = 7 ∨ k = 8 ∨ k = 9 ∨ k = 10 ∨ k = 11 := by omega
      rcases hc' with rfl | rfl | rfl | rfl | rfl
      · exact k7
      · exact k8
      · exact k9
      · exact k10
      · exact k11
    have fbx : ∀ f, FB G W f (bk μ (x + 4)) → ∀ w, w + 1 < W → FB G W (fun j => exR (30 + w) (30 + w + 1) (exR (22 + w) (22 + w + 1) (exR (14 + w) (14 + w + 1) f)) (xs w 30 j)) (exWF G w (bk μ (x + 4))) := fun f hF w hw => by
      have low : ∀ j, j < 38 → xs w 30 j = j := fun j hj => by
        unfold xs
        rw [if_neg (by omega), if_neg (by omega)]
      have s3 : ∀ j, exR (30 + w) (30 + w + 1) (exR (22 + w) (22 + w + 1) (exR (14 + w) (14 + w + 1) f)) j = f (sw (14 + w) (sw (22 + w) (sw (30 + w) j))) := fun j => by
        rw [exR_1, exR_1, exR_1]
      have so : ∀ a j, (j < a ∨ a + 1 < j) → sw a j = j := fun a j hj => by
        unfold sw
        rw [if_neg (by omega), if_neg (by omega)]
      have sa : ∀ a j, sw (a + w) (a + j) = a + sw w j := fun a j => by
        unfold sw
        by_cases z : j = w
        · rw [if_pos (by omega), if_pos z]; omega
        · by_cases y : j = w + 1
          · rw [if_neg (by omega), if_pos (by omega), if_neg z, if_pos y]
          · rw [if_neg (by omega), if_neg (by omega), if_neg z, if_neg y]
      refine FB_ex hF g6 w8 hw hz ?_ (fun g hg => ?_) (fun j hj => ⟨?_, ?_, ?_⟩) (fun r c hr hc => ?_)
      · show _ = f 2
        rw [low 2 (by omega), s3, so (30 + w) 2 (by omega), so (22 + w) 2 (by omega), so (14 + w) 2 (by omega)]
      · rw [low _ (by omega), s3, so (30 + w) _ (by omega), so (22 + w) _ (by omega), so (14 + w) _ (by omega)]
      · have l := sw_lt (w := w) (by omega) hj
        rw [low _ (by omega), s3, so (30 + w) _ (by omega), so (22 + w) _ (by omega), sa]
      · have l := sw_lt (w := w) (by omega) hj
        rw [low _ (by omega), s3, so (30 + w) _ (by omega), sa, so (14 + w) _ (by omega)]
      · have l := sw_lt (w := w) (by omega) hj
        rw [low _ (by omega), s3, sa, so (22 + w) _ (by omega), so (14 + w) _ (by omega)]
      · have l := xg_lt (w := w) (G := 6) (by omega) (by omega) hc
        have e : xs w 30 (38 + 48 * r + c) = 38 + 48 * r + xg w 6 c := by
          unfold xs xg
          by_cases b1 : w * 6 ≤ c ∧ c < w * 6 + 6
          · rw [if_pos (by omega), if_pos b1]; omega
          · by_cases b2 : w * 6 + 6 ≤ c ∧ c < w * 6 + 6 + 6
            · rw [if_neg (by omega), if_pos (by omega), if_neg b1, if_pos b2]; omega
            · rw [if_neg (by omega), if_neg (by omega), if_neg b1, if_neg b2]
        rw [e, s3, so (30 + w) _ (by omega), so (22 + w) _ (by omega), so (14 + w) _ (by omega)]
    have hb : ∀ w, w + 1 < W → ∃ v, v ≤ 158400 ∧ totF W (exWF G w (bk μ (x + 4))) (runC G W (exWF G w (bk μ (x + 4))) (fun _ => nI 1 <<< (nI W &&& 31) - nI 1) (fun _ _ => nI 0) d) = nI v := fun w hw =>
      tot_small (fbx _ hF0 w hw) g6 w8 (fun w' hw' => by
        obtain ⟨_, k, k1, k2, _⟩ := rb.mk (sw w w') (sw_lt (by omega) (by omega))
        exact ⟨k, k1, by rw [(exW_at (w := w) (B := bk μ (x + 4)) g6).2.1 6 (by omega) (by omega)]; exact k2⟩) d2
    obtain ⟨tv, htv⟩ : ∃ tv : Nat → Nat, ∀ w, w + 1 < W → tv w ≤ 158400 ∧ totF W (exWF G w (bk μ (x + 4))) (runC G W (exWF G w (bk μ (x + 4))) (fun _ => nI 1 <<< (nI W &&& 31) - nI 1) (fun _ _ => nI 0) d) = nI (tv w) :=
      ⟨fun w => if hw : w + 1 < W then Classical.choose (hb w hw) else 0, fun w hw => by
        dsimp only
        rw [dif_pos hw]
        exact Classical.choose_spec (hb w hw)⟩
    clear hb
    refine pairC (.inl (bsB (bsR tv (W - 1) 0 (0, 0, 0)))) hx hr (fun K hK => ?_) (fun μ1 Q e K hK => ?_)
    · (refine vc_met2 P2_ok ok_X8_exchanged cm_X8_exchanged [9,27,89] 8 t_X8_exchanged_0 (Nat.le_of_ble_eq_true rfl) ?_; simp only [mArg_nil, mArg_I, mArg_L, mArg_A, Nat.reduceAdd])
      have main : ∀ i w μ1 s, frZ x μ μ1 → eqB (bk μ (x + 4)) (bk μ1 (x + 16)) → bsOk s → w + i = W - 1 → (∀ μ2, frZ x μ μ2 → K (.inl (bsB (bsR tv i w s))) μ2) → bb X P2 m_X8_exchanged (h + 8) K (vc X P2 m_X8_exchanged (h + 8) K k_X8_exchanged [9,27,89] 8) s_X8_exchanged_27 [(4, .inl (nI w)), (3, .inl (bsM s)), (2, .inl (bsB s)), (0, .inr (.inr (7, 0, x))), (1, .inl (nI d))] [] μ1 := by
        intro i
        induction i with
        | zero =>
          intro w μ1 s f1 he hs hw hK
          have b1' : μ1.1 (x + 4) 1 = nI W := by rw [f1.2 4 (by omega)]; exact b1
          (try simp only [↓w_X8_exchanged_0, ↓w_X8_exchanged_9, ↓w_X8_exchanged_27, ↓w_X8_exchanged_95, ↓v_X8_exchanged_9, ↓v_X8_exchanged_27, ↓v_X8_exchanged_89, ↓v_X8_exchanged_95, ↓b_aload_n, ↓b_callS1_1, ↓b_callV1_1, ↓b_callV2_0, ↓b_callV4_1, ↓b_getA, ↓b_getI, ↓b_goto, ↓b_iadd, ↓b_ic_ge, ↓b_ic_le, ↓b_iconst, ↓b_if_ne, ↓n_iinc, ↓b_iload, ↓b_iload_n, ↓b_iret, ↓n_istore, ↓n_istore_n, ↓ldI_hit, ↓ldI_skip, ↓ldL_hit, ↓ldL_skip, ↓ldA_hit, ↓ldA_skip, ↓ldelK_nil, ↓ldelK_hit, ↓ldelK_skipI, ↓ldelK_skipA, ↓ldelK_skipL, qP2_X0_allWorks, qP2_X0_copyFrom, qP2_X0_exchangeWithNext, qP2_X8_areHours, qP2_X8_madeAlone, ↓bI_b, bI_0, nnot, lget_hit, lget_skip, ldel_nil, ldel_hit, ldel_skipI, ldel_skipA, ldel_skipL, ldel2_nil, ldel2_hit, ldel2_hit2, ldel2_skipI, ldel2_skipA, ldel2_skipL, vc_0, mCat_nil, mCat_I, mCat_L, mCat_A, mRcv_A, mArg_nil, mArg_I, mArg_L, mArg_A, tsg, swt_nil, swt_cons, lkw_nil, lkw_cons, ↓reduceIte, Nat.reduceAdd, Nat.reduceEqDiff, Nat.reduceLeDiff, Nat.reduceMul, true_and, and_true, and_self, List.mem_cons, List.not_mem_nil, or_false, or_self, false_or, true_implies, false_implies, not_true_eq_false, not_false_eq_true, nI00, nI10, nI01, nI11, forall_const, implies_true])
          (try simp (disch := omega) only [ixq, ixz, sb_in, sb_in0, upI_sb, upI_sb0, sb_out, nI_add, nI_mul, nI_subq, Nat.zero_add, forall_eq, u2_at, u2_row, upd_at, upd_ne, nI0b, nI1b, nI00, nI10, nI01, nI11, true_implies, false_implies, not_true_eq_false, not_false_eq_true, and_true, true_and, implies_true, b1', nI_lq])
          exact ⟨fun _ => hK μ1 f1, fun z => absurd (show W ≤ w + 1 by omega) z⟩
        | succ i ih =>
          intro w μ1 s f1 he hs hw hK
          have b1' : μ1.1 (x + 4) 1 = nI W := by rw [f1.2 4 (by omega)]; exact b1
          have e00 := eqB_0 he
          (try simp only [↓w_X8_exchanged_0, ↓w_X8_exchanged_9, ↓w_X8_exchanged_27, ↓w_X8_exchanged_95, ↓v_X8_exchanged_9, ↓v_X8_exchanged_27, ↓v_X8_exchanged_89, ↓v_X8_exchanged_95, ↓b_aload_n, ↓b_callS1_1, ↓b_callV1_1, ↓b_callV2_0, ↓b_callV4_1, ↓b_getA, ↓b_getI, ↓b_goto, ↓b_iadd, ↓b_ic_ge, ↓b_ic_le, ↓b_iconst, ↓b_if_ne, ↓n_iinc, ↓b_iload, ↓b_iload_n, ↓b_iret, ↓n_istore, ↓n_istore_n, ↓ldI_hit, ↓ldI_skip, ↓ldL_hit, ↓ldL_skip, ↓ldA_hit, ↓ldA_skip, ↓ldelK_nil, ↓ldelK_hit, ↓ldelK_skipI, ↓ldelK_skipA, ↓ldelK_skipL, qP2_X0_allWorks, qP2_X0_copyFrom, qP2_X0_exchangeWithNext, qP2_X8_areHours, qP2_X8_madeAlone, ↓bI_b, bI_0, nnot, lget_hit, lget_skip, ldel_nil, ldel_hit, ldel_skipI, ldel_skipA, ldel_skipL, ldel2_nil, ldel2_hit, ldel2_hit2, ldel2_skipI, ldel2_skipA, ldel2_skipL, vc_0, mCat_nil, mCat_I, mCat_L, mCat_A, mRcv_A, mArg_nil, mArg_I, mArg_L, mArg_A, tsg, swt_nil, swt_cons, lkw_nil, lkw_cons, ↓reduceIte, Nat.reduceAdd, Nat.reduceEqDiff, Nat.reduceLeDiff, Nat.reduceMul, true_and, and_true, and_self, List.mem_cons, List.not_mem_nil, or_false, or_self, false_or, true_implies, false_implies, not_true_eq_false, not_false_eq_true, nI00, nI10, nI01, nI11, forall_const, implies_true])
          (try simp (disch := omega) only [ixq, ixz, sb_in, sb_in0, upI_sb, upI_sb0, sb_out, nI_add, nI_mul, nI_subq, Nat.zero_add, forall_eq, u2_at, u2_row, upd_at, upd_ne, nI0b, nI1b, nI00, nI10, nI01, nI11, true_implies, false_implies, not_true_eq_false, not_false_eq_true, and_true, true_and, implies_true, b1', nI_lq])
          refine ⟨fun z => by omega, fun _ => ?_⟩
          refine cls_in (i := x + 16) (n := 12) ?_
          refine c_exWithNext (G := G) (by omega) (e00.1.trans rb.b0) g6 ?_
          have eB : eqB (exWF G w (bk μ (x + 4))) (bk (sb μ1 (x + 16) 12 (exWF G w (bk μ1 (x + 16)))) (x + 16)) := eqB_t (eqB_ex g6 (by omega) he) (eqB_k (fun k hk => sb_in hk))
          have fu : frZ x μ (sb μ1 (x + 16) 12 (exWF G w (bk μ1 (x + 16)))) := frZ_sb f1 (by omega)
          have c1' : (sb μ1 (x + 16) 12 (exWF G w (bk μ1 (x + 16)))).1 (x + 4) 1 = nI W := by rw [fu.2 4 (by omega)]; exact b1
          generalize sb μ1 (x + 16) 12 (exWF G w (bk μ1 (x + 16))) = μ3 at eB fu c1' ⊢
          have e0 := eqB_0 eB
          rw [(exW_at (w := w) (B := bk μ (x + 4)) g6).2.2 0 (by omega)] at e0
          (try simp only [↓w_X8_exchanged_0, ↓w_X8_exchanged_9, ↓w_X8_exchanged_27, ↓w_X8_exchanged_95, ↓v_X8_exchanged_9, ↓v_X8_exchanged_27, ↓v_X8_exchanged_89, ↓v_X8_exchanged_95, ↓b_aload_n, ↓b_callS1_1, ↓b_callV1_1, ↓b_callV2_0, ↓b_callV4_1, ↓b_getA, ↓b_getI, ↓b_goto, ↓b_iadd, ↓b_ic_ge, ↓b_ic_le, ↓b_iconst, ↓b_if_ne, ↓n_iinc, ↓b_iload, ↓b_iload_n, ↓b_iret, ↓n_istore, ↓n_istore_n, ↓ldI_hit, ↓ldI_skip, ↓ldL_hit, ↓ldL_skip, ↓ldA_hit, ↓ldA_skip, ↓ldelK_nil, ↓ldelK_hit, ↓ldelK_skipI, ↓ldelK_skipA, ↓ldelK_skipL, qP2_X0_allWorks, qP2_X0_copyFrom, qP2_X0_exchangeWithNext, qP2_X8_areHours, qP2_X8_madeAlone, ↓bI_b, bI_0, nnot, lget_hit, lget_skip, ldel_nil, ldel_hit, ldel_skipI, ldel_skipA, ldel_skipL, ldel2_nil, ldel2_hit, ldel2_hit2, ldel2_skipI, ldel2_skipA, ldel2_skipL, vc_0, mCat_nil, mCat_I, mCat_L, mCat_A, mRcv_A, mArg_nil, mArg_I, mArg_L, mArg_A, tsg, swt_nil, swt_cons, lkw_nil, lkw_cons, ↓reduceIte, Nat.reduceAdd, Nat.reduceEqDiff, Nat.reduceLeDiff, Nat.reduceMul, true_and, and_true, and_self, List.mem_cons, List.not_mem_nil, or_false, or_self, false_or, true_implies, false_implies, not_true_eq_false, not_false_eq_true, nI00, nI10, nI01, nI11, forall_const, implies_true])
          (try simp (disch := omega) only [ixq, ixz, sb_in, sb_in0, upI_sb, upI_sb0, sb_out, nI_add, nI_mul, nI_subq, Nat.zero_add, forall_eq, u2_at, u2_row, upd_at, upd_ne, nI0b, nI1b, nI00, nI10, nI01, nI11, true_implies, false_implies, not_true_eq_false, not_false_eq_true, and_true, true_and, implies_true, c1'])
          refine d_madeAlone (b := x + 16) (B := bk μ3 (x + 16)) (G := G) (W := W) d2 fu (fun _ _ => rfl) (by omega) (e0.1.trans rb.b0) g6 (e0.2.trans rb.b1) w8 (fun μ2 f2 o2 _ => ?_)
          rw [tot_eq (R := fun _ _ => nI 0) (fbx _ hF0 w (by omega)) g6 w8 eB d2, (htv w (by omega)).2]
          have v4 := (htv w (by omega)).1
          have eB2 : eqB (exWF G w (bk μ (x + 4))) (bk μ2 (x + 16)) := eqB_t eB (eqB_k (fun k hk => o2 _ (by omega)))
          have e02 := eqB_0 eB2
          rw [(exW_at (w := w) (B := bk μ (x + 4)) g6).2.2 0 (by omega)] at e02
          (try simp only [↓w_X8_exchanged_0, ↓w_X8_exchanged_9, ↓w_X8_exchanged_27, ↓w_X8_exchanged_95, ↓v_X8_exchanged_9, ↓v_X8_exchanged_27, ↓v_X8_exchanged_89, ↓v_X8_exchanged_95, ↓b_aload_n, ↓b_callS1_1, ↓b_callV1_1, ↓b_callV2_0, ↓b_callV4_1, ↓b_getA, ↓b_getI, ↓b_goto, ↓b_iadd, ↓b_ic_ge, ↓b_ic_le, ↓b_iconst, ↓b_if_ne, ↓n_iinc, ↓b_iload, ↓b_iload_n, ↓b_iret, ↓n_istore, ↓n_istore_n, ↓ldI_hit, ↓ldI_skip, ↓ldL_hit, ↓ldL_skip, ↓ldA_hit, ↓ldA_skip, ↓ldelK_nil, ↓ldelK_hit, ↓ldelK_skipI, ↓ldelK_skipA, ↓ldelK_skipL, qP2_X0_allWorks, qP2_X0_copyFrom, qP2_X0_exchangeWithNext, qP2_X8_areHours, qP2_X8_madeAlone, ↓bI_b, bI_0, nnot, lget_hit, lget_skip, ldel_nil, ldel_hit, ldel_skipI, ldel_skipA, ldel_skipL, ldel2_nil, ldel2_hit, ldel2_hit2, ldel2_skipI, ldel2_skipA, ldel2_skipL, vc_0, mCat_nil, mCat_I, mCat_L, mCat_A, mRcv_A, mArg_nil, mArg_I, mArg_L, mArg_A, tsg, swt_nil, swt_cons, lkw_nil, lkw_cons, ↓reduceIte, Nat.reduceAdd, Nat.reduceEqDiff, Nat.reduceLeDiff, Nat.reduceMul, true_and, and_true, and_self, List.mem_cons, List.not_mem_nil, or_false, or_self, false_or, true_implies, false_implies, not_true_eq_false, not_false_eq_true, nI00, nI10, nI01, nI11, forall_const, implies_true])
          (try simp (disch := omega) only [ixq, ixz, sb_in, sb_in0, upI_sb, upI_sb0, sb_out, nI_add, nI_mul, nI_subq, Nat.zero_add, forall_eq, u2_at, u2_row, upd_at, upd_ne, nI0b, nI1b, nI00, nI10, nI01, nI11, true_implies, false_implies, not_true_eq_false, not_false_eq_true, and_true, true_and, implies_true])
          refine cls_in (i := x + 16) (n := 12) ?_
          refine c_exWithNext (G := G) (by omega) (e02.1.trans rb.b0) g6 ?_
          have a1 : frZ x μ (sb μ2 (x + 16) 12 (exWF G w (bk μ2 (x + 16)))) := frZ_sb f2 (by omega)
          have a2 : eqB (bk μ (x + 4)) (bk (sb μ2 (x + 16) 12 (exWF G w (bk μ2 (x + 16)))) (x + 16)) := by
            have z := eqB_ex (w := w) g6 (by omega) eB2
            rw [ex_ex g6] at z
            exact eqB_t z (eqB_k (fun k hk => sb_in hk))
          generalize sb μ2 (x + 16) 12 (exWF G w (bk μ2 (x + 16))) = μ4 at a1 a2 ⊢
          have le := bs_le hs v4
          have hs' := bsS_ok (b := w) hs (by omega) v4
          have i2 := ih (w + 1) _ (bsS w (tv w) s) a1 a2 hs' (by omega) hK
          clear ih
          by_cases hc : s.1 = 0 ∨ s.2.2 < tv w
          · rw [bs_t hc, bsB_1, bsM_1] at i2
            have le2 : (nI (tv w) ≤ bsM s) = False := by rw [le]; exact eq_false (fun z => z hc)
            (try simp only [↓w_X8_exchanged_0, ↓w_X8_exchanged_9, ↓w_X8_exchanged_27, ↓w_X8_exchanged_95, ↓v_X8_exchanged_9, ↓v_X8_exchanged_27, ↓v_X8_exchanged_89, ↓v_X8_exchanged_95, ↓b_aload_n, ↓b_callS1_1, ↓b_callV1_1, ↓b_callV2_0, ↓b_callV4_1, ↓b_getA, ↓b_getI, ↓b_goto, ↓b_iadd, ↓b_ic_ge, ↓b_ic_le, ↓b_iconst, ↓b_if_ne, ↓n_iinc, ↓b_iload, ↓b_iload_n, ↓b_iret, ↓n_istore, ↓n_istore_n, ↓ldI_hit, ↓ldI_skip, ↓ldL_hit, ↓ldL_skip, ↓ldA_hit, ↓ldA_skip, ↓ldelK_nil, ↓ldelK_hit, ↓ldelK_skipI, ↓ldelK_skipA, ↓ldelK_skipL, qP2_X0_allWorks, qP2_X0_copyFrom, qP2_X0_exchangeWithNext, qP2_X8_areHours, qP2_X8_madeAlone, ↓bI_b, bI_0, nnot, lget_hit, lget_skip, ldel_nil, ldel_hit, ldel_skipI, ldel_skipA, ldel_skipL, ldel2_nil, ldel2_hit, ldel2_hit2, ldel2_skipI, ldel2_skipA, ldel2_skipL, vc_0, mCat_nil, mCat_I, mCat_L, mCat_A, mRcv_A, mArg_nil, mArg_I, mArg_L, mArg_A, tsg, swt_nil, swt_cons, lkw_nil, lkw_cons, ↓reduceIte, Nat.reduceAdd, Nat.reduceEqDiff, Nat.reduceLeDiff, Nat.reduceMul, true_and, and_true, and_self, List.mem_cons, List.not_mem_nil, or_false, or_self, false_or, true_implies, false_implies, not_true_eq_false, not_false_eq_true, nI00, nI10, nI01, nI11, forall_const, implies_true, le2])
            (try simp (disch := omega) only [ixq, ixz, sb_in, sb_in0, upI_sb, upI_sb0, sb_out, nI_add, nI_mul, nI_subq, Nat.zero_add, forall_eq, u2_at, u2_row, upd_at, upd_ne, nI0b, nI1b, nI00, nI10, nI01, nI11, true_implies, false_implies, not_true_eq_false, not_false_eq_true, and_true, true_and, implies_true, le2])
            (try simp only [↓w_X8_exchanged_0, ↓w_X8_exchanged_9, ↓w_X8_exchanged_27, ↓w_X8_exchanged_89, ↓w_X8_exchanged_95, ↓v_X8_exchanged_9, ↓v_X8_exchanged_27, ↓v_X8_exchanged_89, ↓v_X8_exchanged_95, ↓b_aload_n, ↓b_callS1_1, ↓b_callV1_1, ↓b_callV2_0, ↓b_callV4_1, ↓b_getA, ↓b_getI, ↓b_goto, ↓b_iadd, ↓b_ic_ge, ↓b_ic_le, ↓b_iconst, ↓b_if_ne, ↓n_iinc, ↓b_iload, ↓b_iload_n, ↓b_iret, ↓n_istore, ↓n_istore_n, ↓ldI_hit, ↓ldI_skip, ↓ldL_hit, ↓ldL_skip, ↓ldA_hit, ↓ldA_skip, ↓ldelK_nil, ↓ldelK_hit, ↓ldelK_skipI, ↓ldelK_skipA, ↓ldelK_skipL, qP2_X0_allWorks, qP2_X0_copyFrom, qP2_X0_exchangeWithNext, qP2_X8_areHours, qP2_X8_madeAlone, ↓bI_b, bI_0, nnot, lget_hit, lget_skip, ldel_nil, ldel_hit, ldel_skipI, ldel_skipA, ldel_skipL, ldel2_nil, ldel2_hit, ldel2_hit2, ldel2_skipI, ldel2_skipA, ldel2_skipL, vc_0, mCat_nil, mCat_I, mCat_L, mCat_A, mRcv_A, mArg_nil, mArg_I, mArg_L, mArg_A, tsg, swt_nil, swt_cons, lkw_nil, lkw_cons, ↓reduceIte, Nat.reduceAdd, Nat.reduceEqDiff, Nat.reduceLeDiff, Nat.reduceMul, true_and, and_true, and_self, List.mem_cons, List.not_mem_nil, or_false, or_self, false_or, true_implies, false_implies, not_true_eq_false, not_false_eq_true, nI00, nI10, nI01, nI11, forall_const, implies_true])
            (try simp (disch := omega) only [ixq, ixz, sb_in, sb_in0, upI_sb, upI_sb0, sb_out, nI_add, nI_mul, nI_subq, Nat.zero_add, forall_eq, u2_at, u2_row, upd_at, upd_ne, nI0b, nI1b, nI00, nI10, nI01, nI11, true_implies, false_implies, not_true_eq_false, not_false_eq_true, and_true, true_and, implies_true])
            exact vc_back P2_ok ok_X8_exchanged [9,27,89] 8 t_X8_exchanged_27 (i2) (by simp) (rfl)
          · rw [bs_f hc] at i2
            have le2 : (nI (tv w) ≤ bsM s) = True := by rw [le]; exact eq_true hc
            (try simp only [↓w_X8_exchanged_0, ↓w_X8_exchanged_9, ↓w_X8_exchanged_27, ↓w_X8_exchanged_95, ↓v_X8_exchanged_9, ↓v_X8_exchanged_27, ↓v_X8_exchanged_89, ↓v_X8_exchanged_95, ↓b_aload_n, ↓b_callS1_1, ↓b_callV1_1, ↓b_callV2_0, ↓b_callV4_1, ↓b_getA, ↓b_getI, ↓b_goto, ↓b_iadd, ↓b_ic_ge, ↓b_ic_le, ↓b_iconst, ↓b_if_ne, ↓n_iinc, ↓b_iload, ↓b_iload_n, ↓b_iret, ↓n_istore, ↓n_istore_n, ↓ldI_hit, ↓ldI_skip, ↓ldL_hit, ↓ldL_skip, ↓ldA_hit, ↓ldA_skip, ↓ldelK_nil, ↓ldelK_hit, ↓ldelK_skipI, ↓ldelK_skipA, ↓ldelK_skipL, qP2_X0_allWorks, qP2_X0_copyFrom, qP2_X0_exchangeWithNext, qP2_X8_areHours, qP2_X8_madeAlone, ↓bI_b, bI_0, nnot, lget_hit, lget_skip, ldel_nil, ldel_hit, ldel_skipI, ldel_skipA, ldel_skipL, ldel2_nil, ldel2_hit, ldel2_hit2, ldel2_skipI, ldel2_skipA, ldel2_skipL, vc_0, mCat_nil, mCat_I, mCat_L, mCat_A, mRcv_A, mArg_nil, mArg_I, mArg_L, mArg_A, tsg, swt_nil, swt_cons, lkw_nil, lkw_cons, ↓reduceIte, Nat.reduceAdd, Nat.reduceEqDiff, Nat.reduceLeDiff, Nat.reduceMul, true_and, and_true, and_self, List.mem_cons, List.not_mem_nil, or_false, or_self, false_or, true_implies, false_implies, not_true_eq_false, not_false_eq_true, nI00, nI10, nI01, nI11, forall_const, implies_true, le2])
            (try simp (disch := omega) only [ixq, ixz, sb_in, sb_in0, upI_sb, upI_sb0, sb_out, nI_add, nI_mul, nI_subq, Nat.zero_add, forall_eq, u2_at, u2_row, upd_at, upd_ne, nI0b, nI1b, nI00, nI10, nI01, nI11, true_implies, false_implies, not_true_eq_false, not_false_eq_true, and_true, true_and, implies_true, le2])
            (refine vc_from P2_ok ok_X8_exchanged [9,27,89] 8 ?_; rw [t_X8_exchanged_89])
            (try simp only [↓w_X8_exchanged_0, ↓w_X8_exchanged_9, ↓w_X8_exchanged_27, ↓w_X8_exchanged_89, ↓w_X8_exchanged_95, ↓v_X8_exchanged_9, ↓v_X8_exchanged_27, ↓v_X8_exchanged_89, ↓v_X8_exchanged_95, ↓b_aload_n, ↓b_callS1_1, ↓b_callV1_1, ↓b_callV2_0, ↓b_callV4_1, ↓b_getA, ↓b_getI, ↓b_goto, ↓b_iadd, ↓b_ic_ge, ↓b_ic_le, ↓b_iconst, ↓b_if_ne, ↓n_iinc, ↓b_iload, ↓b_iload_n, ↓b_iret, ↓n_istore, ↓n_istore_n, ↓ldI_hit, ↓ldI_skip, ↓ldL_hit, ↓ldL_skip, ↓ldA_hit, ↓ldA_skip, ↓ldelK_nil, ↓ldelK_hit, ↓ldelK_skipI, ↓ldelK_skipA, ↓ldelK_skipL, qP2_X0_allWorks, qP2_X0_copyFrom, qP2_X0_exchangeWithNext, qP2_X8_areHours, qP2_X8_madeAlone, ↓bI_b, bI_0, nnot, lget_hit, lget_skip, ldel_nil, ldel_hit, ldel_skipI, ldel_skipA, ldel_skipL, ldel2_nil, ldel2_hit, ldel2_hit2, ldel2_skipI, ldel2_skipA, ldel2_skipL, vc_0, mCat_nil, mCat_I, mCat_L, mCat_A, mRcv_A, mArg_nil, mArg_I, mArg_L, mArg_A, tsg, swt_nil, swt_cons, lkw_nil, lkw_cons, ↓reduceIte, Nat.reduceAdd, Nat.reduceEqDiff, Nat.reduceLeDiff, Nat.reduceMul, true_and, and_true, and_self, List.mem_cons, List.not_mem_nil, or_false, or_self, false_or, true_implies, false_implies, not_true_eq_false, not_false_eq_true, nI00, nI10, nI01, nI11, forall_const, implies_true])
            (try simp (disch := omega) only [ixq, ixz, sb_in, sb_in0, upI_sb, upI_sb0, sb_out, nI_add, nI_mul, nI_subq, Nat.zero_add, forall_eq, u2_at, u2_row, upd_at, upd_ne, nI0b, nI1b, nI00, nI10, nI01, nI11, true_implies, false_implies, not_true_eq_false, not_false_eq_true, and_true, true_and, implies_true])
            exact vc_back P2_ok ok_X8_exchanged [9,27,89] 8 t_X8_exchanged_27 (i2) (by simp) (rfl)
      (try simp only [↓w_X8_exchanged_0, ↓w_X8_exchanged_89, ↓w_X8_exchanged_95, ↓v_X8_exchanged_9, ↓v_X8_exchanged_27, ↓v_X8_exchanged_89, ↓v_X8_exchanged_95, ↓b_aload_n, ↓b_callS1_1, ↓b_callV1_1, ↓b_callV2_0, ↓b_callV4_1, ↓b_getA, ↓b_getI, ↓b_goto, ↓b_iadd, ↓b_ic_ge, ↓b_ic_le, ↓b_iconst, ↓b_if_ne, ↓n_iinc, ↓b_iload, ↓b_iload_n, ↓b_iret, ↓n_istore, ↓n_istore_n, ↓ldI_hit, ↓ldI_skip, ↓ldL_hit, ↓ldL_skip, ↓ldA_hit, ↓ldA_skip, ↓ldelK_nil, ↓ldelK_hit, ↓ldelK_skipI, ↓ldelK_skipA, ↓ldelK_skipL, qP2_X0_allWorks, qP2_X0_copyFrom, qP2_X0_exchangeWithNext, qP2_X8_areHours, qP2_X8_madeAlone, ↓bI_b, bI_0, nnot, lget_hit, lget_skip, ldel_nil, ldel_hit, ldel_skipI, ldel_skipA, ldel_skipL, ldel2_nil, ldel2_hit, ldel2_hit2, ldel2_skipI, ldel2_skipA, ldel2_skipL, vc_0, mCat_nil, mCat_I, mCat_L, mCat_A, mRcv_A, mArg_nil, mArg_I, mArg_L, mArg_A, tsg, swt_nil, swt_cons, lkw_nil, lkw_cons, ↓reduceIte, Nat.reduceAdd, Nat.reduceEqDiff, Nat.reduceLeDiff, Nat.reduceMul, true_and, and_true, and_self, List.mem_cons, List.not_mem_nil, or_false, or_self, false_or, true_implies, false_implies, not_true_eq_false, not_false_eq_true, nI00, nI10, nI01, nI11, forall_const, implies_true])
      (try simp (disch := omega) only [ixq, ixz, sb_in, sb_in0, upI_sb, upI_sb0, sb_out, nI_add, nI_mul, nI_subq, Nat.zero_add, forall_eq, u2_at, u2_row, upd_at, upd_ne, nI0b, nI1b, nI00, nI10, nI01, nI11, true_implies, false_implies, not_true_eq_false, not_false_eq_true, and_true, true_and, implies_true, hin, hik])
      (refine vc_from P2_ok ok_X8_exchanged [9,27,89] 8 ?_; rw [t_X8_exchanged_9])
      (try simp only [↓w_X8_exchanged_0, ↓w_X8_exchanged_9, ↓w_X8_exchanged_89, ↓w_X8_exchanged_95, ↓v_X8_exchanged_9, ↓v_X8_exchanged_27, ↓v_X8_exchanged_89, ↓v_X8_exchanged_95, ↓b_aload_n, ↓b_callS1_1, ↓b_callV1_1, ↓b_callV2_0, ↓b_callV4_1, ↓b_getA, ↓b_getI, ↓b_goto, ↓b_iadd, ↓b_ic_ge, ↓b_ic_le, ↓b_iconst, ↓b_if_ne, ↓n_iinc, ↓b_iload, ↓b_iload_n, ↓b_iret, ↓n_istore, ↓n_istore_n, ↓ldI_hit, ↓ldI_skip, ↓ldL_hit, ↓ldL_skip, ↓ldA_hit, ↓ldA_skip, ↓ldelK_nil, ↓ldelK_hit, ↓ldelK_skipI, ↓ldelK_skipA, ↓ldelK_skipL, qP2_X0_allWorks, qP2_X0_copyFrom, qP2_X0_exchangeWithNext, qP2_X8_areHours, qP2_X8_madeAlone, ↓bI_b, bI_0, nnot, lget_hit, lget_skip, ldel_nil, ldel_hit, ldel_skipI, ldel_skipA, ldel_skipL, ldel2_nil, ldel2_hit, ldel2_hit2, ldel2_skipI, ldel2_skipA, ldel2_skipL, vc_0, mCat_nil, mCat_I, mCat_L, mCat_A, mRcv_A, mArg_nil, mArg_I, mArg_L, mArg_A, tsg, swt_nil, swt_cons, lkw_nil, lkw_cons, ↓reduceIte, Nat.reduceAdd, Nat.reduceEqDiff, Nat.reduceLeDiff, Nat.reduceMul, true_and, and_true, and_self, List.mem_cons, List.not_mem_nil, or_false, or_self, false_or, true_implies, false_implies, not_true_eq_false, not_false_eq_true, nI00, nI10, nI01, nI11, forall_const, implies_true])
      refine d_copyOther frZ_r rb.bj (fun μ3 f3 e3 => ?_)
      (try simp only [↓w_X8_exchanged_0, ↓w_X8_exchanged_9, ↓w_X8_exchanged_89, ↓w_X8_exchanged_95, ↓v_X8_exchanged_9, ↓v_X8_exchanged_27, ↓v_X8_exchanged_89, ↓v_X8_exchanged_95, ↓b_aload_n, ↓b_callS1_1, ↓b_callV1_1, ↓b_callV2_0, ↓b_callV4_1, ↓b_getA, ↓b_getI, ↓b_goto, ↓b_iadd, ↓b_ic_ge, ↓b_ic_le, ↓b_iconst, ↓b_if_ne, ↓n_iinc, ↓b_iload, ↓b_iload_n, ↓b_iret, ↓n_istore, ↓n_istore_n, ↓ldI_hit, ↓ldI_skip, ↓ldL_hit, ↓ldL_skip, ↓ldA_hit, ↓ldA_skip, ↓ldelK_nil, ↓ldelK_hit, ↓ldelK_skipI, ↓ldelK_skipA, ↓ldelK_skipL, qP2_X0_allWorks, qP2_X0_copyFrom, qP2_X0_exchangeWithNext, qP2_X8_areHours, qP2_X8_madeAlone, ↓bI_b, bI_0, nnot, lget_hit, lget_skip, ldel_nil, ldel_hit, ldel_skipI, ldel_skipA, ldel_skipL, ldel2_nil, ldel2_hit, ldel2_hit2, ldel2_skipI, ldel2_skipA, ldel2_skipL, vc_0, mCat_nil, mCat_I, mCat_L, mCat_A, mRcv_A, mArg_nil, mArg_I, mArg_L, mArg_A, tsg, swt_nil, swt_cons, lkw_nil, lkw_cons, ↓reduceIte, Nat.reduceAdd, Nat.reduceEqDiff, Nat.reduceLeDiff, Nat.reduceMul, true_and, and_true, and_self, List.mem_cons, List.not_mem_nil, or_false, or_self, false_or, true_implies, false_implies, not_true_eq_false, not_false_eq_true, nI00, nI10, nI01, nI11, forall_const, implies_true])
      (try simp (disch := omega) only [ixq, ixz, sb_in, sb_in0, upI_sb, upI_sb0, sb_out, nI_add, nI_mul, nI_subq, Nat.zero_add, forall_eq, u2_at, u2_row, upd_at, upd_ne, nI0b, nI1b, nI00, nI10, nI01, nI11, true_implies, false_implies, not_true_eq_false, not_false_eq_true, and_true, true_and, implies_true])
      have i2 := main (W - 1) 0 μ3 (0, 0, 0) f3 e3 bs_0 (by omega) hK
      rw [bsB_0, bsM_0] at i2
      exact i2
    · (refine vc_met2 P2_ok ok_X9_exchanged cm_X9_exchanged [14,21,88,99,144,165,171] 8 t_X9_exchanged_0 (Nat.le_of_ble_eq_true rfl) ?_; simp only [mArg_nil, mArg_I, mArg_L, mArg_A, Nat.reduceAdd])
      have main : ∀ i w Q' s, frK (u2 Q 0 0 (nI 0)) Q' → bsOk s → w + i = W - 1 → (∀ Q'', frK (u2 Q 0 0 (nI 0)) Q'' → K (.inl (bsB (bsR tv i w s))) (sb μ1 m 21 Q'')) → bb X P2 m_X9_exchanged (h + 8) K (vc X P2 m_X9_exchanged (h + 8) K k_X9_exchanged [14,21,88,99,144,165,171] 8) s_X9_exchanged_21 [(4, .inl (nI w)), (3, .inl (bsN s)), (2, .inl (bsB s)), (0, .inr (.inr (8, 0, m))), (1, .inl (nI d))] [] (sb μ1 m 21 Q') := by
        intro i
        induction i with
        | zero =>
          intro w Q' s f1 hs hw hK
          have e2' : Q' 2 = μ.1 (m + 2) := by rw [frK_2 f1, u2_row (by decide), e]
          have q1'' : Q' 2 1 = nI W := by rw [e2']; exact rb.q1
          (try simp only [↓w_X9_exchanged_0, ↓w_X9_exchanged_14, ↓w_X9_exchanged_21, ↓w_X9_exchanged_99, ↓w_X9_exchanged_138, ↓w_X9_exchanged_144, ↓w_X9_exchanged_165, ↓w_X9_exchanged_171, ↓w_X9_exchanged_177, ↓v_X9_exchanged_14, ↓v_X9_exchanged_21, ↓v_X9_exchanged_88, ↓v_X9_exchanged_99, ↓v_X9_exchanged_138, ↓v_X9_exchanged_144, ↓v_X9_exchanged_165, ↓v_X9_exchanged_171, ↓v_X9_exchanged_177, ↓b_aload_n, ↓b_bipush, ↓b_callS1_1, ↓b_callS2_1, ↓b_callV1_0, ↓b_callV1_1, ↓b_callV2_1, ↓b_callV3_0, ↓b_goto, ↓b_iadd, ↓b_ic_eq, ↓b_ic_ge, ↓b_ic_gt, ↓b_iconst, ↓b_if_ne, ↓n_iinc, ↓b_iload, ↓b_iload_n, ↓b_iret, ↓n_istore, ↓n_istore_n, ↓n_putI, ↓b_sipush, ↓ldI_hit, ↓ldI_skip, ↓ldL_hit, ↓ldL_skip, ↓ldA_hit, ↓ldA_skip, ↓ldelK_nil, ↓ldelK_hit, ↓ldelK_skipI, ↓ldelK_skipA, ↓ldelK_skipL, qP2_X9_cell, qP2_X9_change, qP2_X9_isHours, qP2_X9_layRule, qP2_X9_run, qP2_X9_works, ↓bI_b, bI_0, nnot, lget_hit, lget_skip, ldel_nil, ldel_hit, ldel_skipI, ldel_skipA, ldel_skipL, ldel2_nil, ldel2_hit, ldel2_hit2, ldel2_skipI, ldel2_skipA, ldel2_skipL, vc_0, mCat_nil, mCat_I, mCat_L, mCat_A, mRcv_A, mArg_nil, mArg_I, mArg_L, mArg_A, tsg, swt_nil, swt_cons, lkw_nil, lkw_cons, ↓reduceIte, Nat.reduceAdd, Nat.reduceEqDiff, Nat.reduceLeDiff, Nat.reduceMul, true_and, and_true, and_self, List.mem_cons, List.not_mem_nil, or_false, or_self, false_or, true_implies, false_implies, not_true_eq_false, not_false_eq_true, nI00, nI10, nI01, nI11, forall_const, implies_true])
          (try simp (disch := omega) only [ixq, ixz, sb_in, sb_in0, upI_sb, upI_sb0, sb_out, nI_add, nI_mul, nI_subq, Nat.zero_add, forall_eq, u2_at, u2_row, upd_at, upd_ne, nI0b, nI1b, nI00, nI10, nI01, nI11, true_implies, false_implies, not_true_eq_false, not_false_eq_true, and_true, true_and, implies_true, q1'', nI_lq])
          exact ⟨fun _ => hK Q' f1, fun z => absurd (show W ≤ w + 1 by omega) z⟩
        | succ i ih =>
          intro w Q' s f1 hs hw hK
          have e2' : Q' 2 = μ.1 (m + 2) := by rw [frK_2 f1, u2_row (by decide), e]
          have q1'' : Q' 2 1 = nI W := by rw [e2']; exact rb.q1
          have hFl : FB G W (layF Q' 10) (bk μ (x + 4)) := RBB_FB (RBB_eq rb eqB_r (fun j hj => by rw [lay_10 hj, e2']) (fun _ _ => rfl))
          have k144 : ∀ y, mAt X m_X9_exchanged (h + 8) K 144 [(5, .inl y), (4, .inl (nI w)), (3, .inl (bsN s)), (2, .inl (bsB s)), (0, .inr (.inr (8, 0, m))), (1, .inl (nI d))] [] (sb μ1 m 21 (va_up (layF Q') 10 (fun j => exR (30 + w) (30 + w + 1) (exR (22 + w) (22 + w + 1) (exR (14 + w) (14 + w + 1) (layF Q' 10))) (xs w 30 j)))) := by
            intro y
            have hFx := fbx _ hFl w (by omega)
            have low0 : ∀ j, j < 2 → (fun j => exR (30 + w) (30 + w + 1) (exR (22 + w) (22 + w + 1) (exR (14 + w) (14 + w + 1) (layF Q' 10))) (xs w 30 j)) j = layF Q' 10 j := fun j hj => by
              dsimp only
              unfold xs
              rw [if_neg (by omega), if_neg (by omega), exR_1, exR_1, exR_1, sw_o (a := 30 + w) (j := j) (by omega), sw_o (a := 22 + w) (j := j) (by omega), sw_o (a := 14 + w) (j := j) (by omega)]
            generalize (fun j => exR (30 + w) (30 + w + 1) (exR (22 + w) (22 + w + 1) (exR (14 + w) (14 + w + 1) (layF Q' 10))) (xs w 30 j)) = F at hFx low0 ⊢
            have F0 : F 0 = nI G := by rw [low0 0 (by omega), lay_10 (by omega), e2']; exact rb.q0
            have F1 : F 1 = nI W := by rw [low0 1 (by omega), lay_10 (by omega), e2']; exact rb.q1
            (refine vc_from P2_ok ok_X9_exchanged [14,21,88,99,144,165,171] 8 ?_; rw [t_X9_exchanged_144])
            (try simp only [↓w_X9_exchanged_0, ↓w_X9_exchanged_14, ↓w_X9_exchanged_21, ↓w_X9_exchanged_88, ↓w_X9_exchanged_99, ↓w_X9_exchanged_138, ↓w_X9_exchanged_144, ↓w_X9_exchanged_177, ↓v_X9_exchanged_14, ↓v_X9_exchanged_21, ↓v_X9_exchanged_88, ↓v_X9_exchanged_99, ↓v_X9_exchanged_138, ↓v_X9_exchanged_144, ↓v_X9_exchanged_165, ↓v_X9_exchanged_171, ↓v_X9_exchanged_177, ↓b_aload_n, ↓b_bipush, ↓b_callS1_1, ↓b_callS2_1, ↓b_callV1_0, ↓b_callV1_1, ↓b_callV2_1, ↓b_callV3_0, ↓b_goto, ↓b_iadd, ↓b_ic_eq, ↓b_ic_ge, ↓b_ic_gt, ↓b_iconst, ↓b_if_ne, ↓n_iinc, ↓b_iload, ↓b_iload_n, ↓b_iret, ↓n_istore, ↓n_istore_n, ↓n_putI, ↓b_sipush, ↓ldI_hit, ↓ldI_skip, ↓ldL_hit, ↓ldL_skip, ↓ldA_hit, ↓ldA_skip, ↓ldelK_nil, ↓ldelK_hit, ↓ldelK_skipI, ↓ldelK_skipA, ↓ldelK_skipL, qP2_X9_cell, qP2_X9_change, qP2_X9_isHours, qP2_X9_layRule, qP2_X9_run, qP2_X9_works, ↓bI_b, bI_0, nnot, lget_hit, lget_skip, ldel_nil, ldel_hit, ldel_skipI, ldel_skipA, ldel_skipL, ldel2_nil, ldel2_hit, ldel2_hit2, ldel2_skipI, ldel2_skipA, ldel2_skipL, vc_0, mCat_nil, mCat_I, mCat_L, mCat_A, mRcv_A, mArg_nil, mArg_I, mArg_L, mArg_A, tsg, swt_nil, swt_cons, lkw_nil, lkw_cons, ↓reduceIte, Nat.reduceAdd, Nat.reduceEqDiff, Nat.reduceLeDiff, Nat.reduceMul, true_and, and_true, and_self, List.mem_cons, List.not_mem_nil, or_false, or_self, false_or, true_implies, false_implies, not_true_eq_false, not_false_eq_true, nI00, nI10, nI01, nI11, forall_const, implies_true])
            refine c_runG (B := (exWF G w (bk μ (x + 4)))) (P := bk μ (x + 28)) (G := G) (W := W) (fr := (fun _ => nI 1 <<< (nI W &&& 31) - nI 1)) d2 (by rw [up_at]; exact F0) g6 (by rw [up_at]; exact F1) w8 (by rw [up_at]; exact hFx) (by rw [up_row (by decide), lay_k (by decide) (by decide), e2']; exact pl) (by rw [up_row (by decide)]; exact lay_f.2.2) (fun k' hk' w' hw' => ?_) (fun Q2 f2 => ?_)
            · rw [up_row (by decide), lay_f.1, lay_f.2.1]
              exact bit_free w8 hw' (by omega)
            rw [(htv w (by omega)).2]
            have v4 := (htv w (by omega)).1
            have f3 : frK (u2 Q 0 0 (nI 0)) Q2 := frK_t (frK_t f1 (frK_t frK_lay ⟨fun k h0 hk => up_row (by omega), fun j hj => by rw [up_row (by decide)]⟩)) f2
            have m1 := bs_m1 hs
            have hs' := bsS_ok (b := w) hs (by omega) v4
            have i2 := ih (w + 1) Q2 (bsS w (tv w) s) f3 hs' (by omega) hK
            clear ih
            by_cases hc : s.1 = 0 ∨ s.2.2 < tv w
            · rw [bs_t hc, bsB_1, bsN_1] at i2
              have k94 : mAt X m_X9_exchanged (h + 8) K 165 [(5, .inl (nI (tv w))), (4, .inl (nI w)), (3, .inl (bsN s)), (2, .inl (bsB s)), (0, .inr (.inr (8, 0, m))), (1, .inl (nI d))] [] (sb μ1 m 21 Q2) := by
                (refine vc_from P2_ok ok_X9_exchanged [14,21,88,99,144,165,171] 8 ?_; rw [t_X9_exchanged_165])
                (try simp only [↓w_X9_exchanged_0, ↓w_X9_exchanged_14, ↓w_X9_exchanged_21, ↓w_X9_exchanged_88, ↓w_X9_exchanged_99, ↓w_X9_exchanged_138, ↓w_X9_exchanged_144, ↓w_X9_exchanged_165, ↓w_X9_exchanged_171, ↓w_X9_exchanged_177, ↓v_X9_exchanged_14, ↓v_X9_exchanged_21, ↓v_X9_exchanged_88, ↓v_X9_exchanged_99, ↓v_X9_exchanged_138, ↓v_X9_exchanged_144, ↓v_X9_exchanged_165, ↓v_X9_exchanged_171, ↓v_X9_exchanged_177, ↓b_aload_n, ↓b_bipush, ↓b_callS1_1, ↓b_callS2_1, ↓b_callV1_0, ↓b_callV1_1, ↓b_callV2_1, ↓b_callV3_0, ↓b_goto, ↓b_iadd, ↓b_ic_eq, ↓b_ic_ge, ↓b_ic_gt, ↓b_iconst, ↓b_if_ne, ↓n_iinc, ↓b_iload, ↓b_iload_n, ↓b_iret, ↓n_istore, ↓n_istore_n, ↓n_putI, ↓b_sipush, ↓ldI_hit, ↓ldI_skip, ↓ldL_hit, ↓ldL_skip, ↓ldA_hit, ↓ldA_skip, ↓ldelK_nil, ↓ldelK_hit, ↓ldelK_skipI, ↓ldelK_skipA, ↓ldelK_skipL, qP2_X9_cell, qP2_X9_change, qP2_X9_isHours, qP2_X9_layRule, qP2_X9_run, qP2_X9_works, ↓bI_b, bI_0, nnot, lget_hit, lget_skip, ldel_nil, ldel_hit, ldel_skipI, ldel_skipA, ldel_skipL, ldel2_nil, ldel2_hit, ldel2_hit2, ldel2_skipI, ldel2_skipA, ldel2_skipL, vc_0, mCat_nil, mCat_I, mCat_L, mCat_A, mRcv_A, mArg_nil, mArg_I, mArg_L, mArg_A, tsg, swt_nil, swt_cons, lkw_nil, lkw_cons, ↓reduceIte, Nat.reduceAdd, Nat.reduceEqDiff, Nat.reduceLeDiff, Nat.reduceMul, true_and, and_true, and_self, List.mem_cons, List.not_mem_nil, or_false, or_self, false_or, true_implies, false_implies, not_true_eq_false, not_false_eq_true, nI00, nI10, nI01, nI11, forall_const, implies_true])
                (try simp (disch := omega) only [ixq, ixz, sb_in, sb_in0, upI_sb, upI_sb0, sb_out, nI_add, nI_mul, nI_subq, Nat.zero_add, forall_eq, u2_at, u2_row, upd_at, upd_ne, nI0b, nI1b, nI00, nI10, nI01, nI11, true_implies, false_implies, not_true_eq_false, not_false_eq_true, and_true, true_and, implies_true])
                exact vc_back P2_ok ok_X9_exchanged [14,21,88,99,144,165,171] 8 t_X9_exchanged_21 (i2) (by simp) (rfl)
              by_cases h0 : s.1 = 0
              · have m2 : (bsB s = -1) = True := by rw [m1]; exact eq_true h0
                (try simp only [↓w_X9_exchanged_0, ↓w_X9_exchanged_14, ↓w_X9_exchanged_21, ↓w_X9_exchanged_88, ↓w_X9_exchanged_99, ↓w_X9_exchanged_138, ↓w_X9_exchanged_144, ↓w_X9_exchanged_177, ↓v_X9_exchanged_14, ↓v_X9_exchanged_21, ↓v_X9_exchanged_88, ↓v_X9_exchanged_99, ↓v_X9_exchanged_138, ↓v_X9_exchanged_144, ↓v_X9_exchanged_165, ↓v_X9_exchanged_171, ↓v_X9_exchanged_177, ↓b_aload_n, ↓b_bipush, ↓b_callS1_1, ↓b_callS2_1, ↓b_callV1_0, ↓b_callV1_1, ↓b_callV2_1, ↓b_callV3_0, ↓b_goto, ↓b_iadd, ↓b_ic_eq, ↓b_ic_ge, ↓b_ic_gt, ↓b_iconst, ↓b_if_ne, ↓n_iinc, ↓b_iload, ↓b_iload_n, ↓b_iret, ↓n_istore, ↓n_istore_n, ↓n_putI, ↓b_sipush, ↓ldI_hit, ↓ldI_skip, ↓ldL_hit, ↓ldL_skip, ↓ldA_hit, ↓ldA_skip, ↓ldelK_nil, ↓ldelK_hit, ↓ldelK_skipI, ↓ldelK_skipA, ↓ldelK_skipL, qP2_X9_cell, qP2_X9_change, qP2_X9_isHours, qP2_X9_layRule, qP2_X9_run, qP2_X9_works, ↓bI_b, bI_0, nnot, lget_hit, lget_skip, ldel_nil, ldel_hit, ldel_skipI, ldel_skipA, ldel_skipL, ldel2_nil, ldel2_hit, ldel2_hit2, ldel2_skipI, ldel2_skipA, ldel2_skipL, vc_0, mCat_nil, mCat_I, mCat_L, mCat_A, mRcv_A, mArg_nil, mArg_I, mArg_L, mArg_A, tsg, swt_nil, swt_cons, lkw_nil, lkw_cons, ↓reduceIte, Nat.reduceAdd, Nat.reduceEqDiff, Nat.reduceLeDiff, Nat.reduceMul, true_and, and_true, and_self, List.mem_cons, List.not_mem_nil, or_false, or_self, false_or, true_implies, false_implies, not_true_eq_false, not_false_eq_true, nI00, nI10, nI01, nI11, forall_const, implies_true, m2])
                (try simp (disch := omega) only [ixq, ixz, sb_in, sb_in0, upI_sb, upI_sb0, sb_out, nI_add, nI_mul, nI_subq, Nat.zero_add, forall_eq, u2_at, u2_row, upd_at, upd_ne, nI0b, nI1b, nI00, nI10, nI01, nI11, true_implies, false_implies, not_true_eq_false, not_false_eq_true, and_true, true_and, implies_true, m2])
                exact k94
              · have m2 : (bsB s = -1) = False := by rw [m1]; exact eq_false h0
                have m3 : (bsN s < nI (tv w)) = True := by rw [bs_gt hs h0 v4]; exact eq_true (hc.resolve_left h0)
                (try simp only [↓w_X9_exchanged_0, ↓w_X9_exchanged_14, ↓w_X9_exchanged_21, ↓w_X9_exchanged_88, ↓w_X9_exchanged_99, ↓w_X9_exchanged_138, ↓w_X9_exchanged_144, ↓w_X9_exchanged_177, ↓v_X9_exchanged_14, ↓v_X9_exchanged_21, ↓v_X9_exchanged_88, ↓v_X9_exchanged_99, ↓v_X9_exchanged_138, ↓v_X9_exchanged_144, ↓v_X9_exchanged_165, ↓v_X9_exchanged_171, ↓v_X9_exchanged_177, ↓b_aload_n, ↓b_bipush, ↓b_callS1_1, ↓b_callS2_1, ↓b_callV1_0, ↓b_callV1_1, ↓b_callV2_1, ↓b_callV3_0, ↓b_goto, ↓b_iadd, ↓b_ic_eq, ↓b_ic_ge, ↓b_ic_gt, ↓b_iconst, ↓b_if_ne, ↓n_iinc, ↓b_iload, ↓b_iload_n, ↓b_iret, ↓n_istore, ↓n_istore_n, ↓n_putI, ↓b_sipush, ↓ldI_hit, ↓ldI_skip, ↓ldL_hit, ↓ldL_skip, ↓ldA_hit, ↓ldA_skip, ↓ldelK_nil, ↓ldelK_hit, ↓ldelK_skipI, ↓ldelK_skipA, ↓ldelK_skipL, qP2_X9_cell, qP2_X9_change, qP2_X9_isHours, qP2_X9_layRule, qP2_X9_run, qP2_X9_works, ↓bI_b, bI_0, nnot, lget_hit, lget_skip, ldel_nil, ldel_hit, ldel_skipI, ldel_skipA, ldel_skipL, ldel2_nil, ldel2_hit, ldel2_hit2, ldel2_skipI, ldel2_skipA, ldel2_skipL, vc_0, mCat_nil, mCat_I, mCat_L, mCat_A, mRcv_A, mArg_nil, mArg_I, mArg_L, mArg_A, tsg, swt_nil, swt_cons, lkw_nil, lkw_cons, ↓reduceIte, Nat.reduceAdd, Nat.reduceEqDiff, Nat.reduceLeDiff, Nat.reduceMul, true_and, and_true, and_self, List.mem_cons, List.not_mem_nil, or_false, or_self, false_or, true_implies, false_implies, not_true_eq_false, not_false_eq_true, nI00, nI10, nI01, nI11, forall_const, implies_true, m2, m3])
                (try simp (disch := omega) only [ixq, ixz, sb_in, sb_in0, upI_sb, upI_sb0, sb_out, nI_add, nI_mul, nI_subq, Nat.zero_add, forall_eq, u2_at, u2_row, upd_at, upd_ne, nI0b, nI1b, nI00, nI10, nI01, nI11, true_implies, false_implies, not_true_eq_false, not_false_eq_true, and_true, true_and, implies_true, m2, m3])
                exact k94
            · rw [bs_f hc] at i2
              have h0 : ¬ s.1 = 0 := fun z => hc (Or.inl z)
              have m2 : (bsB s = -1) = False := by rw [m1]; exact eq_false h0
              have m3 : (bsN s < nI (tv w)) = False := by rw [bs_gt hs h0 v4]; exact eq_false (fun z => hc (Or.inr z))
              (try simp only [↓w_X9_exchanged_0, ↓w_X9_exchanged_14, ↓w_X9_exchanged_21, ↓w_X9_exchanged_88, ↓w_X9_exchanged_99, ↓w_X9_exchanged_138, ↓w_X9_exchanged_144, ↓w_X9_exchanged_177, ↓v_X9_exchanged_14, ↓v_X9_exchanged_21, ↓v_X9_exchanged_88, ↓v_X9_exchanged_99, ↓v_X9_exchanged_138, ↓v_X9_exchanged_144, ↓v_X9_exchanged_165, ↓v_X9_exchanged_171, ↓v_X9_exchanged_177, ↓b_aload_n, ↓b_bipush, ↓b_callS1_1, ↓b_callS2_1, ↓b_callV1_0, ↓b_callV1_1, ↓b_callV2_1, ↓b_callV3_0, ↓b_goto, ↓b_iadd, ↓b_ic_eq, ↓b_ic_ge, ↓b_ic_gt, ↓b_iconst, ↓b_if_ne, ↓n_iinc, ↓b_iload, ↓b_iload_n, ↓b_iret, ↓n_istore, ↓n_istore_n, ↓n_putI, ↓b_sipush, ↓ldI_hit, ↓ldI_skip, ↓ldL_hit, ↓ldL_skip, ↓ldA_hit, ↓ldA_skip, ↓ldelK_nil, ↓ldelK_hit, ↓ldelK_skipI, ↓ldelK_skipA, ↓ldelK_skipL, qP2_X9_cell, qP2_X9_change, qP2_X9_isHours, qP2_X9_layRule, qP2_X9_run, qP2_X9_works, ↓bI_b, bI_0, nnot, lget_hit, lget_skip, ldel_nil, ldel_hit, ldel_skipI, ldel_skipA, ldel_skipL, ldel2_nil, ldel2_hit, ldel2_hit2, ldel2_skipI, ldel2_skipA, ldel2_skipL, vc_0, mCat_nil, mCat_I, mCat_L, mCat_A, mRcv_A, mArg_nil, mArg_I, mArg_L, mArg_A, tsg, swt_nil, swt_cons, lkw_nil, lkw_cons, ↓reduceIte, Nat.reduceAdd, Nat.reduceEqDiff, Nat.reduceLeDiff, Nat.reduceMul, true_and, and_true, and_self, List.mem_cons, List.not_mem_nil, or_false, or_self, false_or, true_implies, false_implies, not_true_eq_false, not_false_eq_true, nI00, nI10, nI01, nI11, forall_const, implies_true, m2, m3])
              (try simp (disch := omega) only [ixq, ixz, sb_in, sb_in0, upI_sb, upI_sb0, sb_out, nI_add, nI_mul, nI_subq, Nat.zero_add, forall_eq, u2_at, u2_row, upd_at, upd_ne, nI0b, nI1b, nI00, nI10, nI01, nI11, true_implies, false_implies, not_true_eq_false, not_false_eq_true, and_true, true_and, implies_true, m2, m3])
              (refine vc_from P2_ok ok_X9_exchanged [14,21,88,99,144,165,171] 8 ?_; rw [t_X9_exchanged_171])
              (try simp only [↓w_X9_exchanged_0, ↓w_X9_exchanged_14, ↓w_X9_exchanged_21, ↓w_X9_exchanged_88, ↓w_X9_exchanged_99, ↓w_X9_exchanged_138, ↓w_X9_exchanged_144, ↓w_X9_exchanged_165, ↓w_X9_exchanged_171, ↓w_X9_exchanged_177, ↓v_X9_exchanged_14, ↓v_X9_exchanged_21, ↓v_X9_exchanged_88, ↓v_X9_exchanged_99, ↓v_X9_exchanged_138, ↓v_X9_exchanged_144, ↓v_X9_exchanged_165, ↓v_X9_exchanged_171, ↓v_X9_exchanged_177, ↓b_aload_n, ↓b_bipush, ↓b_callS1_1, ↓b_callS2_1, ↓b_callV1_0, ↓b_callV1_1, ↓b_callV2_1, ↓b_callV3_0, ↓b_goto, ↓b_iadd, ↓b_ic_eq, ↓b_ic_ge, ↓b_ic_gt, ↓b_iconst, ↓b_if_ne, ↓n_iinc, ↓b_iload, ↓b_iload_n, ↓b_iret, ↓n_istore, ↓n_istore_n, ↓n_putI, ↓b_sipush, ↓ldI_hit, ↓ldI_skip, ↓ldL_hit, ↓ldL_skip, ↓ldA_hit, ↓ldA_skip, ↓ldelK_nil, ↓ldelK_hit, ↓ldelK_skipI, ↓ldelK_skipA, ↓ldelK_skipL, qP2_X9_cell, qP2_X9_change, qP2_X9_isHours, qP2_X9_layRule, qP2_X9_run, qP2_X9_works, ↓bI_b, bI_0, nnot, lget_hit, lget_skip, ldel_nil, ldel_hit, ldel_skipI, ldel_skipA, ldel_skipL, ldel2_nil, ldel2_hit, ldel2_hit2, ldel2_skipI, ldel2_skipA, ldel2_skipL, vc_0, mCat_nil, mCat_I, mCat_L, mCat_A, mRcv_A, mArg_nil, mArg_I, mArg_L, mArg_A, tsg, swt_nil, swt_cons, lkw_nil, lkw_cons, ↓reduceIte, Nat.reduceAdd, Nat.reduceEqDiff, Nat.reduceLeDiff, Nat.reduceMul, true_and, and_true, and_self, List.mem_cons, List.not_mem_nil, or_false, or_self, false_or, true_implies, false_implies, not_true_eq_false, not_false_eq_true, nI00, nI10, nI01, nI11, forall_const, implies_true])
              (try simp (disch := omega) only [ixq, ixz, sb_in, sb_in0, upI_sb, upI_sb0, sb_out, nI_add, nI_mul, nI_subq, Nat.zero_add, forall_eq, u2_at, u2_row, upd_at, upd_ne, nI0b, nI1b, nI00, nI10, nI01, nI11, true_implies, false_implies, not_true_eq_false, not_false_eq_true, and_true, true_and, implies_true])
              exact vc_back P2_ok ok_X9_exchanged [14,21,88,99,144,165,171] 8 t_X9_exchanged_21 (i2) (by simp) (rfl)
          clear ih hK
          generalize hF3 : exR (30 + w) (30 + w + 1) (exR (22 + w) (22 + w + 1) (exR (14 + w) (14 + w + 1) (layF Q' 10))) = F3 at k144
          have rows : ∀ n r, r + n = 5 → bb X P2 m_X9_exchanged (h + 8) K (vc X P2 m_X9_exchanged (h + 8) K k_X9_exchanged [14,21,88,99,144,165,171] 8) s_X9_exchanged_88 [(5, .inl (nI (38 + 48 * r))), (4, .inl (nI w)), (3, .inl (bsN s)), (2, .inl (bsB s)), (0, .inr (.inr (8, 0, m))), (1, .inl (nI d))] [] (sb μ1 m 21 (va_up (layF Q') 10 (fun j => F3 (xs w (6 * r) j)))) := by
            intro n
            induction n with
            | zero =>
              intro r hr
              have er : r = 5 := by omega
              subst er
              (try simp only [↓w_X9_exchanged_0, ↓w_X9_exchanged_14, ↓w_X9_exchanged_21, ↓w_X9_exchanged_88, ↓w_X9_exchanged_138, ↓w_X9_exchanged_144, ↓w_X9_exchanged_165, ↓w_X9_exchanged_171, ↓w_X9_exchanged_177, ↓v_X9_exchanged_14, ↓v_X9_exchanged_21, ↓v_X9_exchanged_88, ↓v_X9_exchanged_99, ↓v_X9_exchanged_138, ↓v_X9_exchanged_144, ↓v_X9_exchanged_165, ↓v_X9_exchanged_171, ↓v_X9_exchanged_177, ↓b_aload_n, ↓b_bipush, ↓b_callS1_1, ↓b_callS2_1, ↓b_callV1_0, ↓b_callV1_1, ↓b_callV2_1, ↓b_callV3_0, ↓b_goto, ↓b_iadd, ↓b_ic_eq, ↓b_ic_ge, ↓b_ic_gt, ↓b_iconst, ↓b_if_ne, ↓n_iinc, ↓b_iload, ↓b_iload_n, ↓b_iret, ↓n_istore, ↓n_istore_n, ↓n_putI, ↓b_sipush, ↓ldI_hit, ↓ldI_skip, ↓ldL_hit, ↓ldL_skip, ↓ldA_hit, ↓ldA_skip, ↓ldelK_nil, ↓ldelK_hit, ↓ldelK_skipI, ↓ldelK_skipA, ↓ldelK_skipL, qP2_X9_cell, qP2_X9_change, qP2_X9_isHours, qP2_X9_layRule, qP2_X9_run, qP2_X9_works, ↓bI_b, bI_0, nnot, lget_hit, lget_skip, ldel_nil, ldel_hit, ldel_skipI, ldel_skipA, ldel_skipL, ldel2_nil, ldel2_hit, ldel2_hit2, ldel2_skipI, ldel2_skipA, ldel2_skipL, vc_0, mCat_nil, mCat_I, mCat_L, mCat_A, mRcv_A, mArg_nil, mArg_I, mArg_L, mArg_A, tsg, swt_nil, swt_cons, lkw_nil, lkw_cons, ↓reduceIte, Nat.reduceAdd, Nat.reduceEqDiff, Nat.reduceLeDiff, Nat.reduceMul, true_and, and_true, and_self, List.mem_cons, List.not_mem_nil, or_false, or_self, false_or, true_implies, false_implies, not_true_eq_false, not_false_eq_true, nI00, nI10, nI01, nI11, forall_const, implies_true])
              (try simp (disch := omega) only [ixq, ixz, sb_in, sb_in0, upI_sb, upI_sb0, sb_out, nI_add, nI_mul, nI_subq, Nat.zero_add, forall_eq, u2_at, u2_row, upd_at, upd_ne, nI0b, nI1b, nI00, nI10, nI01, nI11, true_implies, false_implies, not_true_eq_false, not_false_eq_true, and_true, true_and, implies_true, nI_ltq])
              exact ⟨fun _ => k144 _, fun z => absurd (show 230 < 38 + 48 * 5 by omega) z⟩
            | succ n ihr =>
              intro r hr
              have gs : ∀ n g, g + n = 6 → bb X P2 m_X9_exchanged (h + 8) K (vc X P2 m_X9_exchanged (h + 8) K k_X9_exchanged [14,21,88,99,144,165,171] 8) s_X9_exchanged_99 [(6, .inl (nI g)), (5, .inl (nI (38 + 48 * r))), (4, .inl (nI w)), (3, .inl (bsN s)), (2, .inl (bsB s)), (0, .inr (.inr (8, 0, m))), (1, .inl (nI d))] [] (sb μ1 m 21 (va_up (layF Q') 10 (fun j => F3 (xs w (6 * r + g) j)))) := by
                intro n
                induction n with
                | zero =>
                  intro g hg
                  have eg : g = 6 := by omega
                  subst eg
                  have i2 := ihr (r + 1) (by omega)
                  rw [show 6 * (r + 1) = 6 * r + 6 by omega, show 38 + 48 * (r + 1) = 38 + 48 * r + 48 by omega] at i2
                  clear ihr k144
                  (try simp only [↓w_X9_exchanged_0, ↓w_X9_exchanged_14, ↓w_X9_exchanged_21, ↓w_X9_exchanged_88, ↓w_X9_exchanged_99, ↓w_X9_exchanged_138, ↓w_X9_exchanged_144, ↓w_X9_exchanged_165, ↓w_X9_exchanged_171, ↓w_X9_exchanged_177, ↓v_X9_exchanged_14, ↓v_X9_exchanged_21, ↓v_X9_exchanged_88, ↓v_X9_exchanged_99, ↓v_X9_exchanged_138, ↓v_X9_exchanged_144, ↓v_X9_exchanged_165, ↓v_X9_exchanged_171, ↓v_X9_exchanged_177, ↓b_aload_n, ↓b_bipush, ↓b_callS1_1, ↓b_callS2_1, ↓b_callV1_0, ↓b_callV1_1, ↓b_callV2_1, ↓b_callV3_0, ↓b_goto, ↓b_iadd, ↓b_ic_eq, ↓b_ic_ge, ↓b_ic_gt, ↓b_iconst, ↓b_if_ne, ↓n_iinc, ↓b_iload, ↓b_iload_n, ↓b_iret, ↓n_istore, ↓n_istore_n, ↓n_putI, ↓b_sipush, ↓ldI_hit, ↓ldI_skip, ↓ldL_hit, ↓ldL_skip, ↓ldA_hit, ↓ldA_skip, ↓ldelK_nil, ↓ldelK_hit, ↓ldelK_skipI, ↓ldelK_skipA, ↓ldelK_skipL, qP2_X9_cell, qP2_X9_change, qP2_X9_isHours, qP2_X9_layRule, qP2_X9_run, qP2_X9_works, ↓bI_b, bI_0, nnot, lget_hit, lget_skip, ldel_nil, ldel_hit, ldel_skipI, ldel_skipA, ldel_skipL, ldel2_nil, ldel2_hit, ldel2_hit2, ldel2_skipI, ldel2_skipA, ldel2_skipL, vc_0, mCat_nil, mCat_I, mCat_L, mCat_A, mRcv_A, mArg_nil, mArg_I, mArg_L, mArg_A, tsg, swt_nil, swt_cons, lkw_nil, lkw_cons, ↓reduceIte, Nat.reduceAdd, Nat.reduceEqDiff, Nat.reduceLeDiff, Nat.reduceMul, true_and, and_true, and_self, List.mem_cons, List.not_mem_nil, or_false, or_self, false_or, true_implies, false_implies, not_true_eq_false, not_false_eq_true, nI00, nI10, nI01, nI11, forall_const, implies_true])
                  (try simp (disch := omega) only [ixq, ixz, sb_in, sb_in0, upI_sb, upI_sb0, sb_out, nI_add, nI_mul, nI_subq, Nat.zero_add, forall_eq, u2_at, u2_row, upd_at, upd_ne, nI0b, nI1b, nI00, nI10, nI01, nI11, true_implies, false_implies, not_true_eq_false, not_false_eq_true, and_true, true_and, implies_true, nI_lq])
                  refine ⟨fun _ => ?_, fun z => absurd (Nat.le_refl 6) z⟩
                  exact vc_back P2_ok ok_X9_exchanged [14,21,88,99,144,165,171] 8 t_X9_exchanged_88 (i2) (by simp) (rfl)
                | succ n ihg =>
                  intro g hg
                  have i2 := ihg (g + 1) (by omega)
                  rw [← Nat.add_assoc, ← xs_s (by omega) (by omega) (by omega)] at i2
                  clear ihg ihr k144
                  (try simp only [↓w_X9_exchanged_0, ↓w_X9_exchanged_14, ↓w_X9_exchanged_21, ↓w_X9_exchanged_88, ↓w_X9_exchanged_99, ↓w_X9_exchanged_138, ↓w_X9_exchanged_144, ↓w_X9_exchanged_165, ↓w_X9_exchanged_171, ↓w_X9_exchanged_177, ↓v_X9_exchanged_14, ↓v_X9_exchanged_21, ↓v_X9_exchanged_88, ↓v_X9_exchanged_99, ↓v_X9_exchanged_138, ↓v_X9_exchanged_144, ↓v_X9_exchanged_165, ↓v_X9_exchanged_171, ↓v_X9_exchanged_177, ↓b_aload_n, ↓b_bipush, ↓b_callS1_1, ↓b_callS2_1, ↓b_callV1_0, ↓b_callV1_1, ↓b_callV2_1, ↓b_callV3_0, ↓b_goto, ↓b_iadd, ↓b_ic_eq, ↓b_ic_ge, ↓b_ic_gt, ↓b_iconst, ↓b_if_ne, ↓n_iinc, ↓b_iload, ↓b_iload_n, ↓b_iret, ↓n_istore, ↓n_istore_n, ↓n_putI, ↓b_sipush, ↓ldI_hit, ↓ldI_skip, ↓ldL_hit, ↓ldL_skip, ↓ldA_hit, ↓ldA_skip, ↓ldelK_nil, ↓ldelK_hit, ↓ldelK_skipI, ↓ldelK_skipA, ↓ldelK_skipL, qP2_X9_cell, qP2_X9_change, qP2_X9_isHours, qP2_X9_layRule, qP2_X9_run, qP2_X9_works, ↓bI_b, bI_0, nnot, lget_hit, lget_skip, ldel_nil, ldel_hit, ldel_skipI, ldel_skipA, ldel_skipL, ldel2_nil, ldel2_hit, ldel2_hit2, ldel2_skipI, ldel2_skipA, ldel2_skipL, vc_0, mCat_nil, mCat_I, mCat_L, mCat_A, mRcv_A, mArg_nil, mArg_I, mArg_L, mArg_A, tsg, swt_nil, swt_cons, lkw_nil, lkw_cons, ↓reduceIte, Nat.reduceAdd, Nat.reduceEqDiff, Nat.reduceLeDiff, Nat.reduceMul, true_and, and_true, and_self, List.mem_cons, List.not_mem_nil, or_false, or_self, false_or, true_implies, false_implies, not_true_eq_false, not_false_eq_true, nI00, nI10, nI01, nI11, forall_const, implies_true])
                  (try simp (disch := omega) only [ixq, ixz, sb_in, sb_in0, upI_sb, upI_sb0, sb_out, nI_add, nI_mul, nI_subq, Nat.zero_add, forall_eq, u2_at, u2_row, upd_at, upd_ne, nI0b, nI1b, nI00, nI10, nI01, nI11, true_implies, false_implies, not_true_eq_false, not_false_eq_true, and_true, true_and, implies_true, nI_lq])
                  refine ⟨fun z => by omega, fun _ => ?_⟩
                  refine c_change (by omega) (by omega) (by omega) ?_
                  rw [vup_vup, up_at]
                  (try simp only [↓w_X9_exchanged_0, ↓w_X9_exchanged_14, ↓w_X9_exchanged_21, ↓w_X9_exchanged_88, ↓w_X9_exchanged_99, ↓w_X9_exchanged_138, ↓w_X9_exchanged_144, ↓w_X9_exchanged_165, ↓w_X9_exchanged_171, ↓w_X9_exchanged_177, ↓v_X9_exchanged_14, ↓v_X9_exchanged_21, ↓v_X9_exchanged_88, ↓v_X9_exchanged_99, ↓v_X9_exchanged_138, ↓v_X9_exchanged_144, ↓v_X9_exchanged_165, ↓v_X9_exchanged_171, ↓v_X9_exchanged_177, ↓b_aload_n, ↓b_bipush, ↓b_callS1_1, ↓b_callS2_1, ↓b_callV1_0, ↓b_callV1_1, ↓b_callV2_1, ↓b_callV3_0, ↓b_goto, ↓b_iadd, ↓b_ic_eq, ↓b_ic_ge, ↓b_ic_gt, ↓b_iconst, ↓b_if_ne, ↓n_iinc, ↓b_iload, ↓b_iload_n, ↓b_iret, ↓n_istore, ↓n_istore_n, ↓n_putI, ↓b_sipush, ↓ldI_hit, ↓ldI_skip, ↓ldL_hit, ↓ldL_skip, ↓ldA_hit, ↓ldA_skip, ↓ldelK_nil, ↓ldelK_hit, ↓ldelK_skipI, ↓ldelK_skipA, ↓ldelK_skipL, qP2_X9_cell, qP2_X9_change, qP2_X9_isHours, qP2_X9_layRule, qP2_X9_run, qP2_X9_works, ↓bI_b, bI_0, nnot, lget_hit, lget_skip, ldel_nil, ldel_hit, ldel_skipI, ldel_skipA, ldel_skipL, ldel2_nil, ldel2_hit, ldel2_hit2, ldel2_skipI, ldel2_skipA, ldel2_skipL, vc_0, mCat_nil, mCat_I, mCat_L, mCat_A, mRcv_A, mArg_nil, mArg_I, mArg_L, mArg_A, tsg, swt_nil, swt_cons, lkw_nil, lkw_cons, ↓reduceIte, Nat.reduceAdd, Nat.reduceEqDiff, Nat.reduceLeDiff, Nat.reduceMul, true_and, and_true, and_self, List.mem_cons, List.not_mem_nil, or_false, or_self, false_or, true_implies, false_implies, not_true_eq_false, not_false_eq_true, nI00, nI10, nI01, nI11, forall_const, implies_true])
                  (try simp (disch := omega) only [ixq, ixz, sb_in, sb_in0, upI_sb, upI_sb0, sb_out, nI_add, nI_mul, nI_subq, Nat.zero_add, forall_eq, u2_at, u2_row, upd_at, upd_ne, nI0b, nI1b, nI00, nI10, nI01, nI11, true_implies, false_implies, not_true_eq_false, not_false_eq_true, and_true, true_and, implies_true])
                  exact vc_back P2_ok ok_X9_exchanged [14,21,88,99,144,165,171] 8 t_X9_exchanged_99 (i2) (by simp) (rfl)
              have i2 := gs 6 0 (by omega)
              rw [Nat.add_zero] at i2
              clear gs ihr k144
              (try simp only [↓w_X9_exchanged_0, ↓w_X9_exchanged_14, ↓w_X9_exchanged_21, ↓w_X9_exchanged_88, ↓w_X9_exchanged_138, ↓w_X9_exchanged_144, ↓w_X9_exchanged_165, ↓w_X9_exchanged_171, ↓w_X9_exchanged_177, ↓v_X9_exchanged_14, ↓v_X9_exchanged_21, ↓v_X9_exchanged_88, ↓v_X9_exchanged_99, ↓v_X9_exchanged_138, ↓v_X9_exchanged_144, ↓v_X9_exchanged_165, ↓v_X9_exchanged_171, ↓v_X9_exchanged_177, ↓b_aload_n, ↓b_bipush, ↓b_callS1_1, ↓b_callS2_1, ↓b_callV1_0, ↓b_callV1_1, ↓b_callV2_1, ↓b_callV3_0, ↓b_goto, ↓b_iadd, ↓b_ic_eq, ↓b_ic_ge, ↓b_ic_gt, ↓b_iconst, ↓b_if_ne, ↓n_iinc, ↓b_iload, ↓b_iload_n, ↓b_iret, ↓n_istore, ↓n_istore_n, ↓n_putI, ↓b_sipush, ↓ldI_hit, ↓ldI_skip, ↓ldL_hit, ↓ldL_skip, ↓ldA_hit, ↓ldA_skip, ↓ldelK_nil, ↓ldelK_hit, ↓ldelK_skipI, ↓ldelK_skipA, ↓ldelK_skipL, qP2_X9_cell, qP2_X9_change, qP2_X9_isHours, qP2_X9_layRule, qP2_X9_run, qP2_X9_works, ↓bI_b, bI_0, nnot, lget_hit, lget_skip, ldel_nil, ldel_hit, ldel_skipI, ldel_skipA, ldel_skipL, ldel2_nil, ldel2_hit, ldel2_hit2, ldel2_skipI, ldel2_skipA, ldel2_skipL, vc_0, mCat_nil, mCat_I, mCat_L, mCat_A, mRcv_A, mArg_nil, mArg_I, mArg_L, mArg_A, tsg, swt_nil, swt_cons, lkw_nil, lkw_cons, ↓reduceIte, Nat.reduceAdd, Nat.reduceEqDiff, Nat.reduceLeDiff, Nat.reduceMul, true_and, and_true, and_self, List.mem_cons, List.not_mem_nil, or_false, or_self, false_or, true_implies, false_implies, not_true_eq_false, not_false_eq_true, nI00, nI10, nI01, nI11, forall_const, implies_true])
              (try simp (disch := omega) only [ixq, ixz, sb_in, sb_in0, upI_sb, upI_sb0, sb_out, nI_add, nI_mul, nI_subq, Nat.zero_add, forall_eq, u2_at, u2_row, upd_at, upd_ne, nI0b, nI1b, nI00, nI10, nI01, nI11, true_implies, false_implies, not_true_eq_false, not_false_eq_true, and_true, true_and, implies_true, nI_ltq])
              refine ⟨fun z => by omega, fun _ => ?_⟩
              exact i2
          have i2 := rows 5 0 (by omega)
          rw [Nat.mul_zero, xs_0, Nat.add_zero] at i2
          clear rows k144
          (try simp only [↓w_X9_exchanged_0, ↓w_X9_exchanged_14, ↓w_X9_exchanged_21, ↓w_X9_exchanged_99, ↓w_X9_exchanged_138, ↓w_X9_exchanged_144, ↓w_X9_exchanged_165, ↓w_X9_exchanged_171, ↓w_X9_exchanged_177, ↓v_X9_exchanged_14, ↓v_X9_exchanged_21, ↓v_X9_exchanged_88, ↓v_X9_exchanged_99, ↓v_X9_exchanged_138, ↓v_X9_exchanged_144, ↓v_X9_exchanged_165, ↓v_X9_exchanged_171, ↓v_X9_exchanged_177, ↓b_aload_n, ↓b_bipush, ↓b_callS1_1, ↓b_callS2_1, ↓b_callV1_0, ↓b_callV1_1, ↓b_callV2_1, ↓b_callV3_0, ↓b_goto, ↓b_iadd, ↓b_ic_eq, ↓b_ic_ge, ↓b_ic_gt, ↓b_iconst, ↓b_if_ne, ↓n_iinc, ↓b_iload, ↓b_iload_n, ↓b_iret, ↓n_istore, ↓n_istore_n, ↓n_putI, ↓b_sipush, ↓ldI_hit, ↓ldI_skip, ↓ldL_hit, ↓ldL_skip, ↓ldA_hit, ↓ldA_skip, ↓ldelK_nil, ↓ldelK_hit, ↓ldelK_skipI, ↓ldelK_skipA, ↓ldelK_skipL, qP2_X9_cell, qP2_X9_change, qP2_X9_isHours, qP2_X9_layRule, qP2_X9_run, qP2_X9_works, ↓bI_b, bI_0, nnot, lget_hit, lget_skip, ldel_nil, ldel_hit, ldel_skipI, ldel_skipA, ldel_skipL, ldel2_nil, ldel2_hit, ldel2_hit2, ldel2_skipI, ldel2_skipA, ldel2_skipL, vc_0, mCat_nil, mCat_I, mCat_L, mCat_A, mRcv_A, mArg_nil, mArg_I, mArg_L, mArg_A, tsg, swt_nil, swt_cons, lkw_nil, lkw_cons, ↓reduceIte, Nat.reduceAdd, Nat.reduceEqDiff, Nat.reduceLeDiff, Nat.reduceMul, true_and, and_true, and_self, List.mem_cons, List.not_mem_nil, or_false, or_self, false_or, true_implies, false_implies, not_true_eq_false, not_false_eq_true, nI00, nI10, nI01, nI11, forall_const, implies_true])
          (try simp (disch := omega) only [ixq, ixz, sb_in, sb_in0, upI_sb, upI_sb0, sb_out, nI_add, nI_mul, nI_subq, Nat.zero_add, forall_eq, u2_at, u2_row, upd_at, upd_ne, nI0b, nI1b, nI00, nI10, nI01, nI11, true_implies, false_implies, not_true_eq_false, not_false_eq_true, and_true, true_and, implies_true, q1'', nI_lq])
          refine ⟨fun z => by omega, fun _ => ?_⟩
          refine c_layRule ?_
          (try simp only [↓w_X9_exchanged_0, ↓w_X9_exchanged_14, ↓w_X9_exchanged_21, ↓w_X9_exchanged_99, ↓w_X9_exchanged_138, ↓w_X9_exchanged_144, ↓w_X9_exchanged_165, ↓w_X9_exchanged_171, ↓w_X9_exchanged_177, ↓v_X9_exchanged_14, ↓v_X9_exchanged_21, ↓v_X9_exchanged_88, ↓v_X9_exchanged_99, ↓v_X9_exchanged_138, ↓v_X9_exchanged_144, ↓v_X9_exchanged_165, ↓v_X9_exchanged_171, ↓v_X9_exchanged_177, ↓b_aload_n, ↓b_bipush, ↓b_callS1_1, ↓b_callS2_1, ↓b_callV1_0, ↓b_callV1_1, ↓b_callV2_1, ↓b_callV3_0, ↓b_goto, ↓b_iadd, ↓b_ic_eq, ↓b_ic_ge, ↓b_ic_gt, ↓b_iconst, ↓b_if_ne, ↓n_iinc, ↓b_iload, ↓b_iload_n, ↓b_iret, ↓n_istore, ↓n_istore_n, ↓n_putI, ↓b_sipush, ↓ldI_hit, ↓ldI_skip, ↓ldL_hit, ↓ldL_skip, ↓ldA_hit, ↓ldA_skip, ↓ldelK_nil, ↓ldelK_hit, ↓ldelK_skipI, ↓ldelK_skipA, ↓ldelK_skipL, qP2_X9_cell, qP2_X9_change, qP2_X9_isHours, qP2_X9_layRule, qP2_X9_run, qP2_X9_works, ↓bI_b, bI_0, nnot, lget_hit, lget_skip, ldel_nil, ldel_hit, ldel_skipI, ldel_skipA, ldel_skipL, ldel2_nil, ldel2_hit, ldel2_hit2, ldel2_skipI, ldel2_skipA, ldel2_skipL, vc_0, mCat_nil, mCat_I, mCat_L, mCat_A, mRcv_A, mArg_nil, mArg_I, mArg_L, mArg_A, tsg, swt_nil, swt_cons, lkw_nil, lkw_cons, ↓reduceIte, Nat.reduceAdd, Nat.reduceEqDiff, Nat.reduceLeDiff, Nat.reduceMul, true_and, and_true, and_self, List.mem_cons, List.not_mem_nil, or_false, or_self, false_or, true_implies, false_implies, not_true_eq_false, not_false_eq_true, nI00, nI10, nI01, nI11, forall_const, implies_true])
          (try simp (disch := omega) only [ixq, ixz, sb_in, sb_in0, upI_sb, upI_sb0, sb_out, nI_add, nI_mul, nI_subq, Nat.zero_add, forall_eq, u2_at, u2_row, upd_at, upd_ne, nI0b, nI1b, nI00, nI10, nI01, nI11, true_implies, false_implies, not_true_eq_false, not_false_eq_true, and_true, true_and, implies_true])
          refine c_change (by omega) (by omega) (by omega) ?_
          (try simp only [↓w_X9_exchanged_0, ↓w_X9_exchanged_14, ↓w_X9_exchanged_21, ↓w_X9_exchanged_99, ↓w_X9_exchanged_138, ↓w_X9_exchanged_144, ↓w_X9_exchanged_165, ↓w_X9_exchanged_171, ↓w_X9_exchanged_177, ↓v_X9_exchanged_14, ↓v_X9_exchanged_21, ↓v_X9_exchanged_88, ↓v_X9_exchanged_99, ↓v_X9_exchanged_138, ↓v_X9_exchanged_144, ↓v_X9_exchanged_165, ↓v_X9_exchanged_171, ↓v_X9_exchanged_177, ↓b_aload_n, ↓b_bipush, ↓b_callS1_1, ↓b_callS2_1, ↓b_callV1_0, ↓b_callV1_1, ↓b_callV2_1, ↓b_callV3_0, ↓b_goto, ↓b_iadd, ↓b_ic_eq, ↓b_ic_ge, ↓b_ic_gt, ↓b_iconst, ↓b_if_ne, ↓n_iinc, ↓b_iload, ↓b_iload_n, ↓b_iret, ↓n_istore, ↓n_istore_n, ↓n_putI, ↓b_sipush, ↓ldI_hit, ↓ldI_skip, ↓ldL_hit, ↓ldL_skip, ↓ldA_hit, ↓ldA_skip, ↓ldelK_nil, ↓ldelK_hit, ↓ldelK_skipI, ↓ldelK_skipA, ↓ldelK_skipL, qP2_X9_cell, qP2_X9_change, qP2_X9_isHours, qP2_X9_layRule, qP2_X9_run, qP2_X9_works, ↓bI_b, bI_0, nnot, lget_hit, lget_skip, ldel_nil, ldel_hit, ldel_skipI, ldel_skipA, ldel_skipL, ldel2_nil, ldel2_hit, ldel2_hit2, ldel2_skipI, ldel2_skipA, ldel2_skipL, vc_0, mCat_nil, mCat_I, mCat_L, mCat_A, mRcv_A, mArg_nil, mArg_I, mArg_L, mArg_A, tsg, swt_nil, swt_cons, lkw_nil, lkw_cons, ↓reduceIte, Nat.reduceAdd, Nat.reduceEqDiff, Nat.reduceLeDiff, Nat.reduceMul, true_and, and_true, and_self, List.mem_cons, List.not_mem_nil, or_false, or_self, false_or, true_implies, false_implies, not_true_eq_false, not_false_eq_true, nI00, nI10, nI01, nI11, forall_const, implies_true])
          (try simp (disch := omega) only [ixq, ixz, sb_in, sb_in0, upI_sb, upI_sb0, sb_out, nI_add, nI_mul, nI_subq, Nat.zero_add, forall_eq, u2_at, u2_row, upd_at, upd_ne, nI0b, nI1b, nI00, nI10, nI01, nI11, true_implies, false_implies, not_true_eq_false, not_false_eq_true, and_true, true_and, implies_true])
          refine c_change (by omega) (by omega) (by omega) ?_
          rw [vup_vup, up_at]
          (try simp only [↓w_X9_exchanged_0, ↓w_X9_exchanged_14, ↓w_X9_exchanged_21, ↓w_X9_exchanged_99, ↓w_X9_exchanged_138, ↓w_X9_exchanged_144, ↓w_X9_exchanged_165, ↓w_X9_exchanged_171, ↓w_X9_exchanged_177, ↓v_X9_exchanged_14, ↓v_X9_exchanged_21, ↓v_X9_exchanged_88, ↓v_X9_exchanged_99, ↓v_X9_exchanged_138, ↓v_X9_exchanged_144, ↓v_X9_exchanged_165, ↓v_X9_exchanged_171, ↓v_X9_exchanged_177, ↓b_aload_n, ↓b_bipush, ↓b_callS1_1, ↓b_callS2_1, ↓b_callV1_0, ↓b_callV1_1, ↓b_callV2_1, ↓b_callV3_0, ↓b_goto, ↓b_iadd, ↓b_ic_eq, ↓b_ic_ge, ↓b_ic_gt, ↓b_iconst, ↓b_if_ne, ↓n_iinc, ↓b_iload, ↓b_iload_n, ↓b_iret, ↓n_istore, ↓n_istore_n, ↓n_putI, ↓b_sipush, ↓ldI_hit, ↓ldI_skip, ↓ldL_hit, ↓ldL_skip, ↓ldA_hit, ↓ldA_skip, ↓ldelK_nil, ↓ldelK_hit, ↓ldelK_skipI, ↓ldelK_skipA, ↓ldelK_skipL, qP2_X9_cell, qP2_X9_change, qP2_X9_isHours, qP2_X9_layRule, qP2_X9_run, qP2_X9_works, ↓bI_b, bI_0, nnot, lget_hit, lget_skip, ldel_nil, ldel_hit, ldel_skipI, ldel_skipA, ldel_skipL, ldel2_nil, ldel2_hit, ldel2_hit2, ldel2_skipI, ldel2_skipA, ldel2_skipL, vc_0, mCat_nil, mCat_I, mCat_L, mCat_A, mRcv_A, mArg_nil, mArg_I, mArg_L, mArg_A, tsg, swt_nil, swt_cons, lkw_nil, lkw_cons, ↓reduceIte, Nat.reduceAdd, Nat.reduceEqDiff, Nat.reduceLeDiff, Nat.reduceMul, true_and, and_true, and_self, List.mem_cons, List.not_mem_nil, or_false, or_self, false_or, true_implies, false_implies, not_true_eq_false, not_false_eq_true, nI00, nI10, nI01, nI11, forall_const, implies_true])
          (try simp (disch := omega) only [ixq, ixz, sb_in, sb_in0, upI_sb, upI_sb0, sb_out, nI_add, nI_mul, nI_subq, Nat.zero_add, forall_eq, u2_at, u2_row, upd_at, upd_ne, nI0b, nI1b, nI00, nI10, nI01, nI11, true_implies, false_implies, not_true_eq_false, not_false_eq_true, and_true, true_and, implies_true])
          refine c_change (by omega) (by omega) (by omega) ?_
          rw [vup_vup, up_at, hF3]
          (try simp only [↓w_X9_exchanged_0, ↓w_X9_exchanged_14, ↓w_X9_exchanged_21, ↓w_X9_exchanged_99, ↓w_X9_exchanged_138, ↓w_X9_exchanged_144, ↓w_X9_exchanged_165, ↓w_X9_exchanged_171, ↓w_X9_exchanged_177, ↓v_X9_exchanged_14, ↓v_X9_exchanged_21, ↓v_X9_exchanged_88, ↓v_X9_exchanged_99, ↓v_X9_exchanged_138, ↓v_X9_exchanged_144, ↓v_X9_exchanged_165, ↓v_X9_exchanged_171, ↓v_X9_exchanged_177, ↓b_aload_n, ↓b_bipush, ↓b_callS1_1, ↓b_callS2_1, ↓b_callV1_0, ↓b_callV1_1, ↓b_callV2_1, ↓b_callV3_0, ↓b_goto, ↓b_iadd, ↓b_ic_eq, ↓b_ic_ge, ↓b_ic_gt, ↓b_iconst, ↓b_if_ne, ↓n_iinc, ↓b_iload, ↓b_iload_n, ↓b_iret, ↓n_istore, ↓n_istore_n, ↓n_putI, ↓b_sipush, ↓ldI_hit, ↓ldI_skip, ↓ldL_hit, ↓ldL_skip, ↓ldA_hit, ↓ldA_skip, ↓ldelK_nil, ↓ldelK_hit, ↓ldelK_skipI, ↓ldelK_skipA, ↓ldelK_skipL, qP2_X9_cell, qP2_X9_change, qP2_X9_isHours, qP2_X9_layRule, qP2_X9_run, qP2_X9_works, ↓bI_b, bI_0, nnot, lget_hit, lget_skip, ldel_nil, ldel_hit, ldel_skipI, ldel_skipA, ldel_skipL, ldel2_nil, ldel2_hit, ldel2_hit2, ldel2_skipI, ldel2_skipA, ldel2_skipL, vc_0, mCat_nil, mCat_I, mCat_L, mCat_A, mRcv_A, mArg_nil, mArg_I, mArg_L, mArg_A, tsg, swt_nil, swt_cons, lkw_nil, lkw_cons, ↓reduceIte, Nat.reduceAdd, Nat.reduceEqDiff, Nat.reduceLeDiff, Nat.reduceMul, true_and, and_true, and_self, List.mem_cons, List.not_mem_nil, or_false, or_self, false_or, true_implies, false_implies, not_true_eq_false, not_false_eq_true, nI00, nI10, nI01, nI11, forall_const, implies_true])
          (try simp (disch := omega) only [ixq, ixz, sb_in, sb_in0, upI_sb, upI_sb0, sb_out, nI_add, nI_mul, nI_subq, Nat.zero_add, forall_eq, u2_at, u2_row, upd_at, upd_ne, nI0b, nI1b, nI00, nI10, nI01, nI11, true_implies, false_implies, not_true_eq_false, not_false_eq_true, and_true, true_and, implies_true])
          exact i2
      (try simp only [↓w_X9_exchanged_0, ↓w_X9_exchanged_88, ↓w_X9_exchanged_99, ↓w_X9_exchanged_138, ↓w_X9_exchanged_144, ↓w_X9_exchanged_165, ↓w_X9_exchanged_171, ↓w_X9_exchanged_177, ↓v_X9_exchanged_14, ↓v_X9_exchanged_21, ↓v_X9_exchanged_88, ↓v_X9_exchanged_99, ↓v_X9_exchanged_138, ↓v_X9_exchanged_144, ↓v_X9_exchanged_165, ↓v_X9_exchanged_171, ↓v_X9_exchanged_177, ↓b_aload_n, ↓b_bipush, ↓b_callS1_1, ↓b_callS2_1, ↓b_callV1_0, ↓b_callV1_1, ↓b_callV2_1, ↓b_callV3_0, ↓b_goto, ↓b_iadd, ↓b_ic_eq, ↓b_ic_ge, ↓b_ic_gt, ↓b_iconst, ↓b_if_ne, ↓n_iinc, ↓b_iload, ↓b_iload_n, ↓b_iret, ↓n_istore, ↓n_istore_n, ↓n_putI, ↓b_sipush, ↓ldI_hit, ↓ldI_skip, ↓ldL_hit, ↓ldL_skip, ↓ldA_hit, ↓ldA_skip, ↓ldelK_nil, ↓ldelK_hit, ↓ldelK_skipI, ↓ldelK_skipA, ↓ldelK_skipL, qP2_X9_cell, qP2_X9_change, qP2_X9_isHours, qP2_X9_layRule, qP2_X9_run, qP2_X9_works, ↓bI_b, bI_0, nnot, lget_hit, lget_skip, ldel_nil, ldel_hit, ldel_skipI, ldel_skipA, ldel_skipL, ldel2_nil, ldel2_hit, ldel2_hit2, ldel2_skipI, ldel2_skipA, ldel2_skipL, vc_0, mCat_nil, mCat_I, mCat_L, mCat_A, mRcv_A, mArg_nil, mArg_I, mArg_L, mArg_A, tsg, swt_nil, swt_cons, lkw_nil, lkw_cons, ↓reduceIte, Nat.reduceAdd, Nat.reduceEqDiff, Nat.reduceLeDiff, Nat.reduceMul, true_and, and_true, and_self, List.mem_cons, List.not_mem_nil, or_false, or_self, false_or, true_implies, false_implies, not_true_eq_false, not_false_eq_true, nI00, nI10, nI01, nI11, forall_const, implies_true])
      (try simp (disch := omega) only [ixq, ixz, sb_in, sb_in0, upI_sb, upI_sb0, sb_out, nI_add, nI_mul, nI_subq, Nat.zero_add, forall_eq, u2_at, u2_row, upd_at, upd_ne, nI0b, nI1b, nI00, nI10, nI01, nI11, true_implies, false_implies, not_true_eq_false, not_false_eq_true, and_true, true_and, implies_true, hin, hik])
      (refine vc_from P2_ok ok_X9_exchanged [14,21,88,99,144,165,171] 8 ?_; rw [t_X9_exchanged_14])
      (try simp only [↓w_X9_exchanged_0, ↓w_X9_exchanged_14, ↓w_X9_exchanged_88, ↓w_X9_exchanged_99, ↓w_X9_exchanged_138, ↓w_X9_exchanged_144, ↓w_X9_exchanged_165, ↓w_X9_exchanged_171, ↓w_X9_exchanged_177, ↓v_X9_exchanged_14, ↓v_X9_exchanged_21, ↓v_X9_exchanged_88, ↓v_X9_exchanged_99, ↓v_X9_exchanged_138, ↓v_X9_exchanged_144, ↓v_X9_exchanged_165, ↓v_X9_exchanged_171, ↓v_X9_exchanged_177, ↓b_aload_n, ↓b_bipush, ↓b_callS1_1, ↓b_callS2_1, ↓b_callV1_0, ↓b_callV1_1, ↓b_callV2_1, ↓b_callV3_0, ↓b_goto, ↓b_iadd, ↓b_ic_eq, ↓b_ic_ge, ↓b_ic_gt, ↓b_iconst, ↓b_if_ne, ↓n_iinc, ↓b_iload, ↓b_iload_n, ↓b_iret, ↓n_istore, ↓n_istore_n, ↓n_putI, ↓b_sipush, ↓ldI_hit, ↓ldI_skip, ↓ldL_hit, ↓ldL_skip, ↓ldA_hit, ↓ldA_skip, ↓ldelK_nil, ↓ldelK_hit, ↓ldelK_skipI, ↓ldelK_skipA, ↓ldelK_skipL, qP2_X9_cell, qP2_X9_change, qP2_X9_isHours, qP2_X9_layRule, qP2_X9_run, qP2_X9_works, ↓bI_b, bI_0, nnot, lget_hit, lget_skip, ldel_nil, ldel_hit, ldel_skipI, ldel_skipA, ldel_skipL, ldel2_nil, ldel2_hit, ldel2_hit2, ldel2_skipI, ldel2_skipA, ldel2_skipL, vc_0, mCat_nil, mCat_I, mCat_L, mCat_A, mRcv_A, mArg_nil, mArg_I, mArg_L, mArg_A, tsg, swt_nil, swt_cons, lkw_nil, lkw_cons, ↓reduceIte, Nat.reduceAdd, Nat.reduceEqDiff, Nat.reduceLeDiff, Nat.reduceMul, true_and, and_true, and_self, List.mem_cons, List.not_mem_nil, or_false, or_self, false_or, true_implies, false_implies, not_true_eq_false, not_false_eq_true, nI00, nI10, nI01, nI11, forall_const, implies_true])
      (try simp (disch := omega) only [ixq, ixz, sb_in, sb_in0, upI_sb, upI_sb0, sb_out, nI_add, nI_mul, nI_subq, Nat.zero_add, forall_eq, u2_at, u2_row, upd_at, upd_ne, nI0b, nI1b, nI00, nI10, nI01, nI11, true_implies, false_implies, not_true_eq_false, not_false_eq_true, and_true, true_and, implies_true])
      have i2 := main (W - 1) 0 _ (0, 0, 0) frK_r bs_0 (by omega) hK
      rw [bsB_0, bsN_0] at i2
      exact i2
  · refine get (.inl (-1)) hx hr (fun K hK => ?_) (fun K hK => ?_)
    · (refine vc_met2 P2_ok ok_X8_exchanged cm_X8_exchanged [9,27] 8 t_X8_exchanged_0 (Nat.le_of_ble_eq_true rfl) ?_; simp only [mArg_nil, mArg_I, mArg_L, mArg_A, Nat.reduceAdd])
      (try simp only [↓w_X8_exchanged_0, ↓w_X8_exchanged_89, ↓w_X8_exchanged_95, ↓v_X8_exchanged_9, ↓v_X8_exchanged_27, ↓v_X8_exchanged_89, ↓v_X8_exchanged_95, ↓b_aload_n, ↓b_callS1_1, ↓b_callV1_1, ↓b_callV2_0, ↓b_callV4_1, ↓b_getA, ↓b_getI, ↓b_goto, ↓b_iadd, ↓b_ic_ge, ↓b_ic_le, ↓b_iconst, ↓b_if_ne, ↓n_iinc, ↓b_iload, ↓b_iload_n, ↓b_iret, ↓n_istore, ↓n_istore_n, ↓ldI_hit, ↓ldI_skip, ↓ldL_hit, ↓ldL_skip, ↓ldA_hit, ↓ldA_skip, ↓ldelK_nil, ↓ldelK_hit, ↓ldelK_skipI, ↓ldelK_skipA, ↓ldelK_skipL, qP2_X0_allWorks, qP2_X0_copyFrom, qP2_X0_exchangeWithNext, qP2_X8_areHours, qP2_X8_madeAlone, ↓bI_b, bI_0, nnot, lget_hit, lget_skip, ldel_nil, ldel_hit, ldel_skipI, ldel_skipA, ldel_skipL, ldel2_nil, ldel2_hit, ldel2_hit2, ldel2_skipI, ldel2_skipA, ldel2_skipL, vc_0, mCat_nil, mCat_I, mCat_L, mCat_A, mRcv_A, mArg_nil, mArg_I, mArg_L, mArg_A, tsg, swt_nil, swt_cons, lkw_nil, lkw_cons, ↓reduceIte, Nat.reduceAdd, Nat.reduceEqDiff, Nat.reduceLeDiff, Nat.reduceMul, true_and, and_true, and_self, List.mem_cons, List.not_mem_nil, or_false, or_self, false_or, true_implies, false_implies, not_true_eq_false, not_false_eq_true, nI00, nI10, nI01, nI11, forall_const, implies_true])
      (try simp (disch := omega) only [ixq, ixz, sb_in, sb_in0, upI_sb, upI_sb0, sb_out, nI_add, nI_mul, nI_subq, Nat.zero_add, forall_eq, u2_at, u2_row, upd_at, upd_ne, nI0b, nI1b, nI00, nI10, nI01, nI11, true_implies, false_implies, not_true_eq_false, not_false_eq_true, and_true, true_and, implies_true, hin, ht])
      exact hK
    · (refine vc_met2 P2_ok ok_X9_exchanged cm_X9_exchanged [14,21] 8 t_X9_exchanged_0 (Nat.le_of_ble_eq_true rfl) ?_; simp only [mArg_nil, mArg_I, mArg_L, mArg_A, Nat.reduceAdd])
      (try simp only [↓w_X9_exchanged_0, ↓w_X9_exchanged_88, ↓w_X9_exchanged_99, ↓w_X9_exchanged_138, ↓w_X9_exchanged_144, ↓w_X9_exchanged_165, ↓w_X9_exchanged_171, ↓w_X9_exchanged_177, ↓v_X9_exchanged_14, ↓v_X9_exchanged_21, ↓v_X9_exchanged_88, ↓v_X9_exchanged_99, ↓v_X9_exchanged_138, ↓v_X9_exchanged_144, ↓v_X9_exchanged_165, ↓v_X9_exchanged_171, ↓v_X9_exchanged_177, ↓b_aload_n, ↓b_bipush, ↓b_callS1_1, ↓b_callS2_1, ↓b_callV1_0, ↓b_callV1_1, ↓b_callV2_1, ↓b_callV3_0, ↓b_goto, ↓b_iadd, ↓b_ic_eq, ↓b_ic_ge, ↓b_ic_gt, ↓b_iconst, ↓b_if_ne, ↓n_iinc, ↓b_iload, ↓b_iload_n, ↓b_iret, ↓n_istore, ↓n_istore_n, ↓n_putI, ↓b_sipush, ↓ldI_hit, ↓ldI_skip, ↓ldL_hit, ↓ldL_skip, ↓ldA_hit, ↓ldA_skip, ↓ldelK_nil, ↓ldelK_hit, ↓ldelK_skipI, ↓ldelK_skipA, ↓ldelK_skipL, qP2_X9_cell, qP2_X9_change, qP2_X9_isHours, qP2_X9_layRule, qP2_X9_run, qP2_X9_works, ↓bI_b, bI_0, nnot, lget_hit, lget_skip, ldel_nil, ldel_hit, ldel_skipI, ldel_skipA, ldel_skipL, ldel2_nil, ldel2_hit, ldel2_hit2, ldel2_skipI, ldel2_skipA, ldel2_skipL, vc_0, mCat_nil, mCat_I, mCat_L, mCat_A, mRcv_A, mArg_nil, mArg_I, mArg_L, mArg_A, tsg, swt_nil, swt_cons, lkw_nil, lkw_cons, ↓reduceIte, Nat.reduceAdd, Nat.reduceEqDiff, Nat.reduceLeDiff, Nat.reduceMul, true_and, and_true, and_self, List.mem_cons, List.not_mem_nil, or_false, or_self, false_or, true_implies, false_implies, not_true_eq_false, not_false_eq_true, nI00, nI10, nI01, nI11, forall_const, implies_true])
      (try simp (disch := omega) only [ixq, ixz, sb_in, sb_in0, upI_sb, upI_sb0, sb_out, nI_add, nI_mul, nI_subq, Nat.zero_add, forall_eq, u2_at, u2_row, upd_at, upd_ne, nI0b, nI1b, nI00, nI10, nI01, nI11, true_implies, false_implies, not_true_eq_false, not_false_eq_true, and_true, true_and, implies_true, hin, ht])
      exact hK
end MEx
