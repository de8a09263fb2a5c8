section MIm
variable {X : mC} {h x m b p s r b2 p2 s2 r2 : Nat} {μ μ1 : Mem} {K : MV → Mem → Prop}
theorem d_cpB (hd : b2 + 12 ≤ b ∨ b + 12 ≤ b2) (hj : bk μ1 b2 0 3 = 0 ∨ bk μ1 b2 0 3 = 1) (hK : ∀ μ2, μ2.2 = μ1.2 → (∀ i, i < b ∨ b + 12 ≤ i → μ2.1 i = μ1.1 i) → eqB (bk μ1 b2) (bk μ2 b) → K (.inl 0) μ2) : mMet X (h + 1) m_X0_copyFrom [.inr (.inr (0, 0, b)), .inr (.inr (0, 0, b2))] μ1 K := by
  refine cls_in (i := b) (n := 12) ?_
  refine c_copyBrook (B2 := bk μ1 b2) hd (fun _ _ => rfl) hj (hK _ rfl (fun i hi => sb_out hi) (eqB_t (cpB_eq (B := bk μ1 b)) (eqB_k (fun k hk => sb_in hk))))
theorem eqP_t {A B C : Bk} (h : eqP A B) (h2 : eqP B C) : eqP A C := ⟨h2.1.trans h.1, fun r j a b c => (h2.2 r j a b c).trans (h.2 r j a b c)⟩
theorem eqS_t {A B C : Bk} (h : eqS A B) (h2 : eqS B C) : eqS A C := ⟨h2.1.trans h.1, h2.2.1.trans h.2.1, fun j a => ⟨(h2.2.2 j a).1.trans (h.2.2 j a).1, (h2.2.2 j a).2.1.trans (h.2.2 j a).2.1, (h2.2.2 j a).2.2.trans (h.2.2 j a).2.2⟩⟩
theorem eqR_t {A B C : Bk} (h : eqR A B) (h2 : eqR B C) : eqR A C := ⟨h2.1.trans h.1, fun r j a b c => (h2.2 r j a b c).trans (h.2 r j a b c)⟩
theorem d_cpP (hd : p2 + 7 ≤ p ∨ p + 7 ≤ p2) (hK : ∀ μ2, μ2.2 = μ1.2 → (∀ i, i < p ∨ p + 7 ≤ i → μ2.1 i = μ1.1 i) → eqP (bk μ1 p2) (bk μ2 p) → K (.inl 0) μ2) : mMet X (h + 1) m_X3_copyFrom [.inr (.inr (2, 0, p)), .inr (.inr (2, 0, p2))] μ1 K := by
  refine cls_in (i := p) (n := 7) ?_
  refine c_copyPlan (Q2 := bk μ1 p2) hd (fun _ _ => rfl) (hK _ rfl (fun i hi => sb_out hi) (eqP_t (cpP_eq (Q := bk μ1 p)) (eqP_k (fun k hk => sb_in hk))))
theorem d_cpS (hd : s2 + 4 ≤ s ∨ s + 4 ≤ s2) (hK : ∀ μ2, μ2.2 = μ1.2 → (∀ i, i < s ∨ s + 4 ≤ i → μ2.1 i = μ1.1 i) → eqS (bk μ1 s2) (bk μ2 s) → K (.inl 0) μ2) : mMet X (h + 1) m_X5_copyFrom [.inr (.inr (4, 0, s)), .inr (.inr (4, 0, s2))] μ1 K := by
  refine cls_in (i := s) (n := 4) ?_
  refine c_copySent (S2 := bk μ1 s2) hd (fun _ _ => rfl) (hK _ rfl (fun i hi => sb_out hi) (eqS_t (cpSe_eq (S := bk μ1 s)) (eqS_k (fun k hk => sb_in hk))))
theorem d_cpR (hd : r2 + 12 ≤ r ∨ r + 12 ≤ r2) (hK : ∀ μ2, μ2.2 = μ1.2 → (∀ i, i < r ∨ r + 12 ≤ i → μ2.1 i = μ1.1 i) → eqR (bk μ1 r2) (bk μ2 r) → K (.inl 0) μ2) : mMet X (h + 1) m_X4_copyFrom [.inr (.inr (3, 0, r)), .inr (.inr (3, 0, r2))] μ1 K := by
  refine cls_in (i := r) (n := 12) ?_
  refine c_copyRun (R2 := bk μ1 r2) hd (fun _ _ => rfl) (hK _ rfl (fun i hi => sb_out hi) (eqR_t (cpRn_eq (R := bk μ1 r)) (eqR_k (fun k hk => sb_in hk))))
def cpA (a n : Nat) (f g : Nat → Int32) : Nat → Int32 := fun l => if a ≤ l ∧ l < a + n then f (l - a) else g l
def cpB' (a n : Nat) (f g : Nat → Int64) : Nat → Int64 := fun l => if a ≤ l ∧ l < a + n then f (l - a) else g l
theorem cpA_0 {a : Nat} {f g : Nat → Int32} : cpA a 0 f g = g := funext fun l => if_neg (by omega)
theorem cpA_s {a n : Nat} {f g : Nat → Int32} : upd (cpA a n f g) (a + n) (f n) = cpA a (n + 1) f g := by
  funext l
  unfold upd cpA
  by_cases h : l = a + n
  · rw [if_pos h, if_pos (by omega), h, Nat.add_sub_cancel_left]
  · rw [if_neg h]
    by_cases h2 : a ≤ l ∧ l < a + n
    · rw [if_pos h2, if_pos (by omega)]
    · rw [if_neg h2, if_neg (by omega)]
theorem cpA_in {a n i : Nat} {f g : Nat → Int32} (h : i < n) : cpA a n f g (a + i) = f i := by
  unfold cpA
  rw [if_pos (by omega), Nat.add_sub_cancel_left]
theorem cpA_out {a n l : Nat} {f g : Nat → Int32} (h : l < a ∨ a + n ≤ l) : cpA a n f g l = g l := if_neg (by omega)
theorem cpB_0 {a : Nat} {f g : Nat → Int64} : cpB' a 0 f g = g := funext fun l => if_neg (by omega)
theorem cpB_s {a n : Nat} {f g : Nat → Int64} : vp_updL (cpB' a n f g) (a + n) (f n) = cpB' a (n + 1) f g := by
  funext l
  unfold vp_updL cpB'
  by_cases h : l = a + n
  · rw [if_pos h, if_pos (by omega), h, Nat.add_sub_cancel_left]
  · rw [if_neg h]
    by_cases h2 : a ≤ l ∧ l < a + n
    · rw [if_pos h2, if_pos (by omega)]
    · rw [if_neg h2, if_neg (by omega)]
theorem cpB_in {a n i : Nat} {f g : Nat → Int64} (h : i < n) : cpB' a n f g (a + i) = f i := by
  unfold cpB'
  rw [if_pos (by omega), Nat.add_sub_cancel_left]
theorem cpB_out {a n l : Nat} {f g : Nat → Int64} (h : l < a ∨ a + n ≤ l) : cpB' a n f g l = g l := if_neg (by omega)
theorem upL_r2 {l k : Nat} {y : Int64} {F : Nat → Int64} {Q : Bk} : upL (sb (rL μ l F) m 21 Q) l k y = sb (rL μ l (vp_updL F k y)) m 21 Q := by rw [upL_sb, rL_up]
theorem f_image {t : Int32} (hx : x + 164 = m) (hr : Rel x m μ) : PAIR X (h + 9) m_X8_image m_X9_image x m [.inl t] μ := by
  obtain ⟨G, W, rb, pl, sn, rn⟩ := id hr.2.2.1
  by_cases ht : ∃ a, a < 2 ∧ t = nI a
  · obtain ⟨j, hj, rfl⟩ := ht
    have y1 : (nI j < 0) = False := eq_false (nI_pos (by omega))
    have y2 : (nI j < nI 2) = True := by rw [nI_ltq (by omega) (by omega)]; exact eq_true (by omega)
    have y3 : (nI 0 ≤ nI j ∧ nI j ≤ nI 1) = True := by rw [nI_lq (by omega) (by omega), nI_lq (by omega) (by omega)]; exact eq_true ⟨by omega, by omega⟩
    have end9 : ∀ μ3 : Mem, μ3.2 = μ.2 → (∀ i, (i < x + 87 + 36 * j ∨ x + 123 + 36 * j ≤ i) → μ3.1 i = μ.1 i) → μ3.1 (x + 87 + 36 * j) 0 = nI 1 → eqB (bk μ (x + 4)) (bk μ3 (x + 88 + 36 * j)) → eqP (bk μ (x + 28)) (bk μ3 (x + 100 + 36 * j)) → eqS (bk μ (x + 42)) (bk μ3 (x + 107 + 36 * j)) → eqR (bk μ (x + 50)) (bk μ3 (x + 111 + 36 * j)) → mMet X (h + 9) m_X9_image [.inr (.inr (8, 0, m)), .inl (nI j)] μ3 (fun b μ2 => (.inl (nI 1) : MV) = b ∧ Rel x m μ2) := by
      intro μ3 h2 ho h0 hB hP hS hR
      generalize hK2 : (fun (b' : MV) (μ2 : Mem) => (.inl (nI 1) : MV) = b' ∧ Rel x m μ2) = K2
      refine ref_in (m := m) ?_
      have eq : ∀ k, bk μ3 m k = μ.1 (m + k) := fun k => ho _ (by omega)
      have endR : ∀ Nk : Nat → Int64, ∀ q5 : Nat → Int32, (∀ i, i < 14 → Nk (14 * j + i) = μ.2 (m + 6) i) → (∀ i, (i < 14 * j ∨ 14 * j + 14 ≤ i) → Nk i = μ.2 (m + 8) i) → (∀ i, i < 925 → q5 (925 * j + i) = μ.1 (m + 2) i) → (∀ i, (i < 925 * j ∨ 925 * j + 925 ≤ i) → q5 i = μ.1 (m + 5) i) → K2 (.inl (nI 1)) (sb (rL μ3 (m + 8) Nk) m 21 (u2 (va_up (u2 (bk μ3 m) 0 0 (nI 0)) 5 q5) 9 j (nI 1))) := by
        intro Nk q5 n1 n2 q1 q2
        rw [← hK2]
        refine ⟨rfl, ?_⟩
        obtain ⟨r1, r2, r3, r4, r5, r6, r7, r8⟩ := hr
        have e : ∀ k, k < 21 → (sb (rL μ3 (m + 8) Nk) m 21 (u2 (va_up (u2 (bk μ3 m) 0 0 (nI 0)) 5 q5) 9 j (nI 1))).1 (m + k) = (u2 (va_up (u2 (bk μ3 m) 0 0 (nI 0)) 5 q5) 9 j (nI 1)) k := fun k hk => sb_in hk
        have ek : ∀ k, k < 21 → k ≠ 0 → k ≠ 5 → k ≠ 9 → (sb (rL μ3 (m + 8) Nk) m 21 (u2 (va_up (u2 (bk μ3 m) 0 0 (nI 0)) 5 q5) 9 j (nI 1))).1 (m + k) = μ.1 (m + k) := fun k a b c d => by
          rw [e k a, u2_row d, up_row c, u2_row b]; exact eq k
        have e5 : (sb (rL μ3 (m + 8) Nk) m 21 (u2 (va_up (u2 (bk μ3 m) 0 0 (nI 0)) 5 q5) 9 j (nI 1))).1 (m + 5) = q5 := by
          rw [e 5 (by omega), u2_row (by decide), up_at]
        have e9 : (sb (rL μ3 (m + 8) Nk) m 21 (u2 (va_up (u2 (bk μ3 m) 0 0 (nI 0)) 5 q5) 9 j (nI 1))).1 (m + 9) = upd (μ.1 (m + 9)) j (nI 1) := by
          rw [e 9 (by omega), u2_at, up_row (by decide), u2_row (by decide), eq 9]
        have e0 : ∀ i, i ≠ 0 → (sb (rL μ3 (m + 8) Nk) m 21 (u2 (va_up (u2 (bk μ3 m) 0 0 (nI 0)) 5 q5) 9 j (nI 1))).1 m i = μ.1 m i := fun i hi => by
          have e00 : (sb (rL μ3 (m + 8) Nk) m 21 (u2 (va_up (u2 (bk μ3 m) 0 0 (nI 0)) 5 q5) 9 j (nI 1))).1 m = (u2 (va_up (u2 (bk μ3 m) 0 0 (nI 0)) 5 q5) 9 j (nI 1)) 0 := e 0 (by omega)
          rw [e00, u2_row (by decide), up_row (by decide), u2_at, upd_ne hi]
          exact congrFun (eq 0) i
        have o : ∀ i, i < 164 → (sb (rL μ3 (m + 8) Nk) m 21 (u2 (va_up (u2 (bk μ3 m) 0 0 (nI 0)) 5 q5) 9 j (nI 1))).1 (x + i) = μ3.1 (x + i) := fun i hi => by rw [sb_out (by omega)]; rfl
        have oo : ∀ i, (i < 87 + 36 * j ∨ 123 + 36 * j ≤ i) → i < 164 → (sb (rL μ3 (m + 8) Nk) m 21 (u2 (va_up (u2 (bk μ3 m) 0 0 (nI 0)) 5 q5) 9 j (nI 1))).1 (x + i) = μ.1 (x + i) := fun i h1 h2 => by rw [o i h2]; exact ho _ (by omega)
        have l8 : (sb (rL μ3 (m + 8) Nk) m 21 (u2 (va_up (u2 (bk μ3 m) 0 0 (nI 0)) 5 q5) 9 j (nI 1))).2 (m + 8) = Nk := rL_at
        have lo : ∀ i, i ≠ m + 8 → (sb (rL μ3 (m + 8) Nk) m 21 (u2 (va_up (u2 (bk μ3 m) 0 0 (nI 0)) 5 q5) 9 j (nI 1))).2 i = μ.2 i := fun i hi => by
          have : (sb (rL μ3 (m + 8) Nk) m 21 (u2 (va_up (u2 (bk μ3 m) 0 0 (nI 0)) 5 q5) 9 j (nI 1))).2 i = μ3.2 i := rL_o hi
          rw [this, h2]
        have obk : ∀ a n, ((a + n ≤ 87 + 36 * j) ∨ 123 + 36 * j ≤ a) → a + n ≤ 164 → ∀ k, k < n → bk (sb (rL μ3 (m + 8) Nk) m 21 (u2 (va_up (u2 (bk μ3 m) 0 0 (nI 0)) 5 q5) 9 j (nI 1))) (x + a) k = bk μ (x + a) k := fun a n h1 h2 k hk => by
          show (sb (rL μ3 (m + 8) Nk) m 21 (u2 (va_up (u2 (bk μ3 m) 0 0 (nI 0)) 5 q5) 9 j (nI 1))).1 (x + a + k) = μ.1 (x + a + k)
          rw [Nat.add_assoc]
          exact oo _ (by omega) (by omega)
        have ob3 : ∀ a n, a + n ≤ 164 → ∀ k, k < n → bk (sb (rL μ3 (m + 8) Nk) m 21 (u2 (va_up (u2 (bk μ3 m) 0 0 (nI 0)) 5 q5) 9 j (nI 1))) (x + a) k = bk μ3 (x + a) k := fun a n h2 k hk => by
          show (sb (rL μ3 (m + 8) Nk) m 21 (u2 (va_up (u2 (bk μ3 m) 0 0 (nI 0)) 5 q5) 9 j (nI 1))).1 (x + a + k) = μ3.1 (x + a + k)
          rw [Nat.add_assoc]
          exact o _ (by omega)
        generalize sb (rL μ3 (m + 8) Nk) m 21 (u2 (va_up (u2 (bk μ3 m) 0 0 (nI 0)) 5 q5) 9 j (nI 1)) = μ4 at e ek e5 e9 e0 o oo l8 lo obk ob3 ⊢
        have ox : μ4.1 x = μ.1 x := oo 0 (by omega) (by omega)
        refine ⟨RTp_k r1 (by rw [oo 1 (by omega) (by omega)]) (e0 2 (by decide)) (ek 1 (by omega) (by omega) (by omega) (by omega)) (oo 2 (by omega) (by omega)), RKw_k r2 (oo 3 (by omega) (by omega)), RSt_k r3 (fun i hi => oo i (by omega) (by omega)) (ek 2 (by omega) (by omega) (by omega) (by omega)) (lo _ (by omega)), fun k hk => ?_, RTx_k r5 (by rw [oo 159 (by omega) (by omega)]) (e0 38 (by decide)) (oo 160 (by omega) (by omega)) (ek 18 (by omega) (by omega) (by omega) (by omega)), RWo_k r6 (by rw [ox]) (e0 33 (by decide)) (lo _ (by omega)) (lo _ (by omega)) (lo _ (by omega)) (by rw [lo _ (by omega)]), ?_, ?_⟩
        · by_cases ej : k = j
          · subst ej
            refine Or.inr ⟨?_, ?_, ?_⟩
            · have a := o (87 + 36 * k) (by omega)
              rw [← Nat.add_assoc] at a
              rw [a]; exact h0
            · rw [e9, upd_at]
            · have B1 : eqB (bk μ (x + 4)) (bk μ4 (x + 88 + 36 * k)) := by
                have a := ob3 (88 + 36 * k) 12 (by omega)
                rw [← Nat.add_assoc] at a
                exact eqB_t hB (eqB_k a)
              have P1 : eqP (bk μ (x + 28)) (bk μ4 (x + 100 + 36 * k)) := by
                have a := ob3 (100 + 36 * k) 7 (by omega)
                rw [← Nat.add_assoc] at a
                exact eqP_t hP (eqP_k a)
              have S1 : eqS (bk μ (x + 42)) (bk μ4 (x + 107 + 36 * k)) := by
                have a := ob3 (107 + 36 * k) 4 (by omega)
                rw [← Nat.add_assoc] at a
                exact eqS_t hS (eqS_k a)
              have R1 : eqR (bk μ (x + 50)) (bk μ4 (x + 111 + 36 * k)) := by
                have a := ob3 (111 + 36 * k) 12 (by omega)
                rw [← Nat.add_assoc] at a
                exact eqR_t hR (eqR_k a)
              exact ST_eq r3 B1 P1 S1 R1 (fun i hi => by rw [e5]; exact q1 i hi) (fun i hi => by rw [l8]; exact n1 i hi)
          · have rk := r4 k hk
            have f0 : μ4.1 (x + 87 + 36 * k) = μ.1 (x + 87 + 36 * k) := by
              rw [Nat.add_assoc]; exact oo _ (by omega) (by omega)
            have f9 : μ4.1 (m + 9) k = μ.1 (m + 9) k := by rw [e9, upd_ne ej]
            unfold RIm at rk ⊢
            rw [f0, f9]
            rcases rk with z | ⟨a, b, c⟩
            · exact Or.inl z
            · refine Or.inr ⟨a, b, ?_⟩
              have B1 := obk (88 + 36 * k) 12 (by omega) (by omega)
              have P1 := obk (100 + 36 * k) 7 (by omega) (by omega)
              have S1 := obk (107 + 36 * k) 4 (by omega) (by omega)
              have R1 := obk (111 + 36 * k) 12 (by omega) (by omega)
              rw [← Nat.add_assoc] at B1 P1 S1 R1
              exact ST_eq c (eqB_k B1) (eqP_k P1) (eqS_k S1) (eqR_k R1) (fun i hi => by rw [e5]; exact q2 _ (by omega)) (fun i hi => by rw [l8]; exact n2 _ (by omega))
        · rw [ox, e0 35 (by decide)]; exact r7
        · rw [ox, e0 10 (by decide)]; exact r8
      have e2 : μ3.2 (m + 6) = μ.2 (m + 6) := by rw [h2]
      have e8 : μ3.2 (m + 8) = μ.2 (m + 8) := by rw [h2]
      have fin := endR (cpB' (14 * j) 14 (μ3.2 (m + 6)) (μ3.2 (m + 8))) (cpA (925 * j) 925 (bk μ3 m 2) (bk μ3 m 5)) (fun i hi => by rw [cpB_in hi, e2]) (fun i hi => by rw [cpB_out hi, e8]) (fun i hi => by rw [cpA_in hi, eq 2]) (fun i hi => by rw [cpA_out hi, eq 5])
      clear endR
      (refine vc_met2 P2_ok ok_X9_image cm_X9_image [16,18,49,51] 8 t_X9_image_0 (Nat.le_of_ble_eq_true rfl) ?_; simp only [mArg_nil, mArg_I, mArg_L, mArg_A, Nat.reduceAdd])
      have l2 : ∀ n i, i + n = 14 → bb X P2 m_X9_image (h + 8) K2 (vc X P2 m_X9_image (h + 8) K2 k_X9_image [16, 18, 49, 51] 8) s_X9_image_51 [(2, .inl (nI i)), (0, .inr (.inr (8, 0, m))), (1, .inl (nI j))] [] (sb (rL μ3 (m + 8) (cpB' (14 * j) i (μ3.2 (m + 6)) (μ3.2 (m + 8)))) m 21 (va_up (u2 (bk μ3 m) 0 0 (nI 0)) 5 (cpA (925 * j) 925 (bk μ3 m 2) (bk μ3 m 5)))) := by
        intro n
        generalize va_up (u2 (bk μ3 m) 0 0 (nI 0)) 5 (cpA (925 * j) 925 (bk μ3 m 2) (bk μ3 m 5)) = Q5 at fin ⊢
        induction n with
        | zero =>
          intro i hi
          have ei : i = 14 := by omega
          subst ei
          (try simp only [↓w_X9_image_0, ↓w_X9_image_16, ↓w_X9_image_18, ↓w_X9_image_49, ↓w_X9_image_51, ↓w_X9_image_80, ↓v_X9_image_16, ↓v_X9_image_18, ↓v_X9_image_49, ↓v_X9_image_51, ↓v_X9_image_80, ↓b_aload_n, ↓n_bastore, ↓b_bipush, ↓b_callS3_1, ↓b_getA, ↓b_goto, ↓b_iadd, ↓b_iaload, ↓n_iastore, ↓b_ic_ge, ↓b_iconst, ↓b_if_ne, ↓n_iinc, ↓b_iload_n, ↓b_imul, ↓n_istore_n, ↓b_laload, ↓n_lastore, ↓n_putI, ↓b_sipush, ↓b_zret, ↓ldI_hit, ↓ldI_skip, ↓ldL_hit, ↓ldL_skip, ↓ldA_hit, ↓ldA_skip, ↓ldelK_nil, ↓ldelK_hit, ↓ldelK_skipI, ↓ldelK_skipA, ↓ldelK_skipL, qP2_X9_isIn, ↓bI_b, bI_0, nnot, lget_hit, lget_skip, ldel_nil, ldel_hit, ldel_skipI, ldel_skipA, ldel_skipL, ldel2_nil, ldel2_hit, ldel2_hit2, ldel2_skipI, ldel2_skipA, ldel2_skipL, vc_0, mCat_nil, mCat_I, mCat_L, mCat_A, mRcv_A, mArg_nil, mArg_I, mArg_L, mArg_A, tsg, swt_nil, swt_cons, lkw_nil, lkw_cons, ↓reduceIte, Nat.reduceAdd, Nat.reduceEqDiff, Nat.reduceLeDiff, Nat.reduceMul, true_and, and_true, and_self, List.mem_cons, List.not_mem_nil, or_false, or_self, false_or, true_implies, false_implies, not_true_eq_false, not_false_eq_true, nI00, nI10, nI01, nI11, forall_const, implies_true])
          (try simp (disch := omega) only [ixq, ixz, sb_in, sb_in0, upI_sb, upI_sb0, sb_out, nI_add, nI_mul, nI_subq, Nat.zero_add, forall_eq, u2_at, u2_row, upd_at, upd_ne, nI0b, nI1b, nI00, nI10, nI01, nI11, true_implies, false_implies, not_true_eq_false, not_false_eq_true, and_true, true_and, implies_true, nI_lq])
          exact ⟨fun _ => fin, fun z => absurd (Nat.le_refl 14) z⟩
        | succ n ih =>
          intro i hi
          have i2 := ih (i + 1) (by omega)
          rw [← cpB_s] at i2
          have lk : ∀ F : Nat → Int64, (rL μ3 (m + 8) F).2 (m + 6) = μ3.2 (m + 6) := fun F => rL_o (by omega)
          (try simp only [↓w_X9_image_0, ↓w_X9_image_16, ↓w_X9_image_18, ↓w_X9_image_49, ↓w_X9_image_51, ↓w_X9_image_80, ↓v_X9_image_16, ↓v_X9_image_18, ↓v_X9_image_49, ↓v_X9_image_51, ↓v_X9_image_80, ↓b_aload_n, ↓n_bastore, ↓b_bipush, ↓b_callS3_1, ↓b_getA, ↓b_goto, ↓b_iadd, ↓b_iaload, ↓n_iastore, ↓b_ic_ge, ↓b_iconst, ↓b_if_ne, ↓n_iinc, ↓b_iload_n, ↓b_imul, ↓n_istore_n, ↓b_laload, ↓n_lastore, ↓n_putI, ↓b_sipush, ↓b_zret, ↓ldI_hit, ↓ldI_skip, ↓ldL_hit, ↓ldL_skip, ↓ldA_hit, ↓ldA_skip, ↓ldelK_nil, ↓ldelK_hit, ↓ldelK_skipI, ↓ldelK_skipA, ↓ldelK_skipL, qP2_X9_isIn, ↓bI_b, bI_0, nnot, lget_hit, lget_skip, ldel_nil, ldel_hit, ldel_skipI, ldel_skipA, ldel_skipL, ldel2_nil, ldel2_hit, ldel2_hit2, ldel2_skipI, ldel2_skipA, ldel2_skipL, vc_0, mCat_nil, mCat_I, mCat_L, mCat_A, mRcv_A, mArg_nil, mArg_I, mArg_L, mArg_A, tsg, swt_nil, swt_cons, lkw_nil, lkw_cons, ↓reduceIte, Nat.reduceAdd, Nat.reduceEqDiff, Nat.reduceLeDiff, Nat.reduceMul, true_and, and_true, and_self, List.mem_cons, List.not_mem_nil, or_false, or_self, false_or, true_implies, false_implies, not_true_eq_false, not_false_eq_true, nI00, nI10, nI01, nI11, forall_const, implies_true])
          (try simp (disch := omega) only [ixq, ixz, sb_in, sb_in0, upI_sb, upI_sb0, sb_out, nI_add, nI_mul, nI_subq, Nat.zero_add, forall_eq, u2_at, u2_row, upd_at, upd_ne, nI0b, nI1b, nI00, nI10, nI01, nI11, true_implies, false_implies, not_true_eq_false, not_false_eq_true, and_true, true_and, implies_true, nI_lq, sb_2, lk, upL_r2])
          refine ⟨fun z => by omega, fun _ => ?_⟩
          exact vc_back P2_ok ok_X9_image [16,18,49,51] 8 t_X9_image_51 (i2) (by simp) (rfl)
      have l1 : ∀ n i, i + n = 925 → bb X P2 m_X9_image (h + 8) K2 (vc X P2 m_X9_image (h + 8) K2 k_X9_image [16, 18, 49, 51] 8) s_X9_image_18 [(2, .inl (nI i)), (0, .inr (.inr (8, 0, m))), (1, .inl (nI j))] [] (sb μ3 m 21 (va_up (u2 (bk μ3 m) 0 0 (nI 0)) 5 (cpA (925 * j) i (bk μ3 m 2) (bk μ3 m 5)))) := by
        intro n
        induction n with
        | zero =>
          intro i hi
          have ei : i = 925 := by omega
          subst ei
          have i2 := l2 14 0 (by omega)
          rw [cpB_0, rL_self] at i2
          clear l2
          (try simp only [↓w_X9_image_0, ↓w_X9_image_16, ↓w_X9_image_18, ↓w_X9_image_80, ↓v_X9_image_16, ↓v_X9_image_18, ↓v_X9_image_49, ↓v_X9_image_51, ↓v_X9_image_80, ↓b_aload_n, ↓n_bastore, ↓b_bipush, ↓b_callS3_1, ↓b_getA, ↓b_goto, ↓b_iadd, ↓b_iaload, ↓n_iastore, ↓b_ic_ge, ↓b_iconst, ↓b_if_ne, ↓n_iinc, ↓b_iload_n, ↓b_imul, ↓n_istore_n, ↓b_laload, ↓n_lastore, ↓n_putI, ↓b_sipush, ↓b_zret, ↓ldI_hit, ↓ldI_skip, ↓ldL_hit, ↓ldL_skip, ↓ldA_hit, ↓ldA_skip, ↓ldelK_nil, ↓ldelK_hit, ↓ldelK_skipI, ↓ldelK_skipA, ↓ldelK_skipL, qP2_X9_isIn, ↓bI_b, bI_0, nnot, lget_hit, lget_skip, ldel_nil, ldel_hit, ldel_skipI, ldel_skipA, ldel_skipL, ldel2_nil, ldel2_hit, ldel2_hit2, ldel2_skipI, ldel2_skipA, ldel2_skipL, vc_0, mCat_nil, mCat_I, mCat_L, mCat_A, mRcv_A, mArg_nil, mArg_I, mArg_L, mArg_A, tsg, swt_nil, swt_cons, lkw_nil, lkw_cons, ↓reduceIte, Nat.reduceAdd, Nat.reduceEqDiff, Nat.reduceLeDiff, Nat.reduceMul, true_and, and_true, and_self, List.mem_cons, List.not_mem_nil, or_false, or_self, false_or, true_implies, false_implies, not_true_eq_false, not_false_eq_true, nI00, nI10, nI01, nI11, forall_const, implies_true])
          (try simp (disch := omega) only [ixq, ixz, sb_in, sb_in0, upI_sb, upI_sb0, sb_out, nI_add, nI_mul, nI_subq, Nat.zero_add, forall_eq, u2_at, u2_row, upd_at, upd_ne, nI0b, nI1b, nI00, nI10, nI01, nI11, true_implies, false_implies, not_true_eq_false, not_false_eq_true, and_true, true_and, implies_true, nI_lq])
          refine ⟨fun _ => ?_, fun z => absurd (Nat.le_refl 925) z⟩
          (refine vc_from P2_ok ok_X9_image [16,18,49,51] 8 ?_; rw [t_X9_image_49])
          (try simp only [↓w_X9_image_0, ↓w_X9_image_16, ↓w_X9_image_18, ↓w_X9_image_49, ↓w_X9_image_80, ↓v_X9_image_16, ↓v_X9_image_18, ↓v_X9_image_49, ↓v_X9_image_51, ↓v_X9_image_80, ↓b_aload_n, ↓n_bastore, ↓b_bipush, ↓b_callS3_1, ↓b_getA, ↓b_goto, ↓b_iadd, ↓b_iaload, ↓n_iastore, ↓b_ic_ge, ↓b_iconst, ↓b_if_ne, ↓n_iinc, ↓b_iload_n, ↓b_imul, ↓n_istore_n, ↓b_laload, ↓n_lastore, ↓n_putI, ↓b_sipush, ↓b_zret, ↓ldI_hit, ↓ldI_skip, ↓ldL_hit, ↓ldL_skip, ↓ldA_hit, ↓ldA_skip, ↓ldelK_nil, ↓ldelK_hit, ↓ldelK_skipI, ↓ldelK_skipA, ↓ldelK_skipL, qP2_X9_isIn, ↓bI_b, bI_0, nnot, lget_hit, lget_skip, ldel_nil, ldel_hit, ldel_skipI, ldel_skipA, ldel_skipL, ldel2_nil, ldel2_hit, ldel2_hit2, ldel2_skipI, ldel2_skipA, ldel2_skipL, vc_0, mCat_nil, mCat_I, mCat_L, mCat_A, mRcv_A, mArg_nil, mArg_I, mArg_L, mArg_A, tsg, swt_nil, swt_cons, lkw_nil, lkw_cons, ↓reduceIte, Nat.reduceAdd, Nat.reduceEqDiff, Nat.reduceLeDiff, Nat.reduceMul, true_and, and_true, and_self, List.mem_cons, List.not_mem_nil, or_false, or_self, false_or, true_implies, false_implies, not_true_eq_false, not_false_eq_true, nI00, nI10, nI01, nI11, forall_const, implies_true])
          (try simp (disch := omega) only [ixq, ixz, sb_in, sb_in0, upI_sb, upI_sb0, sb_out, nI_add, nI_mul, nI_subq, Nat.zero_add, forall_eq, u2_at, u2_row, upd_at, upd_ne, nI0b, nI1b, nI00, nI10, nI01, nI11, true_implies, false_implies, not_true_eq_false, not_false_eq_true, and_true, true_and, implies_true])
          exact i2
        | succ n ih =>
          intro i hi
          have i2 := ih (i + 1) (by omega)
          rw [← cpA_s] at i2
          clear l2
          (try simp only [↓w_X9_image_0, ↓w_X9_image_16, ↓w_X9_image_18, ↓w_X9_image_51, ↓w_X9_image_80, ↓v_X9_image_16, ↓v_X9_image_18, ↓v_X9_image_49, ↓v_X9_image_51, ↓v_X9_image_80, ↓b_aload_n, ↓n_bastore, ↓b_bipush, ↓b_callS3_1, ↓b_getA, ↓b_goto, ↓b_iadd, ↓b_iaload, ↓n_iastore, ↓b_ic_ge, ↓b_iconst, ↓b_if_ne, ↓n_iinc, ↓b_iload_n, ↓b_imul, ↓n_istore_n, ↓b_laload, ↓n_lastore, ↓n_putI, ↓b_sipush, ↓b_zret, ↓ldI_hit, ↓ldI_skip, ↓ldL_hit, ↓ldL_skip, ↓ldA_hit, ↓ldA_skip, ↓ldelK_nil, ↓ldelK_hit, ↓ldelK_skipI, ↓ldelK_skipA, ↓ldelK_skipL, qP2_X9_isIn, ↓bI_b, bI_0, nnot, lget_hit, lget_skip, ldel_nil, ldel_hit, ldel_skipI, ldel_skipA, ldel_skipL, ldel2_nil, ldel2_hit, ldel2_hit2, ldel2_skipI, ldel2_skipA, ldel2_skipL, vc_0, mCat_nil, mCat_I, mCat_L, mCat_A, mRcv_A, mArg_nil, mArg_I, mArg_L, mArg_A, tsg, swt_nil, swt_cons, lkw_nil, lkw_cons, ↓reduceIte, Nat.reduceAdd, Nat.reduceEqDiff, Nat.reduceLeDiff, Nat.reduceMul, true_and, and_true, and_self, List.mem_cons, List.not_mem_nil, or_false, or_self, false_or, true_implies, false_implies, not_true_eq_false, not_false_eq_true, nI00, nI10, nI01, nI11, forall_const, implies_true])
          (try simp (disch := omega) only [ixq, ixz, sb_in, sb_in0, upI_sb, upI_sb0, sb_out, nI_add, nI_mul, nI_subq, Nat.zero_add, forall_eq, u2_at, u2_row, upd_at, upd_ne, nI0b, nI1b, nI00, nI10, nI01, nI11, true_implies, false_implies, not_true_eq_false, not_false_eq_true, and_true, true_and, implies_true, nI_lq, u2_vup, up_row])
          refine ⟨fun z => by omega, fun _ => ?_⟩
          exact vc_back P2_ok ok_X9_image [16,18,49,51] 8 t_X9_image_18 (i2) (by simp) (rfl)
      have i2 := l1 925 0 (by omega)
      have e5 : va_up (u2 (bk μ3 m) 0 0 (nI 0)) 5 (bk μ3 m 5) = u2 (bk μ3 m) 0 0 (nI 0) := by
        have z : bk μ3 m 5 = u2 (bk μ3 m) 0 0 (nI 0) 5 := (u2_row (by decide)).symm
        rw [z]
        exact vup_id
      rw [cpA_0, e5] at i2
      clear l1 l2
      (try simp only [↓w_X9_image_0, ↓w_X9_image_49, ↓w_X9_image_51, ↓w_X9_image_80, ↓v_X9_image_16, ↓v_X9_image_18, ↓v_X9_image_49, ↓v_X9_image_51, ↓v_X9_image_80, ↓b_aload_n, ↓n_bastore, ↓b_bipush, ↓b_callS3_1, ↓b_getA, ↓b_goto, ↓b_iadd, ↓b_iaload, ↓n_iastore, ↓b_ic_ge, ↓b_iconst, ↓b_if_ne, ↓n_iinc, ↓b_iload_n, ↓b_imul, ↓n_istore_n, ↓b_laload, ↓n_lastore, ↓n_putI, ↓b_sipush, ↓b_zret, ↓ldI_hit, ↓ldI_skip, ↓ldL_hit, ↓ldL_skip, ↓ldA_hit, ↓ldA_skip, ↓ldelK_nil, ↓ldelK_hit, ↓ldelK_skipI, ↓ldelK_skipA, ↓ldelK_skipL, qP2_X9_isIn, ↓bI_b, bI_0, nnot, lget_hit, lget_skip, ldel_nil, ldel_hit, ldel_skipI, ldel_skipA, ldel_skipL, ldel2_nil, ldel2_hit, ldel2_hit2, ldel2_skipI, ldel2_skipA, ldel2_skipL, vc_0, mCat_nil, mCat_I, mCat_L, mCat_A, mRcv_A, mArg_nil, mArg_I, mArg_L, mArg_A, tsg, swt_nil, swt_cons, lkw_nil, lkw_cons, ↓reduceIte, Nat.reduceAdd, Nat.reduceEqDiff, Nat.reduceLeDiff, Nat.reduceMul, true_and, and_true, and_self, List.mem_cons, List.not_mem_nil, or_false, or_self, false_or, true_implies, false_implies, not_true_eq_false, not_false_eq_true, nI00, nI10, nI01, nI11, forall_const, implies_true, y3])
      (try simp (disch := omega) only [ixq, ixz, sb_in, sb_in0, upI_sb, upI_sb0, sb_out, nI_add, nI_mul, nI_subq, Nat.zero_add, forall_eq, u2_at, upd_at, upd_ne, nI0b, nI1b, nI00, nI10, nI01, nI11, true_implies, false_implies, not_true_eq_false, not_false_eq_true, and_true, true_and, implies_true])
      (refine vc_from P2_ok ok_X9_image [16,18,49,51] 8 ?_; rw [t_X9_image_16])
      (try simp only [↓w_X9_image_0, ↓w_X9_image_16, ↓w_X9_image_49, ↓w_X9_image_51, ↓w_X9_image_80, ↓v_X9_image_16, ↓v_X9_image_18, ↓v_X9_image_49, ↓v_X9_image_51, ↓v_X9_image_80, ↓b_aload_n, ↓n_bastore, ↓b_bipush, ↓b_callS3_1, ↓b_getA, ↓b_goto, ↓b_iadd, ↓b_iaload, ↓n_iastore, ↓b_ic_ge, ↓b_iconst, ↓b_if_ne, ↓n_iinc, ↓b_iload_n, ↓b_imul, ↓n_istore_n, ↓b_laload, ↓n_lastore, ↓n_putI, ↓b_sipush, ↓b_zret, ↓ldI_hit, ↓ldI_skip, ↓ldL_hit, ↓ldL_skip, ↓ldA_hit, ↓ldA_skip, ↓ldelK_nil, ↓ldelK_hit, ↓ldelK_skipI, ↓ldelK_skipA, ↓ldelK_skipL, qP2_X9_isIn, ↓bI_b, bI_0, nnot, lget_hit, lget_skip, ldel_nil, ldel_hit, ldel_skipI, ldel_skipA, ldel_skipL, ldel2_nil, ldel2_hit, ldel2_hit2, ldel2_skipI, ldel2_skipA, ldel2_skipL, vc_0, mCat_nil, mCat_I, mCat_L, mCat_A, mRcv_A, mArg_nil, mArg_I, mArg_L, mArg_A, tsg, swt_nil, swt_cons, lkw_nil, lkw_cons, ↓reduceIte, Nat.reduceAdd, Nat.reduceEqDiff, Nat.reduceLeDiff, Nat.reduceMul, true_and, and_true, and_self, List.mem_cons, List.not_mem_nil, or_false, or_self, false_or, true_implies, false_implies, not_true_eq_false, not_false_eq_true, nI00, nI10, nI01, nI11, forall_const, implies_true])
      (try simp (disch := omega) only [ixq, ixz, sb_in, sb_in0, upI_sb, upI_sb0, sb_out, nI_add, nI_mul, nI_subq, Nat.zero_add, forall_eq, u2_at, u2_row, upd_at, upd_ne, nI0b, nI1b, nI00, nI10, nI01, nI11, true_implies, false_implies, not_true_eq_false, not_false_eq_true, and_true, true_and, implies_true])
      exact i2
    (refine vc_met2 P2_ok ok_X8_image cm_X8_image [11] 8 t_X8_image_0 (Nat.le_of_ble_eq_true rfl) ?_; simp only [mArg_nil, mArg_I, mArg_L, mArg_A, Nat.reduceAdd])
    (try simp only [↓w_X8_image_0, ↓w_X8_image_9, ↓v_X8_image_9, ↓v_X8_image_11, ↓b_aaload, ↓b_aload_n, ↓n_astore_n, ↓b_callV2_0, ↓b_getA, ↓b_ic_lt, ↓b_iconst, ↓b_if_lt, ↓b_iload_n, ↓n_putZ, ↓b_zret, ↓ldI_hit, ↓ldI_skip, ↓ldL_hit, ↓ldL_skip, ↓ldA_hit, ↓ldA_skip, ↓ldelK_nil, ↓ldelK_hit, ↓ldelK_skipI, ↓ldelK_skipA, ↓ldelK_skipL, qP2_X0_copyFrom, qP2_X3_copyFrom, qP2_X4_copyFrom, qP2_X5_copyFrom, ↓bI_b, bI_0, nnot, lget_hit, lget_skip, ldel_nil, ldel_hit, ldel_skipI, ldel_skipA, ldel_skipL, ldel2_nil, ldel2_hit, ldel2_hit2, ldel2_skipI, ldel2_skipA, ldel2_skipL, vc_0, mCat_nil, mCat_I, mCat_L, mCat_A, mRcv_A, mArg_nil, mArg_I, mArg_L, mArg_A, tsg, swt_nil, swt_cons, lkw_nil, lkw_cons, ↓reduceIte, Nat.reduceAdd, Nat.reduceEqDiff, Nat.reduceLeDiff, Nat.reduceMul, true_and, and_true, and_self, List.mem_cons, List.not_mem_nil, or_false, or_self, false_or, true_implies, false_implies, not_true_eq_false, not_false_eq_true, nI00, nI10, nI01, nI11, forall_const, implies_true, y1, y2])
    (try simp (disch := omega) only [ixq, ixz, sb_in, sb_in0, upI_sb, upI_sb0, sb_out, nI_add, nI_mul, nI_subq, Nat.zero_add, forall_eq, u2_at, u2_row, upd_at, upd_ne, nI0b, nI1b, nI00, nI10, nI01, nI11, true_implies, false_implies, not_true_eq_false, not_false_eq_true, and_true, true_and, implies_true])
    (refine vc_from P2_ok ok_X8_image [11] 8 ?_; rw [t_X8_image_11])
    (try simp only [↓w_X8_image_0, ↓w_X8_image_9, ↓w_X8_image_11, ↓v_X8_image_9, ↓v_X8_image_11, ↓b_aaload, ↓b_aload_n, ↓n_astore_n, ↓b_callV2_0, ↓b_getA, ↓b_ic_lt, ↓b_iconst, ↓b_if_lt, ↓b_iload_n, ↓n_putZ, ↓b_zret, ↓ldI_hit, ↓ldI_skip, ↓ldL_hit, ↓ldL_skip, ↓ldA_hit, ↓ldA_skip, ↓ldelK_nil, ↓ldelK_hit, ↓ldelK_skipI, ↓ldelK_skipA, ↓ldelK_skipL, qP2_X0_copyFrom, qP2_X3_copyFrom, qP2_X4_copyFrom, qP2_X5_copyFrom, ↓bI_b, bI_0, nnot, lget_hit, lget_skip, ldel_nil, ldel_hit, ldel_skipI, ldel_skipA, ldel_skipL, ldel2_nil, ldel2_hit, ldel2_hit2, ldel2_skipI, ldel2_skipA, ldel2_skipL, vc_0, mCat_nil, mCat_I, mCat_L, mCat_A, mRcv_A, mArg_nil, mArg_I, mArg_L, mArg_A, tsg, swt_nil, swt_cons, lkw_nil, lkw_cons, ↓reduceIte, Nat.reduceAdd, Nat.reduceEqDiff, Nat.reduceLeDiff, Nat.reduceMul, true_and, and_true, and_self, List.mem_cons, List.not_mem_nil, or_false, or_self, false_or, true_implies, false_implies, not_true_eq_false, not_false_eq_true, nI00, nI10, nI01, nI11, forall_const, implies_true])
    (try simp (disch := omega) only [ixq, ixz, sb_in, sb_in0, upI_sb, upI_sb0, sb_out, nI_add, nI_mul, nI_subq, Nat.zero_add, forall_eq, u2_at, u2_row, upd_at, upd_ne, nI0b, nI1b, nI00, nI10, nI01, nI11, true_implies, false_implies, not_true_eq_false, not_false_eq_true, and_true, true_and, implies_true])
    refine d_cpB (by omega) rb.bj (fun μa a2 ao aB => ?_)
    (try simp only [↓w_X8_image_0, ↓w_X8_image_9, ↓w_X8_image_11, ↓v_X8_image_9, ↓v_X8_image_11, ↓b_aaload, ↓b_aload_n, ↓n_astore_n, ↓b_callV2_0, ↓b_getA, ↓b_ic_lt, ↓b_iconst, ↓b_if_lt, ↓b_iload_n, ↓n_putZ, ↓b_zret, ↓ldI_hit, ↓ldI_skip, ↓ldL_hit, ↓ldL_skip, ↓ldA_hit, ↓ldA_skip, ↓ldelK_nil, ↓ldelK_hit, ↓ldelK_skipI, ↓ldelK_skipA, ↓ldelK_skipL, qP2_X0_copyFrom, qP2_X3_copyFrom, qP2_X4_copyFrom, qP2_X5_copyFrom, ↓bI_b, bI_0, nnot, lget_hit, lget_skip, ldel_nil, ldel_hit, ldel_skipI, ldel_skipA, ldel_skipL, ldel2_nil, ldel2_hit, ldel2_hit2, ldel2_skipI, ldel2_skipA, ldel2_skipL, vc_0, mCat_nil, mCat_I, mCat_L, mCat_A, mRcv_A, mArg_nil, mArg_I, mArg_L, mArg_A, tsg, swt_nil, swt_cons, lkw_nil, lkw_cons, ↓reduceIte, Nat.reduceAdd, Nat.reduceEqDiff, Nat.reduceLeDiff, Nat.reduceMul, true_and, and_true, and_self, List.mem_cons, List.not_mem_nil, or_false, or_self, false_or, true_implies, false_implies, not_true_eq_false, not_false_eq_true, nI00, nI10, nI01, nI11, forall_const, implies_true])
    refine d_cpP (by omega) (fun μb b2 bo bP => ?_)
    (try simp only [↓w_X8_image_0, ↓w_X8_image_9, ↓w_X8_image_11, ↓v_X8_image_9, ↓v_X8_image_11, ↓b_aaload, ↓b_aload_n, ↓n_astore_n, ↓b_callV2_0, ↓b_getA, ↓b_ic_lt, ↓b_iconst, ↓b_if_lt, ↓b_iload_n, ↓n_putZ, ↓b_zret, ↓ldI_hit, ↓ldI_skip, ↓ldL_hit, ↓ldL_skip, ↓ldA_hit, ↓ldA_skip, ↓ldelK_nil, ↓ldelK_hit, ↓ldelK_skipI, ↓ldelK_skipA, ↓ldelK_skipL, qP2_X0_copyFrom, qP2_X3_copyFrom, qP2_X4_copyFrom, qP2_X5_copyFrom, ↓bI_b, bI_0, nnot, lget_hit, lget_skip, ldel_nil, ldel_hit, ldel_skipI, ldel_skipA, ldel_skipL, ldel2_nil, ldel2_hit, ldel2_hit2, ldel2_skipI, ldel2_skipA, ldel2_skipL, vc_0, mCat_nil, mCat_I, mCat_L, mCat_A, mRcv_A, mArg_nil, mArg_I, mArg_L, mArg_A, tsg, swt_nil, swt_cons, lkw_nil, lkw_cons, ↓reduceIte, Nat.reduceAdd, Nat.reduceEqDiff, Nat.reduceLeDiff, Nat.reduceMul, true_and, and_true, and_self, List.mem_cons, List.not_mem_nil, or_false, or_self, false_or, true_implies, false_implies, not_true_eq_false, not_false_eq_true, nI00, nI10, nI01, nI11, forall_const, implies_true])
    refine d_cpS (by omega) (fun μc c2 co cS => ?_)
    (try simp only [↓w_X8_image_0, ↓w_X8_image_9, ↓w_X8_image_11, ↓v_X8_image_9, ↓v_X8_image_11, ↓b_aaload, ↓b_aload_n, ↓n_astore_n, ↓b_callV2_0, ↓b_getA, ↓b_ic_lt, ↓b_iconst, ↓b_if_lt, ↓b_iload_n, ↓n_putZ, ↓b_zret, ↓ldI_hit, ↓ldI_skip, ↓ldL_hit, ↓ldL_skip, ↓ldA_hit, ↓ldA_skip, ↓ldelK_nil, ↓ldelK_hit, ↓ldelK_skipI, ↓ldelK_skipA, ↓ldelK_skipL, qP2_X0_copyFrom, qP2_X3_copyFrom, qP2_X4_copyFrom, qP2_X5_copyFrom, ↓bI_b, bI_0, nnot, lget_hit, lget_skip, ldel_nil, ldel_hit, ldel_skipI, ldel_skipA, ldel_skipL, ldel2_nil, ldel2_hit, ldel2_hit2, ldel2_skipI, ldel2_skipA, ldel2_skipL, vc_0, mCat_nil, mCat_I, mCat_L, mCat_A, mRcv_A, mArg_nil, mArg_I, mArg_L, mArg_A, tsg, swt_nil, swt_cons, lkw_nil, lkw_cons, ↓reduceIte, Nat.reduceAdd, Nat.reduceEqDiff, Nat.reduceLeDiff, Nat.reduceMul, true_and, and_true, and_self, List.mem_cons, List.not_mem_nil, or_false, or_self, false_or, true_implies, false_implies, not_true_eq_false, not_false_eq_true, nI00, nI10, nI01, nI11, forall_const, implies_true])
    refine d_cpR (by omega) (fun μd d2 d_o dR => ?_)
    (try simp only [↓w_X8_image_0, ↓w_X8_image_9, ↓w_X8_image_11, ↓v_X8_image_9, ↓v_X8_image_11, ↓b_aaload, ↓b_aload_n, ↓n_astore_n, ↓b_callV2_0, ↓b_getA, ↓b_ic_lt, ↓b_iconst, ↓b_if_lt, ↓b_iload_n, ↓n_putZ, ↓b_zret, ↓ldI_hit, ↓ldI_skip, ↓ldL_hit, ↓ldL_skip, ↓ldA_hit, ↓ldA_skip, ↓ldelK_nil, ↓ldelK_hit, ↓ldelK_skipI, ↓ldelK_skipA, ↓ldelK_skipL, qP2_X0_copyFrom, qP2_X3_copyFrom, qP2_X4_copyFrom, qP2_X5_copyFrom, ↓bI_b, bI_0, nnot, lget_hit, lget_skip, ldel_nil, ldel_hit, ldel_skipI, ldel_skipA, ldel_skipL, ldel2_nil, ldel2_hit, ldel2_hit2, ldel2_skipI, ldel2_skipA, ldel2_skipL, vc_0, mCat_nil, mCat_I, mCat_L, mCat_A, mRcv_A, mArg_nil, mArg_I, mArg_L, mArg_A, tsg, swt_nil, swt_cons, lkw_nil, lkw_cons, ↓reduceIte, Nat.reduceAdd, Nat.reduceEqDiff, Nat.reduceLeDiff, Nat.reduceMul, true_and, and_true, and_self, List.mem_cons, List.not_mem_nil, or_false, or_self, false_or, true_implies, false_implies, not_true_eq_false, not_false_eq_true, nI00, nI10, nI01, nI11, forall_const, implies_true])
    (try simp (disch := omega) only [ixq, ixz, sb_in, sb_in0, upI_sb, upI_sb0, sb_out, nI_add, nI_mul, nI_subq, Nat.zero_add, forall_eq, u2_at, u2_row, upd_at, upd_ne, nI0b, nI1b, nI00, nI10, nI01, nI11, true_implies, false_implies, not_true_eq_false, not_false_eq_true, and_true, true_and, implies_true])
    refine end9 _ (d2.trans (c2.trans (b2.trans a2))) (fun i hi => ?_) ?_ ?_ ?_ ?_ ?_
    · rw [upI_out (by omega), d_o i (by omega), co i (by omega), bo i (by omega), ao i (by omega)]
    · rw [show x + 87 + 36 * j = x + 86 + 1 + 36 * j by omega, upI_fld]
    · rw [show x + 88 + 36 * j = x + 86 + 1 + 36 * j + 1 by omega]
      refine eqB_t aB (eqB_k (fun k hk => ?_))
      show (upI μd _ 0 (nI 1)).1 (x + 86 + 1 + 36 * j + 1 + k) = μa.1 (x + 86 + 1 + 36 * j + 1 + k)
      rw [upI_out (by omega), d_o _ (by omega), co _ (by omega), bo _ (by omega)]
    · rw [show x + 100 + 36 * j = x + 86 + 1 + 36 * j + 13 by omega]
      refine eqP_t (eqP_t (eqP_k (fun k hk => ?_)) bP) (eqP_k (fun k hk => ?_))
      · exact ao _ (by omega)
      · show (upI μd _ 0 (nI 1)).1 (x + 86 + 1 + 36 * j + 13 + k) = μb.1 (x + 86 + 1 + 36 * j + 13 + k)
        rw [upI_out (by omega), d_o _ (by omega), co _ (by omega)]
    · rw [show x + 107 + 36 * j = x + 86 + 1 + 36 * j + 20 by omega]
      refine eqS_t (eqS_t (eqS_k (fun k hk => ?_)) cS) (eqS_k (fun k hk => ?_))
      · exact (bo _ (by omega)).trans (ao _ (by omega))
      · show (upI μd _ 0 (nI 1)).1 (x + 86 + 1 + 36 * j + 20 + k) = μc.1 (x + 86 + 1 + 36 * j + 20 + k)
        rw [upI_out (by omega), d_o _ (by omega)]
    · rw [show x + 111 + 36 * j = x + 86 + 1 + 36 * j + 24 by omega]
      refine eqR_t (eqR_t (eqR_k (fun k hk => ?_)) dR) (eqR_k (fun k hk => ?_))
      · exact (co _ (by omega)).trans ((bo _ (by omega)).trans (ao _ (by omega)))
      · show (upI μd _ 0 (nI 1)).1 (x + 86 + 1 + 36 * j + 24 + k) = μd.1 (x + 86 + 1 + 36 * j + 24 + k)
        rw [upI_out (by omega)]
  · have ht' : ¬ (nI 0 ≤ t ∧ t ≤ nI 1) := by
      rw [tin (by decide)]
      rintro ⟨a, a1, a2⟩
      exact ht ⟨a, by omega, a2⟩
    have ht2 := eq_false ht'
    refine get (.inl (nI 0)) hx hr (fun K hK => ?_) (fun K hK => ?_)
    · by_cases z1 : t < 0
      · have y1 := eq_true z1
        (refine vc_met2 P2_ok ok_X8_image cm_X8_image [11] 8 t_X8_image_0 (Nat.le_of_ble_eq_true rfl) ?_; simp only [mArg_nil, mArg_I, mArg_L, mArg_A, Nat.reduceAdd])
        (try simp only [↓w_X8_image_0, ↓w_X8_image_9, ↓v_X8_image_9, ↓v_X8_image_11, ↓b_aaload, ↓b_aload_n, ↓n_astore_n, ↓b_callV2_0, ↓b_getA, ↓b_ic_lt, ↓b_iconst, ↓b_if_lt, ↓b_iload_n, ↓n_putZ, ↓b_zret, ↓ldI_hit, ↓ldI_skip, ↓ldL_hit, ↓ldL_skip, ↓ldA_hit, ↓ldA_skip, ↓ldelK_nil, ↓ldelK_hit, ↓ldelK_skipI, ↓ldelK_skipA, ↓ldelK_skipL, qP2_X0_copyFrom, qP2_X3_copyFrom, qP2_X4_copyFrom, qP2_X5_copyFrom, ↓bI_b, bI_0, nnot, lget_hit, lget_skip, ldel_nil, ldel_hit, ldel_skipI, ldel_skipA, ldel_skipL, ldel2_nil, ldel2_hit, ldel2_hit2, ldel2_skipI, ldel2_skipA, ldel2_skipL, vc_0, mCat_nil, mCat_I, mCat_L, mCat_A, mRcv_A, mArg_nil, mArg_I, mArg_L, mArg_A, tsg, swt_nil, swt_cons, lkw_nil, lkw_cons, ↓reduceIte, Nat.reduceAdd, Nat.reduceEqDiff, Nat.reduceLeDiff, Nat.reduceMul, true_and, and_true, and_self, List.mem_cons, List.not_mem_nil, or_false, or_self, false_or, true_implies, false_implies, not_true_eq_false, not_false_eq_true, nI00, nI10, nI01, nI11, forall_const, implies_true, y1])
        (try simp (disch := omega) only [ixq, ixz, sb_in, sb_in0, upI_sb, upI_sb0, sb_out, nI_add, nI_mul, nI_subq, Nat.zero_add, forall_eq, u2_at, u2_row, upd_at, upd_ne, nI0b, nI1b, nI00, nI10, nI01, nI11, true_implies, false_implies, not_true_eq_false, not_false_eq_true, and_true, true_and, implies_true])
        exact hK
      · have y1 := eq_false z1
        have y2 : (t < nI 2) = False := eq_false (fun z => ht (by
          rw [← ixP (by omega)]
          exact ⟨Int32.not_lt.mp z1, z⟩))
        (refine vc_met2 P2_ok ok_X8_image cm_X8_image [11] 8 t_X8_image_0 (Nat.le_of_ble_eq_true rfl) ?_; simp only [mArg_nil, mArg_I, mArg_L, mArg_A, Nat.reduceAdd])
        (try simp only [↓w_X8_image_0, ↓w_X8_image_9, ↓v_X8_image_9, ↓v_X8_image_11, ↓b_aaload, ↓b_aload_n, ↓n_astore_n, ↓b_callV2_0, ↓b_getA, ↓b_ic_lt, ↓b_iconst, ↓b_if_lt, ↓b_iload_n, ↓n_putZ, ↓b_zret, ↓ldI_hit, ↓ldI_skip, ↓ldL_hit, ↓ldL_skip, ↓ldA_hit, ↓ldA_skip, ↓ldelK_nil, ↓ldelK_hit, ↓ldelK_skipI, ↓ldelK_skipA, ↓ldelK_skipL, qP2_X0_copyFrom, qP2_X3_copyFrom, qP2_X4_copyFrom, qP2_X5_copyFrom, ↓bI_b, bI_0, nnot, lget_hit, lget_skip, ldel_nil, ldel_hit, ldel_skipI, ldel_skipA, ldel_skipL, ldel2_nil, ldel2_hit, ldel2_hit2, ldel2_skipI, ldel2_skipA, ldel2_skipL, vc_0, mCat_nil, mCat_I, mCat_L, mCat_A, mRcv_A, mArg_nil, mArg_I, mArg_L, mArg_A, tsg, swt_nil, swt_cons, lkw_nil, lkw_cons, ↓reduceIte, Nat.reduceAdd, Nat.reduceEqDiff, Nat.reduceLeDiff, Nat.reduceMul, true_and, and_true, and_self, List.mem_cons, List.not_mem_nil, or_false, or_self, false_or, true_implies, false_implies, not_true_eq_false, not_false_eq_true, nI00, nI10, nI01, nI11, forall_const, implies_true, y1, y2])
        (try simp (disch := omega) only [ixq, ixz, sb_in, sb_in0, upI_sb, upI_sb0, sb_out, nI_add, nI_mul, nI_subq, Nat.zero_add, forall_eq, u2_at, u2_row, upd_at, upd_ne, nI0b, nI1b, nI00, nI10, nI01, nI11, true_implies, false_implies, not_true_eq_false, not_false_eq_true, and_true, true_and, implies_true])
        exact hK
    · (refine vc_met2 P2_ok ok_X9_image cm_X9_image [16,18,49,51] 8 t_X9_image_0 (Nat.le_of_ble_eq_true rfl) ?_; simp only [mArg_nil, mArg_I, mArg_L, mArg_A, Nat.reduceAdd])
      (try simp only [↓w_X9_image_0, ↓w_X9_image_49, ↓w_X9_image_51, ↓w_X9_image_80, ↓v_X9_image_16, ↓v_X9_image_18, ↓v_X9_image_49, ↓v_X9_image_51, ↓v_X9_image_80, ↓b_aload_n, ↓n_bastore, ↓b_bipush, ↓b_callS3_1, ↓b_getA, ↓b_goto, ↓b_iadd, ↓b_iaload, ↓n_iastore, ↓b_ic_ge, ↓b_iconst, ↓b_if_ne, ↓n_iinc, ↓b_iload_n, ↓b_imul, ↓n_istore_n, ↓b_laload, ↓n_lastore, ↓n_putI, ↓b_sipush, ↓b_zret, ↓ldI_hit, ↓ldI_skip, ↓ldL_hit, ↓ldL_skip, ↓ldA_hit, ↓ldA_skip, ↓ldelK_nil, ↓ldelK_hit, ↓ldelK_skipI, ↓ldelK_skipA, ↓ldelK_skipL, qP2_X9_isIn, ↓bI_b, bI_0, nnot, lget_hit, lget_skip, ldel_nil, ldel_hit, ldel_skipI, ldel_skipA, ldel_skipL, ldel2_nil, ldel2_hit, ldel2_hit2, ldel2_skipI, ldel2_skipA, ldel2_skipL, vc_0, mCat_nil, mCat_I, mCat_L, mCat_A, mRcv_A, mArg_nil, mArg_I, mArg_L, mArg_A, tsg, swt_nil, swt_cons, lkw_nil, lkw_cons, ↓reduceIte, Nat.reduceAdd, Nat.reduceEqDiff, Nat.reduceLeDiff, Nat.reduceMul, true_and, and_true, and_self, List.mem_cons, List.not_mem_nil, or_false, or_self, false_or, true_implies, false_implies, not_true_eq_false, not_false_eq_true, nI00, nI10, nI01, nI11, forall_const, implies_true, ht2])
      (try simp (disch := omega) only [ixq, ixz, sb_in, sb_in0, upI_sb, upI_sb0, sb_out, nI_add, nI_mul, nI_subq, Nat.zero_add, forall_eq, u2_at, u2_row, upd_at, upd_ne, nI0b, nI1b, nI00, nI10, nI01, nI11, true_implies, false_implies, not_true_eq_false, not_false_eq_true, and_true, true_and, implies_true])
      exact hK
end MIm
