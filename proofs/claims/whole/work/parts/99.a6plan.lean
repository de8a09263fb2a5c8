section MPn
variable {X : mC} {h x m : Nat} {μ : Mem} {K : MV → Mem → Prop}
theorem f_plan (hx : x + 164 = m) (hr : Rel x m μ) : PAIR X (h + 8) m_X8_plan m_X9_plan x m [] μ := by
  obtain ⟨G, W, rb, pl, sn, rn⟩ := id hr.2.2.1
  have b0 : μ.1 (x + 4) 0 = nI G := rb.b0
  have b1 : μ.1 (x + 4) 1 = nI W := rb.b1
  have q0 : bk μ m 2 0 = nI G := rb.q0
  have q1 : bk μ m 2 1 = nI W := rb.q1
  have g6 := rb.g6
  have w8 := rb.w8
  obtain ⟨L, l1, l2, l3, l4⟩ := id hr.1
  have p10 := pFrom_10 (T := bk μ (x + 1)) (B := bk μ (x + 4)) (P := bk μ (x + 35)) g6 w8
  have pr := pFrom_r (G := G) (W := W) (T := bk μ (x + 1)) (B := bk μ (x + 4)) (P := bk μ (x + 35))
  have e : sb (sb μ (x + 35) 7 (bk μ (x + 35))) (x + 1) 3 (bk μ (x + 1)) = μ := by rw [sb_self, sb_self]
  have key : mMet X (h + 8) m_X8_plan [.inr (.inr (7, 0, x))] (sb (sb μ (x + 35) 7 (bk μ (x + 35))) (x + 1) 3 (bk μ (x + 1))) (fun a μ1 => mMet X (h + 8) m_X9_plan [.inr (.inr (8, 0, m))] μ1 (fun b μ2 => a = b ∧ Rel x m μ2)) := by
    refine c8_plan (B := bk μ (x + 4)) (G := G) (W := W) (L := L) l1 l2 (fun k hk => rfl) rb.b0 g6 rb.b1 w8 (fun z A => ?_) (fun z => ?_) p10.1
    · have om : ∀ j, (sb (sb (upI (sb μ (x + 35) 7 (pFromF G W (bk μ (x + 4)) (bk μ (x + 1)) (bk μ (x + 35))).2.2) x 17 ((pFromF G W (bk μ (x + 4)) (bk μ (x + 1)) (bk μ (x + 35))).2.1 0 10)) (x + 1) 3 (u2 (pFromF G W (bk μ (x + 4)) (bk μ (x + 1)) (bk μ (x + 35))).2.1 0 2 (nI 0))) (x + 28) 7 (copyPF A (pFromF G W (bk μ (x + 4)) (bk μ (x + 1)) (bk μ (x + 35))).2.2)).1 (m + j) = μ.1 (m + j) := fun j => by rw [sb_out (by omega), sb_out (by omega), upI_out (by omega), sb_out (by omega)]
      have ox : ∀ i, (4 ≤ i ∧ i < 28) ∨ (42 ≤ i ∧ i < 164) → (sb (sb (upI (sb μ (x + 35) 7 (pFromF G W (bk μ (x + 4)) (bk μ (x + 1)) (bk μ (x + 35))).2.2) x 17 ((pFromF G W (bk μ (x + 4)) (bk μ (x + 1)) (bk μ (x + 35))).2.1 0 10)) (x + 1) 3 (u2 (pFromF G W (bk μ (x + 4)) (bk μ (x + 1)) (bk μ (x + 35))).2.1 0 2 (nI 0))) (x + 28) 7 (copyPF A (pFromF G W (bk μ (x + 4)) (bk μ (x + 1)) (bk μ (x + 35))).2.2)).1 (x + i) = μ.1 (x + i) := fun i hi => by rw [sb_out (by omega), sb_out (by omega), upI_out (by omega), sb_out (by omega)]
      have ot : ∀ k, k < 3 → (sb (sb (upI (sb μ (x + 35) 7 (pFromF G W (bk μ (x + 4)) (bk μ (x + 1)) (bk μ (x + 35))).2.2) x 17 ((pFromF G W (bk μ (x + 4)) (bk μ (x + 1)) (bk μ (x + 35))).2.1 0 10)) (x + 1) 3 (u2 (pFromF G W (bk μ (x + 4)) (bk μ (x + 1)) (bk μ (x + 35))).2.1 0 2 (nI 0))) (x + 28) 7 (copyPF A (pFromF G W (bk μ (x + 4)) (bk μ (x + 1)) (bk μ (x + 35))).2.2)).1 (x + 1 + k) = (u2 (pFromF G W (bk μ (x + 4)) (bk μ (x + 1)) (bk μ (x + 35))).2.1 0 2 (nI 0)) k := fun k hk => by rw [sb_out (by omega), sb_in hk]
      have op : ∀ k, k < 7 → (sb (sb (upI (sb μ (x + 35) 7 (pFromF G W (bk μ (x + 4)) (bk μ (x + 1)) (bk μ (x + 35))).2.2) x 17 ((pFromF G W (bk μ (x + 4)) (bk μ (x + 1)) (bk μ (x + 35))).2.1 0 10)) (x + 1) 3 (u2 (pFromF G W (bk μ (x + 4)) (bk μ (x + 1)) (bk μ (x + 35))).2.1 0 2 (nI 0))) (x + 28) 7 (copyPF A (pFromF G W (bk μ (x + 4)) (bk μ (x + 1)) (bk μ (x + 35))).2.2)).1 (x + 28 + k) = (copyPF A (pFromF G W (bk μ (x + 4)) (bk μ (x + 1)) (bk μ (x + 35))).2.2) k := fun k hk => sb_in hk
      have o17 : (sb (sb (upI (sb μ (x + 35) 7 (pFromF G W (bk μ (x + 4)) (bk μ (x + 1)) (bk μ (x + 35))).2.2) x 17 ((pFromF G W (bk μ (x + 4)) (bk μ (x + 1)) (bk μ (x + 35))).2.1 0 10)) (x + 1) 3 (u2 (pFromF G W (bk μ (x + 4)) (bk μ (x + 1)) (bk μ (x + 35))).2.1 0 2 (nI 0))) (x + 28) 7 (copyPF A (pFromF G W (bk μ (x + 4)) (bk μ (x + 1)) (bk μ (x + 35))).2.2)).1 x 17 = nI 0 := by
        rw [sb_out (by omega), sb_out (by omega), upI_fld]
        exact p10.2 z
      have o15 : ∀ j, j ≠ 17 → (sb (sb (upI (sb μ (x + 35) 7 (pFromF G W (bk μ (x + 4)) (bk μ (x + 1)) (bk μ (x + 35))).2.2) x 17 ((pFromF G W (bk μ (x + 4)) (bk μ (x + 1)) (bk μ (x + 35))).2.1 0 10)) (x + 1) 3 (u2 (pFromF G W (bk μ (x + 4)) (bk μ (x + 1)) (bk μ (x + 35))).2.1 0 2 (nI 0))) (x + 28) 7 (copyPF A (pFromF G W (bk μ (x + 4)) (bk μ (x + 1)) (bk μ (x + 35))).2.2)).1 x j = μ.1 x j := fun j hj => by rw [sb_out (by omega), sb_out (by omega), upI_oth hj, sb_out (by omega)]
      have o2 : (sb (sb (upI (sb μ (x + 35) 7 (pFromF G W (bk μ (x + 4)) (bk μ (x + 1)) (bk μ (x + 35))).2.2) x 17 ((pFromF G W (bk μ (x + 4)) (bk μ (x + 1)) (bk μ (x + 35))).2.1 0 10)) (x + 1) 3 (u2 (pFromF G W (bk μ (x + 4)) (bk μ (x + 1)) (bk μ (x + 35))).2.1 0 2 (nI 0))) (x + 28) 7 (copyPF A (pFromF G W (bk μ (x + 4)) (bk μ (x + 1)) (bk μ (x + 35))).2.2)).2 = μ.2 := rfl
      generalize (sb (sb (upI (sb μ (x + 35) 7 (pFromF G W (bk μ (x + 4)) (bk μ (x + 1)) (bk μ (x + 35))).2.2) x 17 ((pFromF G W (bk μ (x + 4)) (bk μ (x + 1)) (bk μ (x + 35))).2.1 0 10)) (x + 1) 3 (u2 (pFromF G W (bk μ (x + 4)) (bk μ (x + 1)) (bk μ (x + 35))).2.1 0 2 (nI 0))) (x + 28) 7 (copyPF A (pFromF G W (bk μ (x + 4)) (bk μ (x + 1)) (bk μ (x + 35))).2.2)) = μ1 at om ox ot op o17 o15 o2 ⊢
      have om0 : μ1.1 m = μ.1 m := om 0
      refine ref_in2 (m := m) ?_
      refine c_planR (h := h + 2) (G := G) (W := W) (L := L) (T := bk μ (x + 1)) (B := bk μ (x + 4)) (P := bk μ (x + 35)) l1 l2 (by show μ1.1 m 2 = _; rw [om0]; exact l3) (fun j hj => by show μ1.1 (m + 1) j = _; rw [om 1]; exact l4 j hj) hr.2.1 (by show RBB G W (μ1.1 (m + 2)) (μ1.2 (m + 6)) _; rw [om 2, o2]; exact rb) (fun z1 l Q' w' hl f1 h10 pl0 pn => ⟨by rw [pl0], ?_⟩) (fun z1 => absurd (z.symm.trans z1) (by decide))
      have e' : ∀ k, k < 21 → (sb (upL μ1 m 12 w') m 21 (nowP l Q')).1 (m + k) = nowP l Q' k := fun k hk => sb_in hk
      have e0 : (sb (upL μ1 m 12 w') m 21 (nowP l Q')).1 m = nowP l Q' 0 := e' 0 (by omega)
      have nk : ∀ k, k ≠ 2 → nowP l Q' k = Q' k := fun k hk => by
        unfold nowP
        rw [u2_row hk, up_row hk]
      have xx : ∀ i, i < 164 → (sb (upL μ1 m 12 w') m 21 (nowP l Q')).1 (x + i) = μ1.1 (x + i) := fun i hi => sb_out (by omega)
      have x0 : (sb (upL μ1 m 12 w') m 21 (nowP l Q')).1 x = μ1.1 x := sb_out (by omega)
      have q2 : Q' 2 = μ.1 (m + 2) := (f1.1 2 (by decide) (by decide)).trans (om 2)
      have n2 : ∀ j, j < 278 ∨ 379 ≤ j → nowP l Q' 2 j = μ.1 (m + 2) j := fun j hj => by
        unfold nowP
        rw [u2_at, upd_ne (by omega), up_at, cpS_out (by omega), q2]
      have bb : ∀ a n, ((4 ≤ a ∧ a + n ≤ 28) ∨ (42 ≤ a ∧ a + n ≤ 164)) → ∀ k, k < n → bk (sb (upL μ1 m 12 w') m 21 (nowP l Q')) (x + a) k = bk μ (x + a) k := fun a n ha k hk => by
        show (sb (upL μ1 m 12 w') m 21 (nowP l Q')).1 (x + a + k) = μ.1 (x + a + k)
        rw [Nat.add_assoc, xx _ (by omega), ox _ (by omega)]
      have bp : ∀ k, k < 7 → bk (sb (upL μ1 m 12 w') m 21 (nowP l Q')) (x + 28) k = copyPF A (pFromF G W (bk μ (x + 4)) (bk μ (x + 1)) (bk μ (x + 35))).2.2 k := fun k hk => by
        show (sb (upL μ1 m 12 w') m 21 (nowP l Q')).1 (x + 28 + k) = _
        rw [Nat.add_assoc, xx _ (by omega), ← Nat.add_assoc]
        exact op k hk
      have l2' : ∀ i, i ≠ m → (sb (upL μ1 m 12 w') m 21 (nowP l Q')).2 i = μ.2 i := fun i hi => by
        show (upL μ1 m 12 w').2 i = _
        rw [upL_o hi, o2]
      have tk0 : μ1.1 (x + 1) = (u2 (pFromF G W (bk μ (x + 4)) (bk μ (x + 1)) (bk μ (x + 35))).2.1 0 2 (nI 0)) 0 := ot 0 (by omega)
      have tk2 : μ1.1 (x + 3) = (u2 (pFromF G W (bk μ (x + 4)) (bk μ (x + 1)) (bk μ (x + 35))).2.1 0 2 (nI 0)) 2 := ot 2 (by omega)
      have eB := eqB_k (bb 4 12 (by omega))
      refine Rel_mk hr ⟨0, by omega, ?_, ?_, fun j hj => absurd hj (Nat.not_lt_zero j)⟩ ?_ ⟨G, W, RBB_eq rb eB (fun j hj => ?_) (fun j _ => ?_), ⟨l, hl, ?_, ?_, fun i hi => ?_⟩, SN_eq sn (eqS_k (bb 42 4 (by omega))) (fun j h3 _ => ?_), RN_eq rn g6 w8 eB (eqR_k (bb 50 12 (by omega))) (fun j h3 _ => ?_)⟩ (fun i a b => (xx i (by omega)).trans (ox i (by omega))) ?_ ?_ ?_ (l2' _ (by omega)) (l2' _ (by omega)) (l2' _ (by omega)) (l2' _ (by omega)) ?_ ?_ ?_ ?_ ?_ ?_ ?_
      · rw [xx 1 (by omega), tk0, u2_at, upd_at]
      · rw [e0, nk 0 (by decide)]; exact f1.2.2
      · rw [xx 3 (by omega), tk2, u2_row (by decide), pr]; rfl
      · rw [e' 2 (by omega)]; exact n2 j (by omega)
      · rw [l2' _ (by omega)]
      · rw [bp 0 (by omega), cpP_eq.1]; exact pl0
      · rw [e' 2 (by omega)]
        unfold nowP
        rw [u2_at, upd_at]
      · refine ACT_ext (pn i hi) (fun r r1 r2 => ?_) (fun j hj => ?_)
        · rw [bp r (by omega)]
          exact cpP_eq.2 r i r1 r2 (by omega)
        · rw [e' 2 (by omega)]
          unfold nowP
          rw [u2_at, upd_ne (by omega), up_at, show 279 + 5 * i + j = 279 + (5 * i + j) by omega, cpS_in (by omega)]
          rw [show 0 + 5 * i + j = 5 * i + j by omega]
      · rw [e' 2 (by omega)]; exact n2 j (by omega)
      · rw [e' 2 (by omega)]; exact n2 j (by omega)
      · rw [e' 5 (by omega), nk 5 (by decide), f1.1 5 (by decide) (by decide)]; exact om 5
      · rw [e' 9 (by omega), nk 9 (by decide), f1.1 9 (by decide) (by decide)]; exact om 9
      · rw [e' 18 (by omega), nk 18 (by decide), f1.1 18 (by decide) (by decide)]; exact om 18
      · show (upL μ1 m 12 w').2 m 34 = _
        rw [← o2]
        show va_up μ1.2 m (vp_updL (μ1.2 m) 12 w') m 34 = _
        rw [up_at, vpL_ne (by decide)]
      · rw [x0]; exact o15 15 (by decide)
      · rw [x0]; exact o15 16 (by decide)
      · rw [e0, nk 0 (by decide), f1.2.1 33 (by omega)]; exact congrFun om0 33
      · rw [e0, nk 0 (by decide), f1.2.1 35 (by omega)]; exact congrFun om0 35
      · rw [e0, nk 0 (by decide), f1.2.1 38 (by omega)]; exact congrFun om0 38
      · rw [x0, e0, nk 0 (by decide), o17, h10]
    · have om : ∀ j, (sb (upI (sb μ (x + 35) 7 (pFromF G W (bk μ (x + 4)) (bk μ (x + 1)) (bk μ (x + 35))).2.2) x 17 ((pFromF G W (bk μ (x + 4)) (bk μ (x + 1)) (bk μ (x + 35))).2.1 0 10)) (x + 1) 3 (u2 (pFromF G W (bk μ (x + 4)) (bk μ (x + 1)) (bk μ (x + 35))).2.1 0 2 (nI 0))).1 (m + j) = μ.1 (m + j) := fun j => by rw [sb_out (by omega), upI_out (by omega), sb_out (by omega)]
      have ox : ∀ i, (4 ≤ i ∧ i < 35) ∨ (42 ≤ i ∧ i < 164) → (sb (upI (sb μ (x + 35) 7 (pFromF G W (bk μ (x + 4)) (bk μ (x + 1)) (bk μ (x + 35))).2.2) x 17 ((pFromF G W (bk μ (x + 4)) (bk μ (x + 1)) (bk μ (x + 35))).2.1 0 10)) (x + 1) 3 (u2 (pFromF G W (bk μ (x + 4)) (bk μ (x + 1)) (bk μ (x + 35))).2.1 0 2 (nI 0))).1 (x + i) = μ.1 (x + i) := fun i hi => by rw [sb_out (by omega), upI_out (by omega), sb_out (by omega)]
      have ot : ∀ k, k < 3 → (sb (upI (sb μ (x + 35) 7 (pFromF G W (bk μ (x + 4)) (bk μ (x + 1)) (bk μ (x + 35))).2.2) x 17 ((pFromF G W (bk μ (x + 4)) (bk μ (x + 1)) (bk μ (x + 35))).2.1 0 10)) (x + 1) 3 (u2 (pFromF G W (bk μ (x + 4)) (bk μ (x + 1)) (bk μ (x + 35))).2.1 0 2 (nI 0))).1 (x + 1 + k) = (u2 (pFromF G W (bk μ (x + 4)) (bk μ (x + 1)) (bk μ (x + 35))).2.1 0 2 (nI 0)) k := fun k hk => sb_in hk
      have o17 : (sb (upI (sb μ (x + 35) 7 (pFromF G W (bk μ (x + 4)) (bk μ (x + 1)) (bk μ (x + 35))).2.2) x 17 ((pFromF G W (bk μ (x + 4)) (bk μ (x + 1)) (bk μ (x + 35))).2.1 0 10)) (x + 1) 3 (u2 (pFromF G W (bk μ (x + 4)) (bk μ (x + 1)) (bk μ (x + 35))).2.1 0 2 (nI 0))).1 x 17 = (pFromF G W (bk μ (x + 4)) (bk μ (x + 1)) (bk μ (x + 35))).2.1 0 10 := by
        rw [sb_out (by omega), upI_fld]
      have o15 : ∀ j, j ≠ 17 → (sb (upI (sb μ (x + 35) 7 (pFromF G W (bk μ (x + 4)) (bk μ (x + 1)) (bk μ (x + 35))).2.2) x 17 ((pFromF G W (bk μ (x + 4)) (bk μ (x + 1)) (bk μ (x + 35))).2.1 0 10)) (x + 1) 3 (u2 (pFromF G W (bk μ (x + 4)) (bk μ (x + 1)) (bk μ (x + 35))).2.1 0 2 (nI 0))).1 x j = μ.1 x j := fun j hj => by rw [sb_out (by omega), upI_oth hj, sb_out (by omega)]
      have o2 : (sb (upI (sb μ (x + 35) 7 (pFromF G W (bk μ (x + 4)) (bk μ (x + 1)) (bk μ (x + 35))).2.2) x 17 ((pFromF G W (bk μ (x + 4)) (bk μ (x + 1)) (bk μ (x + 35))).2.1 0 10)) (x + 1) 3 (u2 (pFromF G W (bk μ (x + 4)) (bk μ (x + 1)) (bk μ (x + 35))).2.1 0 2 (nI 0))).2 = μ.2 := rfl
      generalize (sb (upI (sb μ (x + 35) 7 (pFromF G W (bk μ (x + 4)) (bk μ (x + 1)) (bk μ (x + 35))).2.2) x 17 ((pFromF G W (bk μ (x + 4)) (bk μ (x + 1)) (bk μ (x + 35))).2.1 0 10)) (x + 1) 3 (u2 (pFromF G W (bk μ (x + 4)) (bk μ (x + 1)) (bk μ (x + 35))).2.1 0 2 (nI 0))) = μ1 at om ox ot o17 o15 o2 ⊢
      have om0 : μ1.1 m = μ.1 m := om 0
      refine ref_in2 (m := m) ?_
      refine c_planR (h := h + 2) (G := G) (W := W) (L := L) (T := bk μ (x + 1)) (B := bk μ (x + 4)) (P := bk μ (x + 35)) l1 l2 (by show μ1.1 m 2 = _; rw [om0]; exact l3) (fun j hj => by show μ1.1 (m + 1) j = _; rw [om 1]; exact l4 j hj) hr.2.1 (by show RBB G W (μ1.1 (m + 2)) (μ1.2 (m + 6)) _; rw [om 2, o2]; exact rb) (fun z1 => absurd (z.symm.trans z1) (by decide)) (fun z1 Q' w' f1 h10 => ⟨rfl, ?_⟩)
      have e' : ∀ k, k < 21 → (sb (upL μ1 m 12 w') m 21 Q').1 (m + k) = Q' k := fun k hk => sb_in hk
      have e0 : (sb (upL μ1 m 12 w') m 21 Q').1 m = Q' 0 := e' 0 (by omega)
      have xx : ∀ i, i < 164 → (sb (upL μ1 m 12 w') m 21 Q').1 (x + i) = μ1.1 (x + i) := fun i hi => sb_out (by omega)
      have x0 : (sb (upL μ1 m 12 w') m 21 Q').1 x = μ1.1 x := sb_out (by omega)
      have q2 : Q' 2 = μ.1 (m + 2) := (f1.1 2 (by decide) (by decide)).trans (om 2)
      have l2' : ∀ i, i ≠ m → (sb (upL μ1 m 12 w') m 21 Q').2 i = μ.2 i := fun i hi => by
        show (upL μ1 m 12 w').2 i = _
        rw [upL_o hi, o2]
      have tk0 : μ1.1 (x + 1) = (u2 (pFromF G W (bk μ (x + 4)) (bk μ (x + 1)) (bk μ (x + 35))).2.1 0 2 (nI 0)) 0 := ot 0 (by omega)
      have tk2 : μ1.1 (x + 3) = (u2 (pFromF G W (bk μ (x + 4)) (bk μ (x + 1)) (bk μ (x + 35))).2.1 0 2 (nI 0)) 2 := ot 2 (by omega)
      refine Rel_mk hr ⟨0, by omega, ?_, ?_, fun j hj => absurd hj (Nat.not_lt_zero j)⟩ ?_ (RSt_k hr.2.2.1 (fun i hi => (xx i (by omega)).trans (ox i (by omega))) (by rw [e' 2 (by omega)]; exact q2) (l2' _ (by omega))) (fun i a b => (xx i (by omega)).trans (ox i (by omega))) ?_ ?_ ?_ (l2' _ (by omega)) (l2' _ (by omega)) (l2' _ (by omega)) (l2' _ (by omega)) ?_ ?_ ?_ ?_ ?_ ?_ ?_
      · rw [xx 1 (by omega), tk0, u2_at, upd_at]
      · rw [e0]; exact f1.2.2
      · rw [xx 3 (by omega), tk2, u2_row (by decide), pr]; rfl
      · rw [e' 5 (by omega), f1.1 5 (by decide) (by decide)]; exact om 5
      · rw [e' 9 (by omega), f1.1 9 (by decide) (by decide)]; exact om 9
      · rw [e' 18 (by omega), f1.1 18 (by decide) (by decide)]; exact om 18
      · show (upL μ1 m 12 w').2 m 34 = _
        rw [← o2]
        show va_up μ1.2 m (vp_updL (μ1.2 m) 12 w') m 34 = _
        rw [up_at, vpL_ne (by decide)]
      · rw [x0]; exact o15 15 (by decide)
      · rw [x0]; exact o15 16 (by decide)
      · rw [e0, f1.2.1 33 (by omega)]; exact congrFun om0 33
      · rw [e0, f1.2.1 35 (by omega)]; exact congrFun om0 35
      · rw [e0, f1.2.1 38 (by omega)]; exact congrFun om0 38
      · rw [x0, e0, o17, h10]
  rw [e] at key
  exact key
end MPn
