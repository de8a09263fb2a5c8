section MBo
variable {X : mC} {h x m : Nat} {μ : Mem} {K : MV → Mem → Prop}
theorem ref_in3 {M H : Nat} {as : List MV} {K : MV → Mem → Prop} (h : mMet X H M as (sb (upL (rL μ (m + 7) (μ.2 (m + 7))) m 12 (μ.2 m 12)) m 21 (bk μ m)) K) : mMet X H M as μ K := by
  rw [rL_self, upL_self, sb_self] at h
  exact h
theorem f_brook (hx : x + 164 = m) (hr : Rel x m μ) : PAIR X (h + 8) m_X8_brook m_X9_brook x m [] μ := by
  obtain ⟨L, l1, l2, l3, l4⟩ := id hr.1
  have p10 := rFrom_b (T := bk μ (x + 1)) (B := bk μ (x + 16)) ⟨L, l1, l2⟩
  have pr := p10.2.2
  have e : sb (sb μ (x + 16) 12 (bk μ (x + 16))) (x + 1) 3 (bk μ (x + 1)) = μ := by rw [sb_self, sb_self]
  have key : mMet X (h + 8) m_X8_brook [.inr (.inr (7, 0, x))] (sb (sb μ (x + 16) 12 (bk μ (x + 16))) (x + 1) 3 (bk μ (x + 1))) (fun a μ1 => mMet X (h + 8) m_X9_brook [.inr (.inr (8, 0, m))] μ1 (fun b μ2 => a = b ∧ Rel x m μ2)) := by
    refine c8_brook (L := L) l1 l2 (fun z => rFrom_k ⟨L, l1, l2⟩ z) (fun z A P S => ?_) (fun z => ?_) p10.1
    · have om : ∀ j, (upI (sb (sb (sb (sb (upI (sb μ (x + 16) 12 (rFromF (bk μ (x + 1)) (bk μ (x + 16))).2.2) x 17 ((rFromF (bk μ (x + 1)) (bk μ (x + 16))).2.1 0 10)) (x + 1) 3 (u2 (rFromF (bk μ (x + 1)) (bk μ (x + 16))).2.1 0 2 (nI 0))) (x + 4) 12 (copyBF A (rFromF (bk μ (x + 1)) (bk μ (x + 16))).2.2)) (x + 28) 7 (u2 P 0 0 (nI 0))) (x + 42) 4 (u2 (u2 S 0 0 (nI 0)) 0 1 (nI 0))) (x + 50) 0 (-1)).1 (m + j) = μ.1 (m + j) := fun j => by rw [upI_out (by omega), sb_out (by omega), sb_out (by omega), sb_out (by omega), sb_out (by omega), upI_out (by omega), sb_out (by omega)]
      have ox : ∀ i, 62 ≤ i → i < 164 → (upI (sb (sb (sb (sb (upI (sb μ (x + 16) 12 (rFromF (bk μ (x + 1)) (bk μ (x + 16))).2.2) x 17 ((rFromF (bk μ (x + 1)) (bk μ (x + 16))).2.1 0 10)) (x + 1) 3 (u2 (rFromF (bk μ (x + 1)) (bk μ (x + 16))).2.1 0 2 (nI 0))) (x + 4) 12 (copyBF A (rFromF (bk μ (x + 1)) (bk μ (x + 16))).2.2)) (x + 28) 7 (u2 P 0 0 (nI 0))) (x + 42) 4 (u2 (u2 S 0 0 (nI 0)) 0 1 (nI 0))) (x + 50) 0 (-1)).1 (x + i) = μ.1 (x + i) := fun i hi hi2 => by rw [upI_out (by omega), sb_out (by omega), sb_out (by omega), sb_out (by omega), sb_out (by omega), upI_out (by omega), sb_out (by omega)]
      have ot : ∀ k, k < 3 → (upI (sb (sb (sb (sb (upI (sb μ (x + 16) 12 (rFromF (bk μ (x + 1)) (bk μ (x + 16))).2.2) x 17 ((rFromF (bk μ (x + 1)) (bk μ (x + 16))).2.1 0 10)) (x + 1) 3 (u2 (rFromF (bk μ (x + 1)) (bk μ (x + 16))).2.1 0 2 (nI 0))) (x + 4) 12 (copyBF A (rFromF (bk μ (x + 1)) (bk μ (x + 16))).2.2)) (x + 28) 7 (u2 P 0 0 (nI 0))) (x + 42) 4 (u2 (u2 S 0 0 (nI 0)) 0 1 (nI 0))) (x + 50) 0 (-1)).1 (x + 1 + k) = (u2 (rFromF (bk μ (x + 1)) (bk μ (x + 16))).2.1 0 2 (nI 0)) k := fun k hk => by rw [upI_out (by omega), sb_out (by omega), sb_out (by omega), sb_out (by omega), sb_in hk]
      have ob : ∀ k, k < 12 → (upI (sb (sb (sb (sb (upI (sb μ (x + 16) 12 (rFromF (bk μ (x + 1)) (bk μ (x + 16))).2.2) x 17 ((rFromF (bk μ (x + 1)) (bk μ (x + 16))).2.1 0 10)) (x + 1) 3 (u2 (rFromF (bk μ (x + 1)) (bk μ (x + 16))).2.1 0 2 (nI 0))) (x + 4) 12 (copyBF A (rFromF (bk μ (x + 1)) (bk μ (x + 16))).2.2)) (x + 28) 7 (u2 P 0 0 (nI 0))) (x + 42) 4 (u2 (u2 S 0 0 (nI 0)) 0 1 (nI 0))) (x + 50) 0 (-1)).1 (x + 4 + k) = copyBF A (rFromF (bk μ (x + 1)) (bk μ (x + 16))).2.2 k := fun k hk => by rw [upI_out (by omega), sb_out (by omega), sb_out (by omega), sb_in hk]
      have op : (upI (sb (sb (sb (sb (upI (sb μ (x + 16) 12 (rFromF (bk μ (x + 1)) (bk μ (x + 16))).2.2) x 17 ((rFromF (bk μ (x + 1)) (bk μ (x + 16))).2.1 0 10)) (x + 1) 3 (u2 (rFromF (bk μ (x + 1)) (bk μ (x + 16))).2.1 0 2 (nI 0))) (x + 4) 12 (copyBF A (rFromF (bk μ (x + 1)) (bk μ (x + 16))).2.2)) (x + 28) 7 (u2 P 0 0 (nI 0))) (x + 42) 4 (u2 (u2 S 0 0 (nI 0)) 0 1 (nI 0))) (x + 50) 0 (-1)).1 (x + 28) = (u2 P 0 0 (nI 0)) 0 := by rw [upI_out (by omega), sb_out (by omega), sb_in0 (by omega)]
      have os : (upI (sb (sb (sb (sb (upI (sb μ (x + 16) 12 (rFromF (bk μ (x + 1)) (bk μ (x + 16))).2.2) x 17 ((rFromF (bk μ (x + 1)) (bk μ (x + 16))).2.1 0 10)) (x + 1) 3 (u2 (rFromF (bk μ (x + 1)) (bk μ (x + 16))).2.1 0 2 (nI 0))) (x + 4) 12 (copyBF A (rFromF (bk μ (x + 1)) (bk μ (x + 16))).2.2)) (x + 28) 7 (u2 P 0 0 (nI 0))) (x + 42) 4 (u2 (u2 S 0 0 (nI 0)) 0 1 (nI 0))) (x + 50) 0 (-1)).1 (x + 42) = (u2 (u2 S 0 0 (nI 0)) 0 1 (nI 0)) 0 := by rw [upI_out (by omega), sb_in0 (by omega)]
      have orr : (upI (sb (sb (sb (sb (upI (sb μ (x + 16) 12 (rFromF (bk μ (x + 1)) (bk μ (x + 16))).2.2) x 17 ((rFromF (bk μ (x + 1)) (bk μ (x + 16))).2.1 0 10)) (x + 1) 3 (u2 (rFromF (bk μ (x + 1)) (bk μ (x + 16))).2.1 0 2 (nI 0))) (x + 4) 12 (copyBF A (rFromF (bk μ (x + 1)) (bk μ (x + 16))).2.2)) (x + 28) 7 (u2 P 0 0 (nI 0))) (x + 42) 4 (u2 (u2 S 0 0 (nI 0)) 0 1 (nI 0))) (x + 50) 0 (-1)).1 (x + 50) 0 = -1 := upI_fld
      have o17 : (upI (sb (sb (sb (sb (upI (sb μ (x + 16) 12 (rFromF (bk μ (x + 1)) (bk μ (x + 16))).2.2) x 17 ((rFromF (bk μ (x + 1)) (bk μ (x + 16))).2.1 0 10)) (x + 1) 3 (u2 (rFromF (bk μ (x + 1)) (bk μ (x + 16))).2.1 0 2 (nI 0))) (x + 4) 12 (copyBF A (rFromF (bk μ (x + 1)) (bk μ (x + 16))).2.2)) (x + 28) 7 (u2 P 0 0 (nI 0))) (x + 42) 4 (u2 (u2 S 0 0 (nI 0)) 0 1 (nI 0))) (x + 50) 0 (-1)).1 x 17 = nI 0 := by
        rw [upI_out (by omega), sb_out (by omega), sb_out (by omega), sb_out (by omega), sb_out (by omega), upI_fld]
        exact p10.2.1 z
      have o15 : ∀ j, j ≠ 17 → (upI (sb (sb (sb (sb (upI (sb μ (x + 16) 12 (rFromF (bk μ (x + 1)) (bk μ (x + 16))).2.2) x 17 ((rFromF (bk μ (x + 1)) (bk μ (x + 16))).2.1 0 10)) (x + 1) 3 (u2 (rFromF (bk μ (x + 1)) (bk μ (x + 16))).2.1 0 2 (nI 0))) (x + 4) 12 (copyBF A (rFromF (bk μ (x + 1)) (bk μ (x + 16))).2.2)) (x + 28) 7 (u2 P 0 0 (nI 0))) (x + 42) 4 (u2 (u2 S 0 0 (nI 0)) 0 1 (nI 0))) (x + 50) 0 (-1)).1 x j = μ.1 x j := fun j hj => by rw [upI_out (by omega), sb_out (by omega), sb_out (by omega), sb_out (by omega), sb_out (by omega), upI_oth hj, sb_out (by omega)]
      have o2 : (upI (sb (sb (sb (sb (upI (sb μ (x + 16) 12 (rFromF (bk μ (x + 1)) (bk μ (x + 16))).2.2) x 17 ((rFromF (bk μ (x + 1)) (bk μ (x + 16))).2.1 0 10)) (x + 1) 3 (u2 (rFromF (bk μ (x + 1)) (bk μ (x + 16))).2.1 0 2 (nI 0))) (x + 4) 12 (copyBF A (rFromF (bk μ (x + 1)) (bk μ (x + 16))).2.2)) (x + 28) 7 (u2 P 0 0 (nI 0))) (x + 42) 4 (u2 (u2 S 0 0 (nI 0)) 0 1 (nI 0))) (x + 50) 0 (-1)).2 = μ.2 := rfl
      generalize (upI (sb (sb (sb (sb (upI (sb μ (x + 16) 12 (rFromF (bk μ (x + 1)) (bk μ (x + 16))).2.2) x 17 ((rFromF (bk μ (x + 1)) (bk μ (x + 16))).2.1 0 10)) (x + 1) 3 (u2 (rFromF (bk μ (x + 1)) (bk μ (x + 16))).2.1 0 2 (nI 0))) (x + 4) 12 (copyBF A (rFromF (bk μ (x + 1)) (bk μ (x + 16))).2.2)) (x + 28) 7 (u2 P 0 0 (nI 0))) (x + 42) 4 (u2 (u2 S 0 0 (nI 0)) 0 1 (nI 0))) (x + 50) 0 (-1)) = μ1 at om ox ot ob op os orr o17 o15 o2 ⊢
      have om0 : μ1.1 m = μ.1 m := om 0
      refine ref_in3 (m := m) ?_
      refine c_brookR (h := h) (N := μ1.2 (m + 7)) (L := L) (T := bk μ (x + 1)) (B := bk μ (x + 16)) l1 l2 (by show μ1.1 m 2 = _; rw [om0]; exact l3) (fun j hj => by show μ1.1 (m + 1) j = _; rw [om 1]; exact l4 j hj) hr.2.1 (fun z1 G W l Q' w' N' f1 h10 rb hl => ⟨by rw [hl], ?_⟩) (fun z1 => absurd (z.symm.trans z1) (by decide))
      have e' : ∀ k, k < 21 → (sb (upL (rL (rL μ1 (m + 7) N') (m + 6) (cpL 14 N' (μ1.2 (m + 6)))) m 12 w') m 21 (nowB Q')).1 (m + k) = nowB Q' k := fun k hk => sb_in hk
      have e0 : (sb (upL (rL (rL μ1 (m + 7) N') (m + 6) (cpL 14 N' (μ1.2 (m + 6)))) m 12 w') m 21 (nowB Q')).1 m = nowB Q' 0 := e' 0 (by omega)
      have nk : ∀ k, k ≠ 2 → nowB Q' k = Q' k := fun k hk => up_row hk
      have n2 : ∀ j, nowB Q' 2 j = zR 278 925 (cpR 278 (Q' 3) (Q' 2)) j := fun j => by
        unfold nowB
        rw [up_at]
      have nz : ∀ j, 278 ≤ j → j < 925 → nowB Q' 2 j = nI 0 := fun j a b => by
        rw [n2]
        exact if_pos ⟨a, b⟩
      have nq : ∀ j, j < 278 → nowB Q' 2 j = Q' 3 j := fun j a => by
        rw [n2]
        unfold zR
        rw [if_neg (by omega), cpR_in a]
      have xx : ∀ i, i < 164 → (sb (upL (rL (rL μ1 (m + 7) N') (m + 6) (cpL 14 N' (μ1.2 (m + 6)))) m 12 w') m 21 (nowB Q')).1 (x + i) = μ1.1 (x + i) := fun i hi => sb_out (by omega)
      have x0 : (sb (upL (rL (rL μ1 (m + 7) N') (m + 6) (cpL 14 N' (μ1.2 (m + 6)))) m 12 w') m 21 (nowB Q')).1 x = μ1.1 x := sb_out (by omega)
      have l2' : ∀ i, i ≠ m → i ≠ m + 6 → i ≠ m + 7 → (sb (upL (rL (rL μ1 (m + 7) N') (m + 6) (cpL 14 N' (μ1.2 (m + 6)))) m 12 w') m 21 (nowB Q')).2 i = μ.2 i := fun i h1 h2 h3 => by
        show (upL (rL (rL μ1 (m + 7) N') (m + 6) (cpL 14 N' (μ1.2 (m + 6)))) m 12 w').2 i = _
        rw [upL_o h1, rL_o h2, rL_o h3, o2]
      have l6 : (sb (upL (rL (rL μ1 (m + 7) N') (m + 6) (cpL 14 N' (μ1.2 (m + 6)))) m 12 w') m 21 (nowB Q')).2 (m + 6) = cpL 14 N' (μ1.2 (m + 6)) := by
        show (upL (rL (rL μ1 (m + 7) N') (m + 6) (cpL 14 N' (μ1.2 (m + 6)))) m 12 w').2 (m + 6) = _
        rw [upL_o (by omega), rL_at]
      have l34 : (sb (upL (rL (rL μ1 (m + 7) N') (m + 6) (cpL 14 N' (μ1.2 (m + 6)))) m 12 w') m 21 (nowB Q')).2 m 34 = μ.2 m 34 := by
        show va_up (rL (rL μ1 (m + 7) N') (m + 6) (cpL 14 N' (μ1.2 (m + 6)))).2 m (vp_updL ((rL (rL μ1 (m + 7) N') (m + 6) (cpL 14 N' (μ1.2 (m + 6)))).2 m) 12 w') m 34 = _
        rw [up_at, vpL_ne (by decide), rL_o (by omega), rL_o (by omega), o2]
      have tk0 : μ1.1 (x + 1) = (u2 (rFromF (bk μ (x + 1)) (bk μ (x + 16))).2.1 0 2 (nI 0)) 0 := ot 0 (by omega)
      have tk2 : μ1.1 (x + 3) = (u2 (rFromF (bk μ (x + 1)) (bk μ (x + 16))).2.1 0 2 (nI 0)) 2 := ot 2 (by omega)
      have eB : ∀ k, k < 12 → bk (sb (upL (rL (rL μ1 (m + 7) N') (m + 6) (cpL 14 N' (μ1.2 (m + 6)))) m 12 w') m 21 (nowB Q')) (x + 4) k = copyBF A (rFromF (bk μ (x + 1)) (bk μ (x + 16))).2.2 k := fun k hk => by
        show (sb (upL (rL (rL μ1 (m + 7) N') (m + 6) (cpL 14 N' (μ1.2 (m + 6)))) m 12 w') m 21 (nowB Q')).1 (x + 4 + k) = _
        rw [Nat.add_assoc, xx _ (by omega), ← Nat.add_assoc]
        exact ob k hk
      have rb1 := RBB_eq (q' := nowB Q' 2) (N' := cpL 14 N' (μ1.2 (m + 6))) rb (cpB_eq (B := A)) nq (fun j hj => cpL_in hj)
      have rb2 := RBB_eq rb1 (eqB_k eB) (fun j _ => rfl) (fun j _ => rfl)
      refine Rel_mk hr ⟨0, by omega, ?_, ?_, fun j hj => absurd hj (Nat.not_lt_zero j)⟩ ?_ ⟨G, W, ?_, ⟨0, by omega, ?_, ?_, fun i hi => absurd hi (Nat.not_lt_zero i)⟩, Or.inl ⟨?_, ?_⟩, Or.inl ⟨?_, ?_⟩⟩ (fun i a b => (xx i (by omega)).trans (ox i (by omega) (by omega))) ?_ ?_ ?_ (l2' _ (by omega) (by omega) (by omega)) (l2' _ (by omega) (by omega) (by omega)) (l2' _ (by omega) (by omega) (by omega)) (l2' _ (by omega) (by omega) (by omega)) ?_ ?_ ?_ ?_ ?_ ?_ ?_
      · rw [xx 1 (by omega), tk0, u2_at, upd_at]
      · rw [e0, nk 0 (by decide)]; exact f1.2.2
      · rw [xx 3 (by omega), tk2, u2_row (by decide), pr]; rfl
      · rw [e' 2 (by omega), l6]; exact rb2
      · show (sb (upL (rL (rL μ1 (m + 7) N') (m + 6) (cpL 14 N' (μ1.2 (m + 6)))) m 12 w') m 21 (nowB Q')).1 (x + 28) 0 = _
        rw [xx 28 (by omega), op, u2_at, upd_at]
      · rw [e' 2 (by omega)]; exact nz 278 (by omega) (by omega)
      · show (sb (upL (rL (rL μ1 (m + 7) N') (m + 6) (cpL 14 N' (μ1.2 (m + 6)))) m 12 w') m 21 (nowB Q')).1 (x + 42) 0 = _
        rw [xx 42 (by omega), os, u2_at, upd_ne (by decide), u2_at, upd_at]
      · rw [e' 2 (by omega)]; exact nz 379 (by omega) (by omega)
      · show (sb (upL (rL (rL μ1 (m + 7) N') (m + 6) (cpL 14 N' (μ1.2 (m + 6)))) m 12 w') m 21 (nowB Q')).1 (x + 50) 0 = _
        rw [xx 50 (by omega)]; exact orr
      · rw [e' 2 (by omega)]; exact nz 621 (by omega) (by omega)
      · rw [e' 5 (by omega), nk 5 (by decide), f1.1 5 (by decide) (by decide)]; exact om 5
      · rw [e' 9 (by omega), nk 9 (by decide), f1.1 9 (by decide) (by decide)]; exact om 9
      · rw [e' 18 (by omega), nk 18 (by decide), f1.1 18 (by decide) (by decide)]; exact om 18
      · exact l34
      · rw [x0]; exact o15 15 (by decide)
      · rw [x0]; exact o15 16 (by decide)
      · rw [e0, nk 0 (by decide), f1.2.1 33 (by omega)]; exact congrFun om0 33
      · rw [e0, nk 0 (by decide), f1.2.1 35 (by omega)]; exact congrFun om0 35
      · rw [e0, nk 0 (by decide), f1.2.1 38 (by omega)]; exact congrFun om0 38
      · rw [x0, e0, nk 0 (by decide), o17, h10]
    · have om : ∀ j, (sb (upI (sb μ (x + 16) 12 (rFromF (bk μ (x + 1)) (bk μ (x + 16))).2.2) x 17 ((rFromF (bk μ (x + 1)) (bk μ (x + 16))).2.1 0 10)) (x + 1) 3 (u2 (rFromF (bk μ (x + 1)) (bk μ (x + 16))).2.1 0 2 (nI 0))).1 (m + j) = μ.1 (m + j) := fun j => by rw [sb_out (by omega), upI_out (by omega), sb_out (by omega)]
      have ox : ∀ i, (4 ≤ i ∧ i < 16) ∨ (28 ≤ i ∧ i < 164) → (sb (upI (sb μ (x + 16) 12 (rFromF (bk μ (x + 1)) (bk μ (x + 16))).2.2) x 17 ((rFromF (bk μ (x + 1)) (bk μ (x + 16))).2.1 0 10)) (x + 1) 3 (u2 (rFromF (bk μ (x + 1)) (bk μ (x + 16))).2.1 0 2 (nI 0))).1 (x + i) = μ.1 (x + i) := fun i hi => by rw [sb_out (by omega), upI_out (by omega), sb_out (by omega)]
      have ot : ∀ k, k < 3 → (sb (upI (sb μ (x + 16) 12 (rFromF (bk μ (x + 1)) (bk μ (x + 16))).2.2) x 17 ((rFromF (bk μ (x + 1)) (bk μ (x + 16))).2.1 0 10)) (x + 1) 3 (u2 (rFromF (bk μ (x + 1)) (bk μ (x + 16))).2.1 0 2 (nI 0))).1 (x + 1 + k) = (u2 (rFromF (bk μ (x + 1)) (bk μ (x + 16))).2.1 0 2 (nI 0)) k := fun k hk => sb_in hk
      have o17 : (sb (upI (sb μ (x + 16) 12 (rFromF (bk μ (x + 1)) (bk μ (x + 16))).2.2) x 17 ((rFromF (bk μ (x + 1)) (bk μ (x + 16))).2.1 0 10)) (x + 1) 3 (u2 (rFromF (bk μ (x + 1)) (bk μ (x + 16))).2.1 0 2 (nI 0))).1 x 17 = (rFromF (bk μ (x + 1)) (bk μ (x + 16))).2.1 0 10 := by rw [sb_out (by omega), upI_fld]
      have o15 : ∀ j, j ≠ 17 → (sb (upI (sb μ (x + 16) 12 (rFromF (bk μ (x + 1)) (bk μ (x + 16))).2.2) x 17 ((rFromF (bk μ (x + 1)) (bk μ (x + 16))).2.1 0 10)) (x + 1) 3 (u2 (rFromF (bk μ (x + 1)) (bk μ (x + 16))).2.1 0 2 (nI 0))).1 x j = μ.1 x j := fun j hj => by rw [sb_out (by omega), upI_oth hj, sb_out (by omega)]
      have o2 : (sb (upI (sb μ (x + 16) 12 (rFromF (bk μ (x + 1)) (bk μ (x + 16))).2.2) x 17 ((rFromF (bk μ (x + 1)) (bk μ (x + 16))).2.1 0 10)) (x + 1) 3 (u2 (rFromF (bk μ (x + 1)) (bk μ (x + 16))).2.1 0 2 (nI 0))).2 = μ.2 := rfl
      generalize (sb (upI (sb μ (x + 16) 12 (rFromF (bk μ (x + 1)) (bk μ (x + 16))).2.2) x 17 ((rFromF (bk μ (x + 1)) (bk μ (x + 16))).2.1 0 10)) (x + 1) 3 (u2 (rFromF (bk μ (x + 1)) (bk μ (x + 16))).2.1 0 2 (nI 0))) = μ1 at om ox ot o17 o15 o2 ⊢
      have om0 : μ1.1 m = μ.1 m := om 0
      refine ref_in3 (m := m) ?_
      refine c_brookR (h := h) (N := μ1.2 (m + 7)) (L := L) (T := bk μ (x + 1)) (B := bk μ (x + 16)) l1 l2 (by show μ1.1 m 2 = _; rw [om0]; exact l3) (fun j hj => by show μ1.1 (m + 1) j = _; rw [om 1]; exact l4 j hj) hr.2.1 (fun z1 => absurd (z.symm.trans z1) (by decide)) (fun z1 Q' w' N' f1 h10 => ⟨rfl, ?_⟩)
      have e' : ∀ k, k < 21 → (sb (upL (rL μ1 (m + 7) N') m 12 w') m 21 Q').1 (m + k) = Q' k := fun k hk => sb_in hk
      have e0 : (sb (upL (rL μ1 (m + 7) N') m 12 w') m 21 Q').1 m = Q' 0 := e' 0 (by omega)
      have xx : ∀ i, i < 164 → (sb (upL (rL μ1 (m + 7) N') m 12 w') m 21 Q').1 (x + i) = μ1.1 (x + i) := fun i hi => sb_out (by omega)
      have x0 : (sb (upL (rL μ1 (m + 7) N') m 12 w') m 21 Q').1 x = μ1.1 x := sb_out (by omega)
      have q2 : Q' 2 = μ.1 (m + 2) := (f1.1 2 (by decide) (by decide)).trans (om 2)
      have l2' : ∀ i, i ≠ m → i ≠ m + 7 → (sb (upL (rL μ1 (m + 7) N') m 12 w') m 21 Q').2 i = μ.2 i := fun i h1 h3 => by
        show (upL (rL μ1 (m + 7) N') m 12 w').2 i = _
        rw [upL_o h1, rL_o h3, o2]
      have l34 : (sb (upL (rL μ1 (m + 7) N') m 12 w') m 21 Q').2 m 34 = μ.2 m 34 := by
        show va_up (rL μ1 (m + 7) N').2 m (vp_updL ((rL μ1 (m + 7) N').2 m) 12 w') m 34 = _
        rw [up_at, vpL_ne (by decide), rL_o (by omega), o2]
      have tk0 : μ1.1 (x + 1) = (u2 (rFromF (bk μ (x + 1)) (bk μ (x + 16))).2.1 0 2 (nI 0)) 0 := ot 0 (by omega)
      have tk2 : μ1.1 (x + 3) = (u2 (rFromF (bk μ (x + 1)) (bk μ (x + 16))).2.1 0 2 (nI 0)) 2 := ot 2 (by omega)
      refine Rel_mk hr ⟨0, by omega, ?_, ?_, fun j hj => absurd hj (Nat.not_lt_zero j)⟩ ?_ (RSt_k hr.2.2.1 (fun i hi => (xx i (by omega)).trans (ox i (by omega))) (by rw [e' 2 (by omega)]; exact q2) (l2' _ (by omega) (by omega))) (fun i a b => (xx i (by omega)).trans (ox i (by omega))) ?_ ?_ ?_ (l2' _ (by omega) (by omega)) (l2' _ (by omega) (by omega)) (l2' _ (by omega) (by omega)) (l2' _ (by omega) (by omega)) ?_ ?_ ?_ ?_ ?_ ?_ ?_
      · rw [xx 1 (by omega), tk0, u2_at, upd_at]
      · rw [e0]; exact f1.2.2
      · rw [xx 3 (by omega), tk2, u2_row (by decide), pr]; rfl
      · rw [e' 5 (by omega), f1.1 5 (by decide) (by decide)]; exact om 5
      · rw [e' 9 (by omega), f1.1 9 (by decide) (by decide)]; exact om 9
      · rw [e' 18 (by omega), f1.1 18 (by decide) (by decide)]; exact om 18
      · exact l34
      · rw [x0]; exact o15 15 (by decide)
      · rw [x0]; exact o15 16 (by decide)
      · rw [e0, f1.2.1 33 (by omega)]; exact congrFun om0 33
      · rw [e0, f1.2.1 35 (by omega)]; exact congrFun om0 35
      · rw [e0, f1.2.1 38 (by omega)]; exact congrFun om0 38
      · rw [x0, e0, o17, h10]
  rw [e] at key
  exact key
end MBo
