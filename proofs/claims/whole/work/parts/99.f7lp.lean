section MLp
variable {X : mC} {h x m sa sc : Nat} {μ : Mem}
theorem Rel_out {v : Int64} (hx : x + 164 = m) (hr : Rel x m μ) : Rel x m (upL μ (m + 21) 0 v) := by
  have e : ∀ i, i ≠ m + 21 → (upL μ (m + 21) 0 v).2 i = μ.2 i := fun i hi => up_off i hi
  obtain ⟨r1, r2, r3, r4, r5, r6, r7, r8⟩ := hr
  refine ⟨r1, r2, RSt_k r3 (fun _ _ => rfl) rfl (e _ (by omega)), fun k hk => RIm_k hk (r4 k hk) (fun _ _ _ => rfl) rfl (e _ (by omega)) rfl, r5, RWo_k r6 rfl rfl (e _ (by omega)) (e _ (by omega)) (e _ (by omega)) (by rw [e _ (by omega)]), r7, r8⟩
/-- what follows the class's work in the law: the reference's, and whether it refused -/
def LW (X : mC) (h m x : Nat) (w t : Int32) (v : MV) (u : Mem) : Prop := mMet X (h + 5) m_X9_work [.inr (.inr (8, 0, m)), .inl w, .inl t] u (fun b μ2 => mMet X (h + 5) m_X9_thrown [.inr (.inr (8, 0, m))] μ2 (fun k μ3 => k = v ∧ Rel x m μ3 ∧ (v = .inl (nI 0) → ∃ y : Int32, b = .inl y ∧ μ3.2 (m + 21) 0 = y.toInt64)))
def LO (X : mC) (h m x : Nat) (w t : Int32) (v : MV) (u : Mem) : Prop := mMet X (h + 5) m_X9_worthOf [.inr (.inr (8, 0, m)), .inl w, .inl t] u (fun b μ2 => mMet X (h + 5) m_X9_thrown [.inr (.inr (8, 0, m))] μ2 (fun k μ3 => k = v ∧ Rel x m μ3 ∧ (v = .inl (nI 0) → ∃ y : Int64, b = .inr (.inl y) ∧ μ3.2 (m + 21) 0 = y)))
theorem thr_0 {Q : Bk} {y : Int32} : (sb μ m 21 (u2 Q 0 0 y)).1 m 0 = y := by
  have e : (sb μ m 21 (u2 Q 0 0 y)).1 (m + 0) = u2 Q 0 0 y 0 := sb_in (by decide)
  rw [show (sb μ m 21 (u2 Q 0 0 y)).1 m = u2 Q 0 0 y 0 from e, u2_at, upd_at]
theorem l_work {w t : Int32} (hx : x + 164 = m) (hl : (mcL X).stackTraces = false) (hsh : mSh[x]? = some (7, 0)) (hso : mSh[m + 21]? = some (17, 1)) (hr : Rel x m μ) :
    Met (mcL X) yL_work wL_work (rmX (h + 8)) (va_Pc ([.inr (.inr (7, 0, x)), .inl w, .inl t, .inr (.inr (17, 1, m + 21))].map (mTr X)) (mPt X sa sc μ)) (va_Qi (fun r u => LW X h m x w t (.inl r) u) (mB X) (mA X)) 1 6 (mA X) := by
  obtain ⟨G, W, rb, pl, sn, rn⟩ := id hr.2.2.1
  have b1 : μ.1 (x + 4) 1 = nI W := rb.b1
  have w8 := rb.w8
  by_cases hg : (∃ i, i < W ∧ w = nI i) ∧ ∃ a, a ≤ 5 ∧ t = nI a
  · obtain ⟨⟨i, hi, rfl⟩, a, ha, rfl⟩ := hg
    refine cl_work (K8 := fun v μ' => v = .inl (wkB (bk μ (x + 4)) i a) ∧ μ' = μ) (KX := fun _ => False) hsh hso (cx_work hl hsh (fun _ _ _ => c8_work27 (h := h + 3) (by omega) ha ⟨rfl, rfl⟩) (fun z => z ⟨?_, nI_pos (by omega), ?_⟩)) (fun y μ' hk => ?_) (fun _ hk => hk.elim)
    · rw [b1, ixP (by omega)]
      exact ⟨i, hi, rfl⟩
    · exact nI_le (by omega) (by omega)
    · obtain ⟨e1, rfl⟩ := hk
      have e1 : y = wkB (bk μ' (x + 4)) i a := Sum.inl.inj e1
      refine ref_in (m := m) ?_
      refine c9_work (G := G) (W := W) (N := μ'.2 (m + 6)) (B := bk μ' (x + 4)) rb hi ha ?_
      refine c_X9_thrown ?_
      refine ⟨by rw [thr_0], Rel_thr hx (Rel_out hx hr), fun _ => ⟨y, by rw [e1], ?_⟩⟩
      rw [sb_2]
      show va_up μ'.2 (m + 21) (vp_updL (μ'.2 (m + 21)) 0 y.toInt64) (m + 21) 0 = y.toInt64
      rw [up_at]
      simp [vp_updL]
  · refine cl_work (K8 := fun _ _ => False) (KX := fun μ' => μ' = μ) hsh hso (cx_work hl hsh (fun z1 z2 z3 => ?_) (fun _ => rfl)) (fun y μ' hk => hk.elim) (fun μ' hk => ?_)
    · refine absurd ⟨?_, ?_⟩ hg
      · rw [b1, ixP (by omega)] at z1
        exact z1
      · obtain ⟨a, a1, a2, a3⟩ := numN (a := 0) (b := 5) (by decide) (by decide) (Int32.not_lt.mp z2) z3
        exact ⟨a, a2, a3⟩
    · subst hk
      refine ref_in (m := m) ?_
      refine c9_workN (W := W) w8 rb.q1 hg ?_
      refine c_X9_thrown ?_
      exact ⟨by rw [thr_0], Rel_thr hx hr, fun z => absurd (Sum.inl.inj z) (by decide)⟩
theorem l_worthOf {w t : Int32} (hx : x + 164 = m) (hl : (mcL X).stackTraces = false) (hsh : mSh[x]? = some (7, 0)) (hso : mSh[m + 21]? = some (17, 1)) (hr : Rel x m μ) :
    Met (mcL X) yL_worthOf wL_worthOf (rmX (h + 8)) (va_Pc ([.inr (.inr (7, 0, x)), .inl w, .inl t, .inr (.inr (17, 1, m + 21))].map (mTr X)) (mPt X sa sc μ)) (va_Qi (fun r u => LO X h m x w t (.inl r) u) (mB X) (mA X)) 1 6 (mA X) := by
  obtain ⟨n, n8, e15, e33, wr⟩ := id hr.2.2.2.2.2.1
  by_cases hg : (∃ i, i < n ∧ w = nI i) ∧ ∃ a, a ≤ 1 ∧ t = nI a
  · obtain ⟨⟨i, hi, rfl⟩, a, ha, rfl⟩ := hg
    have hw := wr i hi
    obtain ⟨ea, eb⟩ := WR_a hw
    obtain ⟨f1, f2, s1, s2, -, -⟩ := hw
    refine cl_worthOf (K8 := fun v μ' => v = .inr (.inl (if a = 0 then μ.2 (x + 162) i else μ.2 (x + 163) i)) ∧ μ' = μ) (KX := fun _ => False) hsh hso (cx_worthOf hl hsh (fun _ _ _ _ => c8_worthOf32 (by omega) ha ⟨rfl, rfl⟩) (fun z => z ⟨nI_pos (by omega), ?_, nI_pos (by omega), ?_⟩)) (fun y μ' hk => ?_) (fun _ hk => hk.elim)
    · rw [e15]
      exact fun q => absurd ((nI_leI (by omega) (by omega)).mp q) (by omega)
    · exact nI_le (by omega) (by omega)
    · obtain ⟨e1, rfl⟩ := hk
      have e1 : y = (if a = 0 then μ'.2 (x + 162) i else μ'.2 (x + 163) i) := Sum.inl.inj (Sum.inr.inj e1)
      have o17 : (upL μ' (m + 21) 0 y).2 (m + 17) = μ'.2 (m + 17) := up_off _ (by omega)
      have o0 : (upL μ' (m + 21) 0 y).2 m = μ'.2 m := up_off _ (by omega)
      refine ref_in (m := m) ?_
      refine c9_worthOf (h := h + 2) (n := n) n8 e33 hi ha (by rw [o0]; exact f1) (by rw [o0]; exact f2) (by rw [o17]; exact s1) (by rw [o17]; exact s2) ?_
      refine c_X9_thrown ?_
      refine ⟨by rw [thr_0], Rel_thr hx (Rel_out hx hr), fun _ => ⟨y, ?_, ?_⟩⟩
      · rw [o17, o0, e1, ea, eb]
        by_cases h0 : a = 0
        · rw [if_pos h0, if_pos h0]
        · rw [if_neg h0, if_neg h0]
      · rw [sb_2]
        show va_up μ'.2 (m + 21) (vp_updL (μ'.2 (m + 21)) 0 y) (m + 21) 0 = y
        rw [up_at]
        simp [vp_updL]
  · refine cl_worthOf (K8 := fun _ _ => False) (KX := fun μ' => μ' = μ) hsh hso (cx_worthOf hl hsh (fun z0 z1 z2 z3 => ?_) (fun _ => rfl)) (fun y μ' hk => hk.elim) (fun μ' hk => ?_)
    · refine absurd ⟨?_, ?_⟩ hg
      · rw [e15] at z1
        exact (ixP (g := w) (n := n) (by omega)).mp ⟨Int32.not_lt.mp z0, Int32.not_le.mp z1⟩
      · obtain ⟨a, a1, a2, a3⟩ := numN (a := 0) (b := 1) (by decide) (by decide) (Int32.not_lt.mp z2) z3
        exact ⟨a, a2, a3⟩
    · subst hk
      refine ref_in (m := m) ?_
      refine c9_worthOfN (h := h + 2) (n := n) n8 e33 hg ?_
      refine c_X9_thrown ?_
      exact ⟨by rw [thr_0], Rel_thr hx hr, fun z => absurd (Sum.inl.inj z) (by decide)⟩
end MLp
