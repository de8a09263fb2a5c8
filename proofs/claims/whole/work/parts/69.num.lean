/-! a NUMBER has three digits at most -/
theorem rt_mono {f : Nat → Int32} : ∀ n s, s.2.1 ≤ (rtF f n s).2.1 ∧ s.2.2.1 ≤ (rtF f n s).2.2.1 := by
  intro n
  induction n with
  | zero => intro s; exact ⟨Nat.le_refl _, Nat.le_refl _⟩
  | succ n ih =>
    intro s
    unfold rtF
    by_cases h : alnum (f s.1)
    · rw [if_pos h]
      have h1 := ih (rtS f s)
      by_cases hl : nI 97 ≤ f s.1
      · rw [rtS_t hl] at h1 ⊢
        exact ⟨Nat.le_trans (Nat.le_succ _) h1.1, h1.2⟩
      · rw [rtS_f hl] at h1 ⊢
        exact ⟨h1.1, Nat.le_trans (Nat.le_succ _) h1.2⟩
    · rw [if_neg h]
      exact ⟨Nat.le_refl _, Nat.le_refl _⟩
theorem rt_num {f : Nat → Int32} : ∀ n (s : Tk), (∃ a, a < 10 ^ s.2.2.1 ∧ s.2.2.2.2 = nI a) → (rtF f n s).2.1 = 0 → (rtF f n s).2.2.1 ≤ 3 → ∃ a, a < 10 ^ (rtF f n s).2.2.1 ∧ (rtF f n s).2.2.2.2 = nI a := by
  intro n
  induction n with
  | zero => intro s h _ _; exact h
  | succ n ih =>
    intro s h hl hd
    unfold rtF at hl hd ⊢
    by_cases ha : alnum (f s.1)
    · rw [if_pos ha] at hl hd ⊢
      refine ih (rtS f s) ?_ hl hd
      by_cases hc : nI 97 ≤ f s.1
      · have := (rt_mono (f := f) n (rtS f s)).1
        rw [rtS_t hc] at this hl
        rw [hl] at this
        exact absurd this (Nat.not_succ_le_zero _)
      · obtain ⟨a, h1, h2⟩ := h
        rcases ha with z | z
        · exact absurd z.1 hc
        · obtain ⟨k, k1, k2, k3⟩ := numN (by decide) (by decide) z.1 z.2
          rw [rtS_f hc]
          refine ⟨a * 10 + (k - 48), ?_, ?_⟩
          · show a * 10 + (k - 48) < 10 ^ (s.2.2.1 + 1)
            rw [Nat.pow_succ]
            omega
          · show s.2.2.2.2 * nI 10 + f s.1 - nI 48 = nI (a * 10 + (k - 48))
            rw [h2, k3, nI_mul, nI_add, nI_subq (by omega)]
            congr 1
            omega
    · rw [if_neg ha] at hl hd ⊢
      exact h
theorem adv_num {T : Bk} (ht : tpOk T) (h3 : advF T 0 5 = nI 3) : ∃ n, n ≤ 999 ∧ advF T 0 7 = nI n := by
  unfold advF at h3 ⊢
  by_cases c1 : T 0 3 ≤ nI (advI T) ∧ T 0 3 < T 0 2
  · rw [if_pos c1] at h3
    simp (disch := omega) only [u2_at, upd_at, upd_ne] at h3
    exact absurd h3 (by decide)
  · rw [if_neg c1] at h3 ⊢
    by_cases c2 : cl (T 0 2) ≤ advI T
    · rw [if_pos c2] at h3
      simp (disch := omega) only [u2_at, upd_at, upd_ne] at h3
      exact absurd h3 (by decide)
    · rw [if_neg c2] at h3 ⊢
      unfold tokF at h3 ⊢
      have hr := rt_num (f := (u2 (u2 (u2 T 0 7 (nI 0)) 0 8 (-1)) 0 6 (nI (advI T))) 1) (cl (T 0 2) - advI T) (advI T, 0, 0, nI 0, nI 0) ⟨0, Nat.one_pos, rfl⟩
      generalize rtF ((u2 (u2 (u2 T 0 7 (nI 0)) 0 8 (-1)) 0 6 (nI (advI T))) 1) (cl (T 0 2) - advI T) (advI T, 0, 0, nI 0, nI 0) = S at h3 hr ⊢
      have e5 : kwsF S.2.2.2.1 (tok1 (u2 (u2 (u2 T 0 7 (nI 0)) 0 8 (-1)) 0 6 (nI (advI T))) (advI T) S) 0 5 = tok1 (u2 (u2 (u2 T 0 7 (nI 0)) 0 8 (-1)) 0 6 (nI (advI T))) (advI T) S 0 5 := by
        unfold kwsF
        split
        · rw [kwF_at (by decide)]
        · rfl
      have e7 : kwsF S.2.2.2.1 (tok1 (u2 (u2 (u2 T 0 7 (nI 0)) 0 8 (-1)) 0 6 (nI (advI T))) (advI T) S) 0 7 = tok1 (u2 (u2 (u2 T 0 7 (nI 0)) 0 8 (-1)) 0 6 (nI (advI T))) (advI T) S 0 7 := by
        unfold kwsF
        split
        · rw [kwF_at (by decide)]
        · rfl
      rw [e5] at h3
      rw [e7]
      unfold tok1 at h3 ⊢
      by_cases d1 : S.2.1 + S.2.2.1 = 0
      · rw [if_pos d1] at h3
        simp (disch := omega) only [u2_at, upd_at, upd_ne] at h3
        exact absurd h3 (by decide)
      · rw [if_neg d1] at h3 ⊢
        by_cases d2 : S.2.2.1 = 0 ∧ S.2.1 ≤ 6
        · rw [if_pos d2] at h3
          simp (disch := omega) only [u2_at, upd_at, upd_ne] at h3
          exact absurd h3 (by decide)
        · rw [if_neg d2] at h3 ⊢
          by_cases d3 : S.2.1 = 0 ∧ S.2.2.1 ≤ 3
          · rw [if_pos d3]
            obtain ⟨a, a1, a2⟩ := hr d3.1 d3.2
            refine ⟨a, ?_, ?_⟩
            · have : 10 ^ S.2.2.1 ≤ 10 ^ 3 := Nat.pow_le_pow_right (by decide) d3.2
              have h1000 : (10 : Nat) ^ 3 = 1000 := by decide
              omega
            · simp (disch := omega) only [u2_at, upd_at, upd_ne]
              exact a2
          · rw [if_neg d3] at h3
            simp (disch := omega) only [u2_at, upd_at, upd_ne] at h3
            exact absurd h3 (by decide)
