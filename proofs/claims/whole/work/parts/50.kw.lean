/-! which of the told WORDS a TOKEN is -/
theorem kw_fo {v : Int32} {T : Bk} : ∀ j, ((∀ k, k < j → ¬ T 2 k = v) → fo j (kwF v) T 0 8 = T 0 8) ∧ ∀ k, k < j → T 2 k = v → (∀ i, i < j → T 2 i = v → i = k) → fo j (kwF v) T 0 8 = nI k := by
  intro j
  induction j with
  | zero => exact ⟨fun _ => rfl, fun k hk => absurd hk (Nat.not_lt_zero k)⟩
  | succ j ih =>
    rw [fo_s]
    have r2 : fo j (kwF v) T 2 = T 2 := kwF_row (by decide) j
    constructor
    · intro hn
      have e : kwF v j (fo j (kwF v) T) = fo j (kwF v) T := if_neg (by rw [r2]; exact hn j (Nat.lt_succ_self j))
      rw [e]
      exact ih.1 (fun k hk => hn k (by omega))
    · intro k hk hv hu
      by_cases hkj : k = j
      · subst hkj
        have e : kwF v k (fo k (kwF v) T) = u2 (fo k (kwF v) T) 0 8 (nI k) := if_pos (by rw [r2]; exact hv)
        rw [e, u2_at, upd_at]
      · have e : kwF v j (fo j (kwF v) T) = fo j (kwF v) T := if_neg (by
          rw [r2]
          intro hj
          exact hkj (hu j (Nat.lt_succ_self j) hj).symm)
        rw [e]
        exact ih.2 k (by omega) hv (fun i hi => hu i (by omega))
/-- the table of told WORDS, as the constructor lays it -/
def kwT (T : Bk) : Prop := ∀ k, k < 19 → T 2 k = nI (kwN k)
theorem kwT_adv {T : Bk} (h : kwT T) : kwT (advF T) := fun k hk => by rw [advF_row (by decide)]; exact h k hk
theorem kw_lt : ∀ k, k < 19 → kwN k < 2 ^ 31 := by decide
def kwP (T : Bk) : Prop := (¬ T 0 5 = nI 2 → T 0 8 = -1) ∧ (T 0 5 = nI 2 → ∀ n, n < 2 ^ 31 → T 0 7 = nI n → (∃ k, k < 19 ∧ n = kwN k ∧ T 0 8 = nI k) ∨ ((∀ k, k < 19 → ¬ n = kwN k) ∧ T 0 8 = -1))
theorem adv_kw {T : Bk} (hT : kwT T) (ht : tpOk T) : kwP (advF T) := by
  obtain ⟨L, N, hL9, hNL, h2, h4⟩ := ht
  unfold advF
  by_cases c1 : T 0 3 ≤ nI (advI T) ∧ T 0 3 < T 0 2
  · rw [if_pos c1]
    refine ⟨fun _ => by simp (disch := omega) only [u2_at, upd_at, upd_ne], fun z => ?_⟩
    simp (disch := omega) only [u2_at, upd_at, upd_ne] at z
    exact absurd z (by decide)
  · rw [if_neg c1]
    by_cases c2 : cl (T 0 2) ≤ advI T
    · rw [if_pos c2]
      refine ⟨fun _ => by simp (disch := omega) only [u2_at, upd_at, upd_ne], fun z => ?_⟩
      simp (disch := omega) only [u2_at, upd_at, upd_ne] at z
      exact absurd z (by decide)
    · rw [if_neg c2]
      unfold tokF
      generalize hS : rtF ((u2 (u2 (u2 T 0 7 (nI 0)) 0 8 (-1)) 0 6 (nI (advI T))) 1) (cl (T 0 2) - advI T) (advI T, 0, 0, nI 0, nI 0) = S
      have e8 : tok1 (u2 (u2 (u2 T 0 7 (nI 0)) 0 8 (-1)) 0 6 (nI (advI T))) (advI T) S 0 8 = -1 := by
        rw [tok1_at (by decide) (by decide) (by decide)]
        simp (disch := omega) only [u2_at, upd_at, upd_ne]
      have er : tok1 (u2 (u2 (u2 T 0 7 (nI 0)) 0 8 (-1)) 0 6 (nI (advI T))) (advI T) S 2 = T 2 := by
        rw [tok1_row (by decide), u2_row (by decide), u2_row (by decide), u2_row (by decide)]
      have e7 : tok1 (u2 (u2 (u2 T 0 7 (nI 0)) 0 8 (-1)) 0 6 (nI (advI T))) (advI T) S 0 5 = nI 2 → tok1 (u2 (u2 (u2 T 0 7 (nI 0)) 0 8 (-1)) 0 6 (nI (advI T))) (advI T) S 0 7 = S.2.2.2.1 := by
        unfold tok1
        by_cases d1 : S.2.1 + S.2.2.1 = 0
        · rw [if_pos d1]
          intro z
          simp (disch := omega) only [u2_at, upd_at, upd_ne] at z
          exact absurd z (by decide)
        · rw [if_neg d1]
          by_cases d2 : S.2.2.1 = 0 ∧ S.2.1 ≤ 6
          · rw [if_pos d2]
            intro _
            simp (disch := omega) only [u2_at, upd_at, upd_ne]
          · rw [if_neg d2]
            by_cases d3 : S.2.1 = 0 ∧ S.2.2.1 ≤ 3
            · rw [if_pos d3]
              intro z
              simp (disch := omega) only [u2_at, upd_at, upd_ne] at z
              exact absurd z (by decide)
            · rw [if_neg d3]
              intro z
              simp (disch := omega) only [u2_at, upd_at, upd_ne] at z
              exact absurd z (by decide)
      generalize tok1 (u2 (u2 (u2 T 0 7 (nI 0)) 0 8 (-1)) 0 6 (nI (advI T))) (advI T) S = T1 at e8 er e7 ⊢
      unfold kwsF
      by_cases c3 : T1 0 5 = nI 2
      · rw [if_pos c3]
        have f5 : fo 19 (kwF S.2.2.2.1) T1 0 5 = T1 0 5 := kwF_at (by decide) 19
        have f7 : fo 19 (kwF S.2.2.2.1) T1 0 7 = T1 0 7 := kwF_at (by decide) 19
        have f8 := kw_fo (v := S.2.2.2.1) (T := T1) 19
        unfold kwP
        rw [f5, f7]
        refine ⟨fun z => absurd c3 z, fun _ n hn e => ?_⟩
        rw [e7 c3] at e
        by_cases hx : ∃ k, k < 19 ∧ n = kwN k
        · obtain ⟨k, hk, rfl⟩ := hx
          refine Or.inl ⟨k, hk, rfl, f8.2 k hk (by rw [er, hT k hk, e]) (fun i hi hv => ?_)⟩
          rw [er, hT i hi, e] at hv
          exact kw_inj i hi k hk ((nI_eq (kw_lt i hi) (kw_lt k hk)).mp hv)
        · have hno : ∀ k, k < 19 → ¬ n = kwN k := fun k hk hn => hx ⟨k, hk, hn⟩
          refine Or.inr ⟨hno, (f8.1 (fun k hk hv => ?_)).trans e8⟩
          rw [er, hT k hk, e] at hv
          exact hno k hk ((nI_eq (kw_lt k hk) hn).mp hv).symm
      · rw [if_neg c3]
        exact ⟨fun _ => e8, fun z => absurd z c3⟩
