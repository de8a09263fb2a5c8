/-! a TOKEN as both sides hold it -/
def TKb (Q T : Bk) : Prop := ∃ L N, L ≤ 940 ∧ N ≤ L ∧ T 0 2 = nI L ∧ T 0 4 = nI N ∧ Q 0 3 = nI L ∧ Q 0 4 = T 0 3 ∧ Q 0 5 = nI N ∧ ∀ j, j < L → Q 1 j = T 1 j
def TK (Q : Bk) (w : Int64) (T : Bk) : Prop := TKb Q T ∧ kwT T ∧ kwP T ∧ GP T (Q 0 5) (Q 0 6) (Q 0 7) (Q 0 8) (Q 0 9) w
def frQ (Q Q' : Bk) : Prop := (∀ k, k ≠ 0 → Q' k = Q k) ∧ ∀ j, j < 5 ∨ 9 < j → Q' 0 j = Q 0 j
section MTK
variable {X : mC} {h m : Nat} {K : MV → Mem → Prop} {μ : Mem} {Q T : Bk} {w : Int64}
theorem TKb_ok (hb : TKb Q T) : tpOk T := by
  obtain ⟨L, N, h1, h2, h3, h4, _⟩ := hb
  exact ⟨L, N, h1, h2, h3, h4⟩
theorem c_goT (hb : TKb Q T) (hk : kwT T) (hK : ∀ Q' w', TK Q' w' (advF T) → frQ Q Q' → K (.inl 0) (sb (upL μ m 12 w') m 21 Q')) : mMet X (h + 2) m_X9_go [.inr (.inr (8, 0, m))] (sb (upL μ m 12 w) m 21 Q) K := by
  obtain ⟨L, N, h1, h2, h3, h4, h5, h6, h7, h8⟩ := id hb
  refine c_goR h1 h2 h3 h4 h5 h6 h7 h8 (fun a b c d e w' hg => ?_)
  refine hK _ _ ⟨?_, kwT_adv hk, adv_kw hk (TKb_ok hb), ?_⟩ ⟨fun k hk => gq_k hk, fun j hj => gq_o hj⟩
  · obtain ⟨L', N', k1, k2, k3, k4⟩ := advF_ok (TKb_ok hb)
    have e2 : advF T 0 2 = T 0 2 := advF_at (by decide) (by decide) (by decide) (by decide) (by decide)
    have e3 : advF T 0 3 = T 0 3 := advF_at (by decide) (by decide) (by decide) (by decide) (by decide)
    refine ⟨L', N', k1, k2, k3, k4, ?_, ?_, ?_, fun j hj => ?_⟩
    · rw [gq_o (by omega), h5, ← h3, ← e2, k3]
    · rw [gq_o (by omega), h6, e3]
    · rw [gq_5, hg.1, k4]
    · rw [gq_k (by decide), advF_row (by decide)]
      refine h8 j ?_
      have : L' = L := (nI_eq (by omega) (by omega)).mp (k3.symm.trans (e2.trans h3))
      omega
  · rw [gq_5, gq_6, gq_7, gq_8, gq_9]
    exact hg
theorem TK_kind (ht : TK Q w T) : Q 0 7 = (if T 0 5 = nI 4 ∧ ¬ isSg (T 0 7) then nI 1 else T 0 5) := ht.2.2.2.2.2.1
theorem TK_k (ht : TK Q w T) {k : Int32} (h1 : ¬ k = nI 1) (h4 : ¬ k = nI 4) : (Q 0 7 = k) = (T 0 5 = k) := by
  rw [TK_kind ht]
  apply propext
  by_cases hc : T 0 5 = nI 4 ∧ ¬ isSg (T 0 7)
  · rw [if_pos hc, hc.1]
    exact ⟨fun z => absurd z.symm h1, fun z => absurd z.symm h4⟩
  · rw [if_neg hc]
theorem TK_sign (ht : TK Q w T) {c : Int32} (hc : isSg c) : (Q 0 7 = nI 4 ∧ Q 0 9 = c) = (T 0 5 = nI 4 ∧ T 0 7 = c) := by
  have e9 := ht.2.2.2.2.2.2.2.2
  rw [TK_kind ht]
  apply propext
  by_cases h4 : T 0 5 = nI 4
  · rw [e9 h4]
    by_cases hs : isSg (T 0 7)
    · rw [if_neg (fun z => z.2 hs)]
    · rw [if_pos ⟨h4, hs⟩]
      exact ⟨fun z => absurd z.1 (by decide), fun z => absurd (by rw [z.2]; exact hc) hs⟩
  · rw [if_neg (fun z => h4 z.1)]
    exact ⟨fun z => absurd z.1 h4, fun z => absurd z.1 h4⟩
theorem TK_word (ht : TK Q w T) {k : Nat} (hk : k < 19) : (Q 0 7 = nI 2 ∧ w = wdF (nI k)) = (T 0 8 = nI k) := by
  rw [TK_k ht (by decide) (by decide)]
  apply propext
  have kp := ht.2.2.1
  constructor
  · rintro ⟨h2, hw⟩
    obtain ⟨n, n1, n2, n3⟩ := ht.2.2.2.2.2.2.2.1 h2
    rw [n3, (kw_name k hk).2, name_inj n1 (kw_name k hk).1] at hw
    rcases kp.2 h2 n (by have := name_lt n1; omega) n2 with ⟨j, hj, e1, e2⟩ | ⟨e1, _⟩
    · rw [e2, kw_inj j hj k hk (e1.symm.trans hw)]
    · exact absurd hw (e1 k hk)
  · intro h8
    by_cases h2 : T 0 5 = nI 2
    · refine ⟨h2, ?_⟩
      obtain ⟨n, n1, n2, n3⟩ := ht.2.2.2.2.2.2.2.1 h2
      rcases kp.2 h2 n (by have := name_lt n1; omega) n2 with ⟨j, hj, e1, e2⟩ | ⟨_, e2⟩
      · have : j = k := (nI_eq (by omega) (by omega)).mp (e2.symm.trans h8)
        subst this
        rw [n3, (kw_name j hk).2, e1]
      · rw [e2] at h8
        have z := h8.symm
        rw [nI_m1 (by omega)] at z
        exact absurd z id
    · rw [kp.1 h2] at h8
      have z := h8.symm
      rw [nI_m1 (by omega)] at z
      exact absurd z id
theorem TK_name (ht : TK Q w T) : (Q 0 7 = nI 2 ∧ ∀ k, k < 19 → ¬ w = wdF (nI k)) = (T 0 5 = nI 2 ∧ T 0 8 = -1) := by
  have kw := fun k hk => TK_word ht (k := k) hk
  have kp := ht.2.2.1
  rw [TK_k ht (by decide) (by decide)]
  apply propext
  constructor
  · rintro ⟨h2, hw⟩
    refine ⟨h2, ?_⟩
    obtain ⟨n, n1, n2, n3⟩ := ht.2.2.2.2.2.2.2.1 h2
    rcases kp.2 h2 n (by have := name_lt n1; omega) n2 with ⟨j, hj, e1, e2⟩ | ⟨_, e2⟩
    · have := (kw j hj).mpr e2
      exact absurd this.2 (hw j hj)
    · exact e2
  · rintro ⟨h2, h8⟩
    refine ⟨h2, fun k hk hw => ?_⟩
    have := (kw k hk).mp ⟨by rw [TK_k ht (by decide) (by decide)]; exact h2, hw⟩
    rw [h8] at this
    have z := this.symm
    rw [nI_m1 (by omega)] at z
    exact z
end MTK
