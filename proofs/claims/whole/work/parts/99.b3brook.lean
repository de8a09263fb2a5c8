section MBn
variable {T B : Bk}
theorem rLoop_k : ∀ n (T B : Bk), tpOk T → bkOk B → (rLoopF n T B).1 = nI 1 → bkOk (rLoopF n T B).2.2 := by
  intro n
  induction n with
  | zero => intro T B _ hB _; exact hB
  | succ n ih =>
    intro T B hT hB
    by_cases h5 : T 0 5 = 0
    · rw [rLoopF, if_pos h5]
      intro _
      exact hB
    · rw [loop_lnE h5]
      obtain ⟨G, W, g6, w8, b0, b1, bj⟩ := id hB
      rw [b0, b1, cl_nI (by omega), cl_nI (by omega)]
      have q0 := rLineF_ok (T := T) b0 g6 w8 hT hB
      have h1 := line_b (T := T) (B := B) g6 w8
      have hl : KB T (lnE (rLineF G W T B)) := ⟨lnE_10 h1.1, lnE_r h1.2⟩
      generalize rLineF G W T B = p at hl q0 ⊢
      by_cases hp : (lnE p).1 = 0
      · rw [if_pos hp]
        intro z
        exact absurd (show nI 0 = nI 1 from z) (by decide)
      · rw [if_neg hp]
        have z : (lnE p).1 = nI 1 := hl.1.1.elim (fun z => absurd z hp) id
        obtain ⟨z1, z2, z3⟩ := lnE_inv z
        have t1 : tpOk (lnE p).2.1 := by
          rw [z3]
          exact advF_ok q0.1
        have b2 : bkOk (lnE p).2.2 := by
          rw [z3]
          exact q0.2.1
        exact ih _ _ t1 (bk_2 b2)
theorem rFrom_k (hT : ∃ L, L ≤ 940 ∧ T 0 2 = nI L) (h : (rFromF T B).1 = nI 1) : (rFromF T B).2.2 0 3 = 0 ∨ (rFromF T B).2.2 0 3 = 1 := by
  have b0 : bkOk (clearBF B) := by
    unfold clearBF
    refine ⟨0, 0, by decide, by decide, ?_, ?_, Or.inl ?_⟩ <;> simp (disch := omega) only [up_row, u2_at, upd_at, upd_ne] <;> rfl
  have key : bkOk (rFromF T B).2.2 := by
    have hh : (rLoopF 900 (openF (nI 900) T) (clearBF B)).1 = nI 1 := h
    exact rLoop_k 900 _ _ (advF_ok (open_ok hT)) b0 hh
  obtain ⟨_, _, _, _, _, _, k⟩ := key
  exact k
end MBn
