section MBl
variable {T B : Bk}
theorem bk_2 {x : Int32} (h : bkOk B) : bkOk (u2 B 0 2 x) := by
  obtain ⟨G1, W1, k1, k2, k3, k4, k5⟩ := h
  refine ⟨G1, W1, k1, k2, ?_, ?_, ?_⟩ <;> rw [u2_at, upd_ne (by decide)]
  · exact k3
  · exact k4
  · exact k5
theorem rLoop_b : ∀ n (T B : Bk), tpOk T → bkOk B → KB T (rLoopF n T B) := by
  intro n
  induction n with
  | zero => intro T B _ _; exact KB_1 rfl rfl
  | succ n ih =>
    intro T B hT hB
    by_cases h5 : T 0 5 = 0
    · rw [rLoopF, if_pos h5]
      exact KB_1 rfl rfl
    · rw [loop_lnE h5]
      obtain ⟨G, W, g6, w8, b0, b1, bj⟩ := id hB
      rw [b0, b1, cl_nI (by omega), cl_nI (by omega)]
      have h1 := line_b (T := T) (B := B) g6 w8
      have hl : KB T (lnE (rLineF G W T B)) := ⟨lnE_10 h1.1, lnE_r h1.2⟩
      have q0 := rLineF_ok (T := T) b0 g6 w8 hT hB
      generalize rLineF G W T B = p at hl q0 ⊢
      refine ite_b (fun _ => KB_0 hl.2) (fun hp => ?_)
      have hs := KB_s hl hp
      have z : (lnE p).1 = nI 1 := hl.1.1.elim (fun z => absurd z hp) id
      obtain ⟨z1, z2, z3⟩ := lnE_inv z
      have t1 : tpOk (lnE p).2.1 := by
        rw [z3]
        exact advF_ok q0.1
      have b2 : bkOk (lnE p).2.2 := by
        rw [z3]
        exact q0.2.1
      exact KB_t (ih _ _ t1 (bk_2 b2)) hs.1 hs.2
theorem rFrom_b (hT : ∃ L, L ≤ 940 ∧ T 0 2 = nI L) : ((rFromF T B).1 = nI 0 ∨ (rFromF T B).1 = nI 1) ∧ ((rFromF T B).1 = nI 1 → (rFromF T B).2.1 0 10 = nI 0) ∧ (rFromF T B).2.1 2 = T 2 := by
  have b0 : bkOk (clearBF B) := by
    unfold clearBF
    refine ⟨0, 0, by decide, by decide, ?_, ?_, Or.inl ?_⟩ <;> simp (disch := omega) only [up_row, u2_at, upd_at, upd_ne] <;> rfl
  have key : KB (openF (nI 900) T) (rFromF T B) := by
    unfold rFromF
    exact rLoop_b 900 _ _ (advF_ok (open_ok hT)) b0
  generalize rFromF T B = F at key ⊢
  refine ⟨key.1.1, fun z => (key.1.2 z).trans open_10, ?_⟩
  have e : openF (nI 900) T 2 = T 2 := by
    unfold openF
    rw [adv_r]
    simp (disch := omega) only [u2_row]
  exact key.2.trans e
end MBl
