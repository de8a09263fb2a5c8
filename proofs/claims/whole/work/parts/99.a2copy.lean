section MCp
variable {B R V Q P S : Bk} {G W M n : Nat}
theorem cpP_eq {Q2 : Bk} : eqP Q2 (copyPF Q Q2) := by
  unfold copyPF
  refine ⟨?_, fun r j h1 h2 hj => ?_⟩
  · simp (disch := omega) only [up_row, u2_at, upd_at]
  · have hc : r = 1 ∨ r = 2 ∨ r = 3 ∨ r = 4 ∨ r = 5 ∨ r = 6 := by omega
    rcases hc with rfl | rfl | rfl | rfl | rfl | rfl <;> simp (disch := omega) only [up_row, up_at, cpy_in]
theorem cpSe_eq {S2 : Bk} : eqS S2 (copySF S S2) := by
  unfold copySF
  refine ⟨?_, ?_, fun j hj => ⟨?_, ?_, ?_⟩⟩
  · simp (disch := omega) only [up_row, u2_at, upd_at, upd_ne]
  · simp (disch := omega) only [up_row, u2_at, upd_at, upd_ne]
  all_goals simp (disch := omega) only [up_row, up_at, cpy_in]
theorem cpRn_eq {R2 : Bk} : eqR R2 (copyRF R R2) := by
  unfold copyRF
  refine ⟨?_, fun k j h1 h2 hj => ?_⟩
  · simp (disch := omega) only [up_row, u2_at, upd_at]
  · have hc : k = 1 ∨ k = 2 ∨ k = 3 ∨ k = 4 ∨ k = 5 ∨ k = 6 ∨ k = 7 ∨ k = 8 ∨ k = 9 ∨ k = 10 ∨ k = 11 := by omega
    rcases hc with rfl | rfl | rfl | rfl | rfl | rfl | rfl | rfl | rfl | rfl | rfl
    · rw [show szR 6 1 = 48 by decide] at hj
      simp (disch := omega) only [up_row, up_at, cpy_in]
    · rw [show szR 6 2 = 48 by decide] at hj
      simp (disch := omega) only [up_row, up_at, cpy_in]
    · rw [show szR 6 3 = 48 by decide] at hj
      simp (disch := omega) only [up_row, up_at, cpy_in]
    · rw [show szR 6 4 = 48 by decide] at hj
      simp (disch := omega) only [up_row, up_at, cpy_in]
    · rw [show szR 6 5 = 6 by decide] at hj
      simp (disch := omega) only [up_row, up_at, cpy_in]
    · rw [show szR 6 6 = 6 by decide] at hj
      simp (disch := omega) only [up_row, up_at, cpy_in]
    · rw [show szR 6 7 = 6 by decide] at hj
      simp (disch := omega) only [up_row, up_at, cpy_in]
    · rw [show szR 6 8 = 8 by decide] at hj
      simp (disch := omega) only [up_row, up_at, cpy_in]
    · rw [show szR 6 9 = 8 by decide] at hj
      simp (disch := omega) only [up_row, up_at, cpy_in]
    · rw [show szR 6 10 = 8 by decide] at hj
      simp (disch := omega) only [up_row, up_at, cpy_in]
    · rw [show szR 6 11 = 36 by decide] at hj
      simp (disch := omega) only [up_row, up_at, cpy_in]
/-- what is made in 200 HOURS at most is a small number -/
theorem tot_nn (w8 : W ≤ 8) (hn : n ≤ 200) (h : HB G W M n B V R) (hB : ∀ w, w < W → ∃ k, k ≤ 99 ∧ B 6 w = nI k) : ∃ k, k ≤ 158400 ∧ totF W B R = nI k := by
  have key : ∀ w, w ≤ W → ∃ k, k ≤ 19800 * w ∧ fo w (fun w s => s + R 8 w * B 6 w) (nI 0) = nI k := by
    intro w
    induction w with
    | zero => intro _; exact ⟨0, by omega, rfl⟩
    | succ w ih =>
      intro hw
      obtain ⟨k, k1, k2⟩ := ih (by omega)
      obtain ⟨_, a, a1, a2, _⟩ := h.2.2.2.2.2.2.2.2 w (by omega)
      obtain ⟨b, b1, b2⟩ := hB w (by omega)
      refine ⟨k + a * b, ?_, ?_⟩
      · have : a * b ≤ 200 * 99 := Nat.mul_le_mul (by omega) b1
        omega
      · rw [fo_s, k2, a2, b2, nI_mul, nI_add]
  obtain ⟨k, k1, k2⟩ := key W (Nat.le_refl W)
  exact ⟨k, by omega, k2⟩
end MCp
