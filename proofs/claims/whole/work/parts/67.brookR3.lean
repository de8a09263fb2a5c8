section MBt
variable {T B : Bk} {G W : Nat} {q : Nat → Int32} {N : Nat → Int64}
theorem cnt_0 {f : Nat → Int32} : ∀ n, (∀ j, j < n → f j = nI 0) → cntP f n = 0 := by
  intro n
  induction n with
  | zero => intro _; exact cnt_z
  | succ n ih =>
    intro h
    rw [cnt_s, ih (fun j hj => h j (by omega)), if_neg (by rw [h n (by omega)]; decide)]
theorem RBB_0 (hq : ∀ j, j < 278 → q j = nI 0) (h0 : B 0 0 = nI 0) (h1 : B 0 1 = nI 0) (h3 : B 0 3 = nI 0) (h6 : ∀ w, w < 8 → B 6 w = nI 0) (hc : ∀ c, c < 48 → B 7 c = nI 0 ∧ B 8 c = nI 0 ∧ B 9 c = nI 0 ∧ B 10 c = nI 0 ∧ B 11 c = nI 0) : RBB 0 0 q N B := by
  refine ⟨Nat.zero_le _, Nat.zero_le _, h0, h1, Or.inl h3, hq 0 (by omega), hq 1 (by omega), ?_, ?_, ?_, ?_, ?_, ?_, ?_, ?_, ?_, ?_, ?_⟩
  · rw [h3]; exact hq 2 (by omega)
  · rw [cnt_0 48 (fun c h => (hc c h).1)]; exact hq 3 (by omega)
  · rw [cnt_0 48 (fun c h => (hc c h).2.2.2.1)]; exact hq 4 (by omega)
  · rw [cnt_0 48 (fun c h => (hc c h).2.2.2.2)]; exact hq 5 (by omega)
  · intro g hg; omega
  · intro w hw; omega
  · intro w hw
    rw [h6 w hw]
    exact ⟨hq _ (by omega), 0, by omega, rfl, fun _ => rfl⟩
  · intro c h
    obtain ⟨a7, a8, a9, a10, a11⟩ := hc c h
    rw [a7, a8, a9, a10, a11]
    exact ⟨hq _ (by omega), hq _ (by omega), hq _ (by omega), hq _ (by omega), hq _ (by omega)⟩
  · intro c h
    obtain ⟨a7, a8, a9, a10, a11⟩ := hc c h
    rw [a7, a8, a9, a10, a11]
    exact ⟨0, 0, 0, 0, 0, ⟨by omega, by omega⟩, by omega, by omega, by omega, by omega, fun _ => rfl, fun _ => ⟨rfl, rfl, rfl⟩, rfl, rfl, rfl, rfl, rfl⟩
  · intro k hk; omega
  · intro k hk; omega
theorem RBB_clear (hq : ∀ j, j < 278 → q j = nI 0) : RBB 0 0 q N (clearBF B) := by
  refine RBB_0 hq ?_ ?_ ?_ (fun w hw => ?_) (fun c hc => ⟨?_, ?_, ?_, ?_, ?_⟩) <;> unfold clearBF <;> simp (disch := omega) only [up_row, up_at, u2_at, upd_at, upd_ne, fill_in]
theorem loop_lnE {n : Nat} (h : ¬ T 0 5 = 0) : rLoopF (n + 1) T B = if (lnE (rLineF (cl (B 0 0)) (cl (B 0 1)) T B)).1 = 0 then (nI 0, (lnE (rLineF (cl (B 0 0)) (cl (B 0 1)) T B)).2) else rLoopF n (lnE (rLineF (cl (B 0 0)) (cl (B 0 1)) T B)).2.1 (u2 (lnE (rLineF (cl (B 0 0)) (cl (B 0 1)) T B)).2.2 0 2 (B 0 2 + nI 1)) := by
  rw [rLoopF]
  rw [if_neg h]
  generalize rLineF (cl (B 0 0)) (cl (B 0 1)) T B = p
  by_cases h1 : p.1 = 0
  · have e : lnE p = (nI 0, p.2) := if_pos h1
    rw [e, if_pos h1]
    dsimp only
    rw [if_pos (show nI 0 = 0 from rfl)]
  · by_cases h2 : sgP (nI 59) p.2.1
    · have e : lnE p = (nI 1, advF p.2.1, p.2.2) := (if_neg h1).trans (if_pos h2)
      rw [e, if_neg h1, if_pos h2]
      dsimp only
      rw [if_neg (show ¬ nI 1 = 0 by decide)]
    · have e : lnE p = (nI 0, failF (nI 1) p.2.1, p.2.2) := (if_neg h1).trans (if_neg h2)
      rw [e, if_neg h1, if_neg h2]
      dsimp only
      rw [if_pos (show nI 0 = 0 from rfl)]
theorem lnE_inv {p : PR} (z : (lnE p).1 = nI 1) : ¬ p.1 = 0 ∧ sgP (nI 59) p.2.1 ∧ lnE p = (nI 1, advF p.2.1, p.2.2) := by
  by_cases h1 : p.1 = 0
  · have e : lnE p = (nI 0, p.2) := if_pos h1
    rw [e] at z
    exact absurd (show nI 0 = nI 1 from z) (by decide)
  · by_cases h2 : sgP (nI 59) p.2.1
    · exact ⟨h1, h2, (if_neg h1).trans (if_pos h2)⟩
    · have e : lnE p = (nI 0, failF (nI 1) p.2.1, p.2.2) := (if_neg h1).trans (if_neg h2)
      rw [e] at z
      exact absurd (show nI 0 = nI 1 from z) (by decide)
end MBt
