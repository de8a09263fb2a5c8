/-! STATES that come again: of a relation that goes on with time -/
section MAg
variable {L : Nat → Nat → Prop}
/-- the class's period: the least way back to the STATE behind HOUR 199 -/
def pdF (L : Nat → Nat → Prop) (p : Nat) : Prop := (p = 0 ∧ ∀ h, h < 188 → (199 - h) % 12 = 0 → ¬ L h 199) ∨ (12 ≤ p ∧ p ≤ 199 ∧ p % 12 = 0 ∧ L (199 - p) 199 ∧ ∀ h, 199 - p < h → h < 188 → (199 - h) % 12 = 0 → ¬ L h 199)
theorem ag_shift (hs : ∀ i j, i < 1000 → j < 1000 → L i j → L (i + 1) (j + 1)) : ∀ t i j, i + t < 1000 → j + t < 1000 → L i j → L (i + t) (j + t) := by
  intro t
  induction t with
  | zero => intro i j _ _ h; exact h
  | succ t ih => intro i j h1 h2 h; exact hs (i + t) (j + t) (by omega) (by omega) (ih i j (by omega) (by omega) h)
theorem ag_mult (ht : ∀ i j k, L i j → L j k → L i k) (hr : ∀ i, L i i) (hs : ∀ i j, i < 1000 → j < 1000 → L i j → L (i + 1) (j + 1)) {m p : Nat} (h : L m (m + p)) : ∀ k i, m + i + k * p < 1000 → L (m + i) (m + i + k * p) := by
  intro k
  induction k with
  | zero => intro i _; rw [Nat.zero_mul, Nat.add_zero]; exact hr _
  | succ k ih =>
    intro i hi
    rw [Nat.succ_mul] at hi
    have a := ih i (by omega)
    have b := ag_shift hs (i + k * p) m (m + p) (by omega) (by omega) h
    rw [show m + (i + k * p) = m + i + k * p by omega, show m + p + (i + k * p) = m + i + (k * p + p) by omega] at b
    rw [Nat.succ_mul]
    exact ht _ _ _ a b
/-- the reference's first pair has the class's period -/
theorem ag_main (hy : ∀ i j, L i j → L j i) (ht : ∀ i j k, L i j → L j k → L i k) (hr : ∀ i, L i i) (hs : ∀ i j, i < 1000 → j < 1000 → L i j → L (i + 1) (j + 1)) (hm : ∀ i j, L i j → i % 12 = j % 12) {p : Nat} (hp : pdF L p) :
    (p = 0 → ∀ m q, 1 ≤ q → m + q < 200 → ¬ L m (m + q)) ∧ (¬ p = 0 → ∀ m q, 1 ≤ q → m + q < 200 → L m (m + q) → (∀ q', 1 ≤ q' → q' < q → ¬ L m (m + q')) → q = p ∧ L m (m + p)) ∧ (¬ p = 0 → ∃ m, m + p < 200 ∧ L m (m + p)) := by
  have back : ∀ m q, 1 ≤ q → m + q < 200 → L m (m + q) → q % 12 = 0 ∧ 12 ≤ q ∧ L (199 - q) 199 := fun m q h1 h2 h => by
    have a := hm _ _ h
    have b := ag_shift hs (199 - (m + q)) m (m + q) (by omega) (by omega) h
    rw [show m + (199 - (m + q)) = 199 - q by omega, show m + q + (199 - (m + q)) = 199 by omega] at b
    exact ⟨by omega, by omega, b⟩
  refine ⟨fun p0 m q h1 h2 h => ?_, fun p0 m q h1 h2 h hmin => ?_, fun p0 => ?_⟩
  · obtain ⟨a, b, c⟩ := back m q h1 h2 h
    rcases hp with ⟨_, z⟩ | ⟨z, _⟩
    · exact z (199 - q) (by omega) (by omega) c
    · omega
  · obtain ⟨a, b, c⟩ := back m q h1 h2 h
    rcases hp with ⟨z, _⟩ | ⟨z1, z2, z3, z4, z5⟩
    · exact absurd z p0
    · have pq : p ≤ q := by
        by_cases hc : p ≤ q
        · exact hc
        · exact absurd c (z5 (199 - q) (by omega) (by omega) (by omega))
      -- L (199 - p) 199, and m on goes round by q
      have hk : ∃ k t, m + k * q = 199 - p + t ∧ t < q + 1 ∧ 199 - p + t ≤ 199 + q := by
        refine ⟨(199 - p - m) / q + 1, ((199 - p - m) / q + 1) * q - (199 - p - m), ?_, ?_, ?_⟩
        all_goals
          have d := Nat.div_add_mod (199 - p - m) q
          have e := Nat.mod_lt (199 - p - m) (show 0 < q by omega)
          rw [Nat.mul_comm] at d
          rw [Nat.add_mul, Nat.one_mul]
          generalize (199 - p - m) / q * q = y at d ⊢
          omega
      obtain ⟨k, t, k1, k2, k3⟩ := hk
      have s1 := ag_shift hs t (199 - p) 199 (by omega) (by omega) z4
      have s2 := ag_mult ht hr hs h k 0 (by omega)
      have s3 := ag_mult ht hr hs h k p (by omega)
      rw [Nat.add_zero, k1] at s2
      rw [show m + p + k * q = 199 + t by omega] at s3
      have lp : L m (m + p) := ht _ _ _ (ht _ _ _ s2 s1) (hy _ _ s3)
      have qp : q ≤ p := by
        by_cases hc : q ≤ p
        · exact hc
        · exact absurd lp (hmin p (by omega) (by omega))
      exact ⟨by omega, lp⟩
  · rcases hp with ⟨z, _⟩ | ⟨z1, z2, z3, z4, z5⟩
    · exact absurd z p0
    · refine ⟨199 - p, by omega, ?_⟩
      rw [show 199 - p + p = 199 by omega]
      exact z4
end MAg
