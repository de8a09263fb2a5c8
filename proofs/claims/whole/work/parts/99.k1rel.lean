/-! the memory at the start -/
def mu0 : Mem := (glue (fun _ => 0) [(164, vB), (21, vM), (1, fun _ => fun _ => 0)], fun _ _ => 0)
theorem mu_q (j : Nat) : mu0.1 166 j = nI 0 := rfl
theorem mu_q5 (j : Nat) : mu0.1 173 j = nI 0 := rfl
set_option maxRecDepth 20000 in
theorem Rel_mu0 : Rel 0 164 mu0 := by
  refine ⟨⟨0, by omega, rfl, rfl, fun j hj => by omega⟩, fun k hk => rfl, ⟨0, 0, ?_, ⟨0, by omega, rfl, rfl, fun i hi => by omega⟩, Or.inl ⟨rfl, rfl⟩, Or.inl ⟨rfl, rfl⟩⟩, ?_, ⟨0, by omega, rfl, rfl, fun j hj => by omega⟩, ⟨0, by omega, rfl, rfl, fun j hj => by omega⟩, rfl, rfl⟩
  · exact RBB_0 (fun j _ => mu_q j) rfl rfl rfl (fun w _ => rfl) (fun c _ => ⟨rfl, rfl, rfl, rfl, rfl⟩)
  · intro k hk
    have hc : k = 0 ∨ k = 1 := by omega
    rcases hc with rfl | rfl
    · exact Or.inl ⟨rfl, rfl⟩
    · exact Or.inl ⟨rfl, rfl⟩
