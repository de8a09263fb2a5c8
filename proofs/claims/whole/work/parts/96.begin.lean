section MBg
variable {X : mC} {h x m : Nat} {μ : Mem} {K : MV → Mem → Prop} {B R V Q : Bk} {G W M n : Nat}
theorem HB_rb (w8 : W ≤ 8) (g6 : G ≤ 6) (h : HB G W M n B V R) : HB G W M n B (sv (rb 2 621 Q V 2)) R :=
  HB_eq h w8 g6 eqB_r eqR_r (fun k j a b c hk hj => by
    have e := ek_lt a b c hk hj
    show rb 2 621 Q V 2 (621 + ek k j) = V k j
    rw [rb_seg e.2.2, e.2.1])
/-- the RUN changes, on both sides -/
theorem Rel_run {R' Q' : Bk} (hx : x + 164 = m) (h : Rel x m μ) (rb' : RBB G W (μ.1 (m + 2)) (μ.2 (m + 6)) (bk μ (x + 4))) (pl : PL G W (bk μ (x + 28)) (μ.1 (m + 2))) (sn : SN (bk μ (x + 42)) (μ.1 (m + 2))) (hrn : RN G W (bk μ (x + 4)) R' (Q' 2)) (hq : ∀ j, j < 621 → Q' 2 j = μ.1 (m + 2) j) (h1 : ∀ k, k = 1 ∨ k = 5 ∨ k = 9 ∨ k = 18 → Q' k = μ.1 (m + k)) (h0 : ∀ j, j = 2 ∨ j = 10 ∨ j = 33 ∨ j = 35 ∨ j = 38 → Q' 0 j = μ.1 m j) : Rel x m (sb (sb μ (x + 50) 12 R') m 21 Q') := by
  have e : ∀ k, k < 21 → (sb (sb μ (x + 50) 12 R') m 21 Q').1 (m + k) = Q' k := fun k hk => sb_in hk
  have e0 : (sb (sb μ (x + 50) 12 R') m 21 Q').1 m = Q' 0 := e 0 (by omega)
  have o : ∀ i, (i < 50 ∨ 62 ≤ i) → i < 164 → (sb (sb μ (x + 50) 12 R') m 21 Q').1 (x + i) = μ.1 (x + i) := fun i h4 hi => by rw [sb_out (by omega), sb_out (by omega)]
  have ob : ∀ a k, a + 12 ≤ 50 → k < 12 → bk (sb (sb μ (x + 50) 12 R') m 21 Q') (x + a) k = bk μ (x + a) k := fun a k ha hk => by
    show (sb (sb μ (x + 50) 12 R') m 21 Q').1 (x + a + k) = μ.1 (x + a + k)
    rw [Nat.add_assoc]
    exact o _ (by omega) (by omega)
  have rr : ∀ k, k < 12 → bk (sb (sb μ (x + 50) 12 R') m 21 Q') (x + 50) k = R' k := fun k hk => by
    show (sb (sb μ (x + 50) 12 R') m 21 Q').1 (x + 50 + k) = R' k
    rw [sb_out (by omega), sb_in hk]
  have ox : (sb (sb μ (x + 50) 12 R') m 21 Q').1 x = μ.1 x := by rw [sb_out (by omega), sb_out (by omega)]
  have eB : eqB (bk μ (x + 4)) (bk (sb (sb μ (x + 50) 12 R') m 21 Q') (x + 4)) := eqB_k (fun k hk => ob 4 k (by omega) hk)
  obtain ⟨r1, r2, r3, r4, r5, r6, r7, r8⟩ := h
  refine ⟨RTp_k r1 (by rw [o 1 (by omega) (by omega)]) (by rw [e0]; exact h0 2 (by omega)) (by rw [e 1 (by omega)]; exact h1 1 (by omega)) (o 2 (by omega) (by omega)), RKw_k r2 (o 3 (by omega) (by omega)), ⟨G, W, RBB_eq rb' eB (fun j hj => by rw [e 2 (by omega)]; exact hq j (by omega)) (fun _ _ => rfl), PL_eq pl (eqP_k (fun k hk => ob 28 k (by omega) (by omega))) (fun j hj => by rw [e 2 (by omega)]; exact hq j hj), SN_eq sn (eqS_k (fun k hk => by
      show (sb (sb μ (x + 50) 12 R') m 21 Q').1 (x + 42 + k) = μ.1 (x + 42 + k)
      rw [Nat.add_assoc]
      exact o _ (by omega) (by omega))) (fun j _ hj => by rw [e 2 (by omega)]; exact hq j hj), RN_eq hrn rb'.g6 rb'.w8 eB (eqR_k rr) (fun j _ _ => by rw [e 2 (by omega)])⟩, fun k hk => RIm_k hk (r4 k hk) (fun i h87 hi => o i (by omega) (by omega)) (by rw [e 5 (by omega)]; exact h1 5 (by omega)) rfl (by rw [e 9 (by omega)]; exact h1 9 (by omega)), RTx_k r5 (by rw [o 159 (by omega) (by omega)]) (by rw [e0]; exact h0 38 (by omega)) (o 160 (by omega) (by omega)) (by rw [e 18 (by omega)]; exact h1 18 (by omega)), RWo_k r6 (by rw [ox]) (by rw [e0]; exact h0 33 (by omega)) rfl rfl rfl rfl, ?_, ?_⟩
  · rw [ox, e0, h0 35 (by omega)]; exact r7
  · rw [ox, e0, h0 10 (by omega)]; exact r8
end MBg
