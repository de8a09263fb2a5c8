/-! Rel: class (WasteBrook at x) and reference (at m) between two calls -/
def WR (a b s f : Int64) : Prop := 1 ≤ f.toInt ∧ f.toInt ≤ 40320 ∧ -(2 ^ 60) ≤ s.toInt ∧ s.toInt ≤ 2 ^ 60 ∧ a.toInt * (Int.gcd s.toInt f.toInt : Int) = s.toInt ∧ b.toInt * (Int.gcd s.toInt f.toInt : Int) = f.toInt
def RTp (x m : Nat) (μ : Mem) : Prop := ∃ L, L ≤ 940 ∧ μ.1 (x + 1) 2 = nI L ∧ μ.1 m 2 = nI L ∧ ∀ j, j < L → μ.1 (m + 1) j = μ.1 (x + 2) j
def RKw (x : Nat) (μ : Mem) : Prop := ∀ k, k < 19 → μ.1 (x + 3) k = nI (kwN k)
def RSt (x m : Nat) (μ : Mem) : Prop := ST (bk μ (x + 4)) (bk μ (x + 28)) (bk μ (x + 42)) (bk μ (x + 50)) (μ.1 (m + 2)) (μ.2 (m + 6))
def RIm (x m k : Nat) (μ : Mem) : Prop := (μ.1 (x + 87 + 36 * k) 0 = nI 0 ∧ μ.1 (m + 9) k = nI 0) ∨ (μ.1 (x + 87 + 36 * k) 0 = nI 1 ∧ μ.1 (m + 9) k = nI 1 ∧ ST (bk μ (x + 88 + 36 * k)) (bk μ (x + 100 + 36 * k)) (bk μ (x + 107 + 36 * k)) (bk μ (x + 111 + 36 * k)) (fun j => μ.1 (m + 5) (925 * k + j)) (fun j => μ.2 (m + 8) (14 * k + j)))
def RTx (x m : Nat) (μ : Mem) : Prop := ∃ n, n ≤ 136 ∧ μ.1 (x + 159) 1 = nI n ∧ μ.1 m 38 = nI n ∧ ∀ j, j < n → μ.1 (x + 160) j = μ.1 (m + 18) j
def RWo (x m : Nat) (μ : Mem) : Prop := ∃ n, n ≤ 8 ∧ μ.1 x 15 = nI n ∧ μ.1 m 33 = nI n ∧ ∀ w, w < n → WR (μ.2 (x + 162) w) (μ.2 (x + 163) w) (μ.2 (m + 17) w) (μ.2 m 34)
def Rel (x m : Nat) (μ : Mem) : Prop := RTp x m μ ∧ RKw x μ ∧ RSt x m μ ∧ (∀ k, k < 2 → RIm x m k μ) ∧ RTx x m μ ∧ RWo x m μ ∧ μ.1 x 16 = μ.1 m 35 ∧ μ.1 x 17 = μ.1 m 10
section MRy
variable {x m : Nat} {μ μ' : Mem}
theorem bk_eq {i n : Nat} (h : ∀ k, k < n → μ'.1 (i + k) = μ.1 (i + k)) : ∀ k, k < n → bk μ' i k = bk μ i k := h
theorem eqB_k {B B' : Bk} (h : ∀ k, k < 12 → B' k = B k) : eqB B B' := by
  refine ⟨fun j _ => by rw [h 0 (by omega)], fun j _ => ⟨by rw [h 1 (by omega)], by rw [h 3 (by omega)]⟩, fun j _ => ⟨by rw [h 2 (by omega)], by rw [h 4 (by omega)], by rw [h 5 (by omega)], by rw [h 6 (by omega)]⟩, fun j _ => ⟨by rw [h 7 (by omega)], by rw [h 8 (by omega)], by rw [h 9 (by omega)], by rw [h 10 (by omega)], by rw [h 11 (by omega)]⟩⟩
theorem eqP_k {B B' : Bk} (h : ∀ k, k < 7 → B' k = B k) : eqP B B' := ⟨by rw [h 0 (by omega)], fun r j _ h2 _ => by rw [h r (by omega)]⟩
theorem eqS_k {B B' : Bk} (h : ∀ k, k < 4 → B' k = B k) : eqS B B' := ⟨by rw [h 0 (by omega)], by rw [h 0 (by omega)], fun j _ => ⟨by rw [h 1 (by omega)], by rw [h 2 (by omega)], by rw [h 3 (by omega)]⟩⟩
theorem eqR_k {B B' : Bk} (h : ∀ k, k < 12 → B' k = B k) : eqR B B' := ⟨by rw [h 0 (by omega)], fun k j _ h2 _ => by rw [h k (by omega)]⟩
theorem RTp_k (h : RTp x m μ) (h1 : μ'.1 (x + 1) 2 = μ.1 (x + 1) 2) (h2 : μ'.1 m 2 = μ.1 m 2) (h3 : μ'.1 (m + 1) = μ.1 (m + 1)) (h4 : μ'.1 (x + 2) = μ.1 (x + 2)) : RTp x m μ' := by
  unfold RTp at h ⊢
  rw [h1, h2, h3, h4]
  exact h
theorem RKw_k (h : RKw x μ) (h1 : μ'.1 (x + 3) = μ.1 (x + 3)) : RKw x μ' := by
  unfold RKw at h ⊢
  rw [h1]
  exact h
theorem RSt_k (h : RSt x m μ) (h1 : ∀ i, (4 ≤ i ∧ i < 16) ∨ (28 ≤ i ∧ i < 35) ∨ (42 ≤ i ∧ i < 46) ∨ (50 ≤ i ∧ i < 62) → μ'.1 (x + i) = μ.1 (x + i)) (h2 : μ'.1 (m + 2) = μ.1 (m + 2)) (h3 : μ'.2 (m + 6) = μ.2 (m + 6)) : RSt x m μ' := by
  unfold RSt at h ⊢
  have e : ∀ a n, ((4 ≤ a ∧ a + n ≤ 16) ∨ (28 ≤ a ∧ a + n ≤ 35) ∨ (42 ≤ a ∧ a + n ≤ 46) ∨ (50 ≤ a ∧ a + n ≤ 62)) → ∀ k, k < n → bk μ' (x + a) k = bk μ (x + a) k := fun a n ha k hk => by
    show μ'.1 (x + a + k) = μ.1 (x + a + k)
    rw [Nat.add_assoc]
    exact h1 (a + k) (by omega)
  exact ST_eq h (eqB_k (e 4 12 (by omega))) (eqP_k (e 28 7 (by omega))) (eqS_k (e 42 4 (by omega))) (eqR_k (e 50 12 (by omega))) (fun j _ => by rw [h2]) (fun j _ => by rw [h3])
theorem RIm_k {k : Nat} (hk : k < 2) (h : RIm x m k μ) (h1 : ∀ i, 87 ≤ i → i < 159 → μ'.1 (x + i) = μ.1 (x + i)) (h2 : μ'.1 (m + 5) = μ.1 (m + 5)) (h3 : μ'.2 (m + 8) = μ.2 (m + 8)) (h4 : μ'.1 (m + 9) = μ.1 (m + 9)) : RIm x m k μ' := by
  have e0 : μ'.1 (x + 87 + 36 * k) = μ.1 (x + 87 + 36 * k) := by
    rw [Nat.add_assoc]
    exact h1 _ (by omega) (by omega)
  have e : ∀ a n, 88 ≤ a → a + n ≤ 123 → ∀ j, j < n → bk μ' (x + a + 36 * k) j = bk μ (x + a + 36 * k) j := fun a n ha hn j hj => by
    show μ'.1 (x + a + 36 * k + j) = μ.1 (x + a + 36 * k + j)
    rw [Nat.add_assoc, Nat.add_assoc]
    exact h1 _ (by omega) (by omega)
  unfold RIm at h ⊢
  rw [e0, h2, h3, h4]
  rcases h with h | ⟨a, b, c⟩
  · exact Or.inl h
  · exact Or.inr ⟨a, b, ST_eq c (eqB_k (e 88 12 (by omega) (by omega))) (eqP_k (e 100 7 (by omega) (by omega))) (eqS_k (e 107 4 (by omega) (by omega))) (eqR_k (e 111 12 (by omega) (by omega))) (fun j _ => rfl) (fun j _ => rfl)⟩
theorem RTx_k (h : RTx x m μ) (h1 : μ'.1 (x + 159) 1 = μ.1 (x + 159) 1) (h2 : μ'.1 m 38 = μ.1 m 38) (h3 : μ'.1 (x + 160) = μ.1 (x + 160)) (h4 : μ'.1 (m + 18) = μ.1 (m + 18)) : RTx x m μ' := by
  unfold RTx at h ⊢
  rw [h1, h2, h3, h4]
  exact h
theorem RWo_k (h : RWo x m μ) (h1 : μ'.1 x 15 = μ.1 x 15) (h2 : μ'.1 m 33 = μ.1 m 33) (h3 : μ'.2 (x + 162) = μ.2 (x + 162)) (h4 : μ'.2 (x + 163) = μ.2 (x + 163)) (h5 : μ'.2 (m + 17) = μ.2 (m + 17)) (h6 : μ'.2 m 34 = μ.2 m 34) : RWo x m μ' := by
  unfold RWo at h ⊢
  rw [h1, h2, h3, h4, h5, h6]
  exact h
/-- the reference's own rows change where nothing looks at them -/
theorem Rel_ref {Q : Bk} (hx : x + 164 = m) (h : Rel x m μ) (h1 : ∀ k, k = 1 ∨ k = 2 ∨ k = 5 ∨ k = 9 ∨ k = 18 → Q k = μ.1 (m + k)) (h0 : ∀ j, j = 2 ∨ j = 10 ∨ j = 33 ∨ j = 35 ∨ j = 38 → Q 0 j = μ.1 m j) : Rel x m (sb μ m 21 Q) := by
  have e : ∀ k, k < 21 → (sb μ m 21 Q).1 (m + k) = Q k := fun k hk => sb_in hk
  have e0 : (sb μ m 21 Q).1 m = Q 0 := e 0 (by omega)
  have o : ∀ i, i < 164 → (sb μ m 21 Q).1 (x + i) = μ.1 (x + i) := fun i hi => sb_out (by omega)
  have ox : (sb μ m 21 Q).1 x = μ.1 x := sb_out (by omega)
  obtain ⟨r1, r2, r3, r4, r5, r6, r7, r8⟩ := h
  refine ⟨RTp_k r1 (by rw [o 1 (by omega)]) (by rw [e0]; exact h0 2 (by omega)) (by rw [e 1 (by omega)]; exact h1 1 (by omega)) (o 2 (by omega)), RKw_k r2 (o 3 (by omega)), RSt_k r3 (fun i hi => o i (by omega)) (by rw [e 2 (by omega)]; exact h1 2 (by omega)) rfl, fun k hk => RIm_k hk (r4 k hk) (fun i _ hi => o i (by omega)) (by rw [e 5 (by omega)]; exact h1 5 (by omega)) rfl (by rw [e 9 (by omega)]; exact h1 9 (by omega)), RTx_k r5 (by rw [o 159 (by omega)]) (by rw [e0]; exact h0 38 (by omega)) (o 160 (by omega)) (by rw [e 18 (by omega)]; exact h1 18 (by omega)), RWo_k r6 (by rw [ox]) (by rw [e0]; exact h0 33 (by omega)) rfl rfl rfl rfl, ?_, ?_⟩
  · rw [ox, e0, h0 35 (by omega)]; exact r7
  · rw [ox, e0, h0 10 (by omega)]; exact r8
/-- the class's scratch rows change -/
theorem Rel_cls {i n : Nat} {R : Bk} (hx : x + 164 = m) (h : Rel x m μ) (hi : (16 ≤ i ∧ i + n ≤ 28) ∨ (35 ≤ i ∧ i + n ≤ 42) ∨ (46 ≤ i ∧ i + n ≤ 50) ∨ (62 ≤ i ∧ i + n ≤ 87) ∨ (161 ≤ i ∧ i + n ≤ 162)) : Rel x m (sb μ (x + i) n R) := by
  have o : ∀ j, (j < i ∨ i + n ≤ j) → (sb μ (x + i) n R).1 (x + j) = μ.1 (x + j) := fun j hj => sb_out (by omega)
  have ox : (sb μ (x + i) n R).1 x = μ.1 x := sb_out (by omega)
  have om : ∀ j, (sb μ (x + i) n R).1 (m + j) = μ.1 (m + j) := fun j => sb_out (by omega)
  have om0 : (sb μ (x + i) n R).1 m = μ.1 m := sb_out (by omega)
  obtain ⟨r1, r2, r3, r4, r5, r6, r7, r8⟩ := h
  refine ⟨RTp_k r1 (by rw [o 1 (by omega)]) (by rw [om0]) (om 1) (o 2 (by omega)), RKw_k r2 (o 3 (by omega)), RSt_k r3 (fun j hj => o j (by omega)) (om 2) rfl, fun k hk => RIm_k hk (r4 k hk) (fun j _ hj => o j (by omega)) (om 5) rfl (om 9), RTx_k r5 (by rw [o 159 (by omega)]) (by rw [om0]) (o 160 (by omega)) (om 18), RWo_k r6 (by rw [ox]) (by rw [om0]) rfl rfl rfl rfl, ?_, ?_⟩
  · rw [ox, om0]; exact r7
  · rw [ox, om0]; exact r8
end MRy
