/-! the class's scratch rows change, nothing else -/
def frZ (x : Nat) (μ μ1 : Mem) : Prop := μ1.2 = μ.2 ∧ ∀ i, (i < 16 ∨ (28 ≤ i ∧ i < 35) ∨ (42 ≤ i ∧ i < 46) ∨ (50 ≤ i ∧ i < 62) ∨ (87 ≤ i ∧ i ≠ 161)) → μ1.1 (x + i) = μ.1 (x + i)
section MFc
variable {X : mC} {h x m : Nat} {μ μ1 μ2 : Mem} {K : MV → Mem → Prop}
theorem frZ_r : frZ x μ μ := ⟨rfl, fun _ _ => rfl⟩
theorem frZ_t (h : frZ x μ μ1) (h2 : frZ x μ1 μ2) : frZ x μ μ2 := ⟨h2.1.trans h.1, fun i hi => (h2.2 i hi).trans (h.2 i hi)⟩
theorem frZ_sb {i n : Nat} {R : Bk} (h : frZ x μ μ1) (hi : (16 ≤ i ∧ i + n ≤ 28) ∨ (35 ≤ i ∧ i + n ≤ 42) ∨ (46 ≤ i ∧ i + n ≤ 50) ∨ (62 ≤ i ∧ i + n ≤ 87) ∨ (161 ≤ i ∧ i + n ≤ 162)) : frZ x μ (sb μ1 (x + i) n R) := ⟨h.1, fun j hj => by rw [sb_out (by omega)]; exact h.2 j hj⟩
theorem frZ_up {i j : Nat} {v : Int32} (h : frZ x μ μ1) (hi : (16 ≤ i ∧ i < 28) ∨ (62 ≤ i ∧ i < 87) ∨ i = 161) : frZ x μ (upI μ1 (x + i) j v) := ⟨h.1, fun k hk => by
  show va_up μ1.1 (x + i) (upd (μ1.1 (x + i)) j v) (x + k) = _
  rw [up_off (x + k) (by omega)]
  exact h.2 k hk⟩
theorem frZ_m (hx : x + 164 = m) (h : frZ x μ μ1) (j : Nat) : μ1.1 (m + j) = μ.1 (m + j) := by
  have e := h.2 (164 + j) (by omega)
  rw [← Nat.add_assoc, hx] at e
  exact e
theorem Rel_frZ (hx : x + 164 = m) (hr : Rel x m μ) (h : frZ x μ μ1) : Rel x m μ1 := by
  have o := h.2
  have om := frZ_m hx h
  have ox : μ1.1 x = μ.1 x := o 0 (by omega)
  have om0 : μ1.1 m = μ.1 m := om 0
  obtain ⟨r1, r2, r3, r4, r5, r6, r7, r8⟩ := hr
  refine ⟨RTp_k r1 (by rw [o 1 (by omega)]) (by rw [om0]) (om 1) (o 2 (by omega)), RKw_k r2 (o 3 (by omega)), RSt_k r3 (fun j hj => o j (by omega)) (om 2) (by rw [h.1]), fun k hk => RIm_k hk (r4 k hk) (fun j _ hj => o j (by omega)) (om 5) (by rw [h.1]) (om 9), RTx_k r5 (by rw [o 159 (by omega)]) (by rw [om0]) (o 160 (by omega)) (om 18), RWo_k r6 (by rw [ox]) (by rw [om0]) (by rw [h.1]) (by rw [h.1]) (by rw [h.1]) (by rw [h.1]), ?_, ?_⟩
  · rw [ox, om0]; exact r7
  · rw [ox, om0]; exact r8
/-- class (its scratch rows change), then reference (its rule and trial change): the same answer -/
theorem pairC {H M8 M9 : Nat} {as : List MV} (v : MV) (hx : x + 164 = m) (hr : Rel x m μ) (hc : ∀ K : MV → Mem → Prop, (∀ μ1, frZ x μ μ1 → K v μ1) → mMet X H M8 (.inr (.inr (7, 0, x)) :: as) μ K) (hd : ∀ (μ1 : Mem) (Q : Bk), Q 2 = μ.1 (m + 2) → ∀ K : MV → Mem → Prop, (∀ Q', frK (u2 Q 0 0 (nI 0)) Q' → K v (sb μ1 m 21 Q')) → mMet X H M9 (.inr (.inr (8, 0, m)) :: as) (sb μ1 m 21 Q) K) : PAIR X H M8 M9 x m as μ :=
  hc _ (fun μ1 h1 => ref_in (hd μ1 (bk μ1 m) (frZ_m hx h1 2) _ (fun Q' hf => ⟨rfl, Rel_K hx (Rel_frZ hx hr h1) hf⟩)))
theorem frK_u {Q Q' : Bk} {k j : Nat} {v : Int32} (h : frK Q Q') (hk : 10 ≤ k ∧ k ≤ 14 ∨ k = 0 ∧ (j = 0 ∨ 27 ≤ j ∧ j ≤ 29)) : frK Q (u2 Q' k j v) := by
  refine ⟨fun l a b => ?_, fun i hi => ?_⟩
  · rw [u2_row (by omega)]; exact h.1 l a b
  · by_cases h0 : k = 0
    · subst h0
      rw [u2_at, upd_ne (by omega)]; exact h.2 i hi
    · rw [u2_row (by omega)]; exact h.2 i hi
theorem frK_2 {Q Q' : Bk} (h : frK Q Q') : Q' 2 = Q 2 := h.1 2 (by decide) (by decide)
theorem sets_n {W : Nat} (w8 : W ≤ 8) : ∃ T, 1 ≤ T ∧ T ≤ 256 ∧ nI 1 <<< (nI W &&& 31) = nI T ∧ T = 2 ^ W := by
  have hc : W = 0 ∨ W = 1 ∨ W = 2 ∨ W = 3 ∨ W = 4 ∨ W = 5 ∨ W = 6 ∨ W = 7 ∨ W = 8 := by omega
  rcases hc with rfl | rfl | rfl | rfl | rfl | rfl | rfl | rfl | rfl
  · exact ⟨1, by omega, by omega, by decide, rfl⟩
  · exact ⟨2, by omega, by omega, by decide, rfl⟩
  · exact ⟨4, by omega, by omega, by decide, rfl⟩
  · exact ⟨8, by omega, by omega, by decide, rfl⟩
  · exact ⟨16, by omega, by omega, by decide, rfl⟩
  · exact ⟨32, by omega, by omega, by decide, rfl⟩
  · exact ⟨64, by omega, by omega, by decide, rfl⟩
  · exact ⟨128, by omega, by omega, by decide, rfl⟩
  · exact ⟨256, by omega, by omega, by decide, rfl⟩
theorem setP {s : Int32} {T : Nat} (hT : T ≤ 256) : (0 ≤ s ∧ s < nI T) = ∃ k, k < T ∧ s = nI k := ixP (by omega)
/-- the class's contracts in these words -/
theorem d_madeAlone {b : Nat} {set : Int32} {n G W : Nat} {B : Bk} (hn : n ≤ 200) (hf : frZ x μ μ1) (hB : ∀ k, k < 12 → μ1.1 (b + k) = B k) (hb : b + 12 ≤ x + 62) (hG : B 0 0 = nI G) (hG6 : G ≤ 6) (hW : B 0 1 = nI W) (hW8 : W ≤ 8) (hK : ∀ μ2, frZ x μ μ2 → (∀ i, i < x + 62 → μ2.1 i = μ1.1 i) → (∀ i, x + 87 ≤ i → μ2.1 i = μ1.1 i) → K (.inl (totF W B (runC G W B (fun _ => set) (fun _ _ => nI 0) n))) μ2) : mMet X (h + 5) m_X8_madeAlone [.inr (.inr (7, 0, x)), .inr (.inr (0, 0, b)), .inl set, .inl (nI n)] μ1 K :=
  c_madeAlone hn hB hb hG hG6 hW hW8 (fun R1 R2 => hK _ (frZ_sb (frZ_sb hf (by omega)) (by omega)) (fun i hi => by rw [sb_out (by omega), sb_out (by omega)]) (fun i hi => by rw [sb_out (by omega), sb_out (by omega)]))
theorem d_isSteady {b : Nat} {set : Int32} {G W : Nat} {B : Bk} (hf : frZ x μ μ1) (hB : ∀ k, k < 12 → μ1.1 (b + k) = B k) (hb : b + 12 ≤ x + 62) (hG : B 0 0 = nI G) (hG6 : G ≤ 6) (hW : B 0 1 = nI W) (hW8 : W ≤ 8) (hT : steadyP G W B set → ∀ μ2, frZ x μ μ2 → (∀ i, i < x + 62 → μ2.1 i = μ1.1 i) → K (.inl (nI 1)) μ2) (hF : ¬ steadyP G W B set → ∀ μ2, frZ x μ μ2 → (∀ i, i < x + 62 → μ2.1 i = μ1.1 i) → K (.inl (nI 0)) μ2) : mMet X (h + 2) m_X4_isSteady [.inr (.inr (3, 0, x + 62)), .inr (.inr (0, 0, b)), .inl set] μ1 K := by
  refine cls_in (i := x + 62) (n := 12) ?_
  exact c_isSteady hB hG hG6 hW hW8 (by omega) (fun z f => hT z _ (frZ_sb hf (by omega)) (fun i hi => by rw [sb_out (by omega)])) (fun z f => hF z _ (frZ_sb hf (by omega)) (fun i hi => by rw [sb_out (by omega)]))
end MFc
