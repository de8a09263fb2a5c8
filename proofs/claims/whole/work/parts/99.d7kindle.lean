section MKk
variable {X : mC} {h x m : Nat} {μ μ1 : Mem} {K : MV → Mem → Prop} {Q B : Bk} {G W n : Nat} {f : Nat → Int32} {who set v v' : Int32}
theorem frZ_x (h : frZ x (upI μ x 16 v) μ1) : frZ x (upI μ x 16 v') (upI μ1 x 16 v') := by
  refine ⟨h.1, fun i hi => ?_⟩
  by_cases i0 : i = 0
  · subst i0
    have z : μ1.1 x = upd (μ.1 x) 16 v := (h.2 0 (by omega)).trans up_at
    show va_up μ1.1 x (upd (μ1.1 x) 16 v') x = va_up μ.1 x (upd (μ.1 x) 16 v') x
    rw [up_at, up_at, z, upd_upd]
  · have z := h.2 i hi
    rw [upI_out (by omega)] at z
    rw [upI_out (by omega), upI_out (by omega)]
    exact z
theorem upI_id {i j : Nat} : upI μ i j (μ.1 i j) = μ := by
  refine Prod.ext (funext fun l => ?_) rfl
  show va_up μ.1 i (upd (μ.1 i) j (μ.1 i j)) l = μ.1 l
  by_cases e : l = i
  · subst e
    rw [up_at]
    funext k
    by_cases ek : k = j
    · rw [ek, upd_at]
    · rw [upd_ne ek]
  · rw [up_off l e]
theorem Rel_kd {Q' : Bk} (hx : x + 164 = m) (hr : Rel x m μ) (hf : frZ x (upI μ x 16 v) μ1) (h1 : ∀ k, k = 1 ∨ k = 2 ∨ k = 5 ∨ k = 9 ∨ k = 18 → Q' k = μ.1 (m + k)) (h0 : ∀ j, j = 2 ∨ j = 10 ∨ j = 33 ∨ j = 38 → Q' 0 j = μ.1 m j) (h35 : Q' 0 35 = v) : Rel x m (sb μ1 m 21 Q') := by
  have e : ∀ k, k < 21 → (sb μ1 m 21 Q').1 (m + k) = Q' k := fun k hk => sb_in hk
  have e0 : (sb μ1 m 21 Q').1 m = Q' 0 := e 0 (by omega)
  have o : ∀ i, 1 ≤ i → i < 164 → (i < 16 ∨ (28 ≤ i ∧ i < 35) ∨ (42 ≤ i ∧ i < 46) ∨ (50 ≤ i ∧ i < 62) ∨ (87 ≤ i ∧ i ≠ 161)) → (sb μ1 m 21 Q').1 (x + i) = μ.1 (x + i) := fun i h1 h2 h3 => by
    rw [sb_out (by omega), hf.2 i h3, upI_out (by omega)]
  have ox : (sb μ1 m 21 Q').1 x = upd (μ.1 x) 16 v := by
    rw [sb_out (by omega)]
    exact (hf.2 0 (by omega)).trans up_at
  have l2 : (sb μ1 m 21 Q').2 = μ.2 := hf.1
  obtain ⟨r1, r2, r3, r4, r5, r6, r7, r8⟩ := hr
  refine ⟨RTp_k r1 (by rw [o 1 (by omega) (by omega) (by omega)]) (by rw [e0]; exact h0 2 (by omega)) (by rw [e 1 (by omega)]; exact h1 1 (by omega)) (o 2 (by omega) (by omega) (by omega)), RKw_k r2 (o 3 (by omega) (by omega) (by omega)), RSt_k r3 (fun i hi => o i (by omega) (by omega) (by omega)) (by rw [e 2 (by omega)]; exact h1 2 (by omega)) (by rw [l2]), fun k hk => RIm_k hk (r4 k hk) (fun i a hi => o i (by omega) (by omega) (by omega)) (by rw [e 5 (by omega)]; exact h1 5 (by omega)) (by rw [l2]) (by rw [e 9 (by omega)]; exact h1 9 (by omega)), RTx_k r5 (by rw [o 159 (by omega) (by omega) (by omega)]) (by rw [e0]; exact h0 38 (by omega)) (o 160 (by omega) (by omega) (by omega)) (by rw [e 18 (by omega)]; exact h1 18 (by omega)), RWo_k r6 (by rw [ox, upd_ne (by decide)]) (by rw [e0]; exact h0 33 (by omega)) (by rw [l2]) (by rw [l2]) (by rw [l2]) (by rw [l2]), ?_, ?_⟩
  · rw [ox, upd_at, e0, h35]
  · rw [ox, upd_ne (by decide), e0, h0 10 (by omega)]; exact r8
theorem kOK_R {R : Bk} (hF : FB G W f B) (g6 : G ≤ 6) (w8 : W ≤ 8) (hn : n ≤ 48) (hcb : ∀ c, c < 48 → ∃ t s, t ≤ s ∧ s ≤ 200 ∧ B 7 c = nI t ∧ B 8 c = nI s) (hW : B 0 1 = nI W) (hs : ∀ v, W ≤ v → v < 32 → set.toBitVec.getLsbD v = false) : (set &&& ((allGoF G W B set n ((startKF G W B who R).1, nI 0)).2 ^^^ -1) = 0) ↔ kOK G W n B who set := by
  obtain ⟨Vn, hV⟩ := kin_can (who := who) hF g6 w8 hcb
  have r8 : ∀ R w, w < 8 → (startKF G W B who R).1 8 w = nI 0 := fun R w hw => by
    have a := (kin_at (B := B) (who := who) (R := R) g6 W w8).2.1 8 (by decide)
    have b : (startKF G W B who R).1 8 = emptyF R 8 := a
    rw [b]
    exact (emptyF_at.2.2.2.1 w hw).1
  have a := allGo_iff (V0 := R) g6 w8 hW hF hs n 0 (startKF G W B who R).1 (Vn 0) (nI 0) (by omega) (hV R 0 (by omega)) (fun v hv => by
    rw [r8 R v hv]
    have z : ¬ nI 0 >>> (nI v &&& 31) &&& nI 1 = nI 1 := by
      have h2 : v = 0 ∨ v = 1 ∨ v = 2 ∨ v = 3 ∨ v = 4 ∨ v = 5 ∨ v = 6 ∨ v = 7 := by omega
      rcases h2 with rfl | rfl | rfl | rfl | rfl | rfl | rfl | rfl <;> decide
    exact ⟨fun y => absurd y z, fun y => absurd y.2 (by decide)⟩)
  rw [a]
  have e8 : ∀ w, w < W → fo n (fun _ => passF G W B (nI 1 <<< (nI W &&& 31) - nI 1)) (startKF G W B who R).1 8 w = fo n (fun _ => passF G W B (nI 1 <<< (nI W &&& 31) - nI 1)) (startKF G W B who (fun _ _ => nI 0)).1 8 w := fun w hw =>
    ((hV R n hn).1 8 w (by omega) (by rw [show szR 6 8 = 8 by decide]; omega)).symm.trans ((hV (fun _ _ => nI 0) n hn).1 8 w (by omega) (by rw [show szR 6 8 = 8 by decide]; omega))
  unfold kOK
  exact ⟨fun z w hw hb => by rw [← e8 w hw]; exact z w hw hb, fun z w hw hb => by rw [e8 w hw]; exact z w hw hb⟩
theorem set_hi {s : Nat} (w8 : W ≤ 8) (hs : s < 2 ^ W) : ∀ v, W ≤ v → v < 32 → (nI s).toBitVec.getLsbD v = false := fun v hv h32 => by
  show (BitVec.ofNat 32 s).getLsbD v = false
  rw [BitVec.getLsbD_ofNat, Nat.testBit_lt_two_pow (Nat.lt_of_lt_of_le hs (Nat.pow_le_pow_right (by decide) hv)), Bool.and_false]
end MKk
