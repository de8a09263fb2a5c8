section MPv
variable {G W N : Nat} {V R B : Bk} {f : Nat → Int32}
theorem RI_up {N' : Nat} (h : RI G N B R) (hN : N ≤ N') : RI G N' B R := ⟨fun g hg => by obtain ⟨s, k1, k2⟩ := h.1 g hg; exact ⟨s, by omega, k2⟩, h.2⟩
theorem RI_o {k j : Nat} {x : Int32} (h : RI G N B R) (h1 : k ≠ 1) (h2 : k ≠ 2) (h5 : k ≠ 5) : RI G N B (u2 R k j x) := by
  refine ⟨fun g hg => ?_, fun c hc => ?_⟩
  · rw [u2_row h5.symm]; exact h.1 g hg
  · rw [u2_row h1.symm, u2_row h2.symm]; exact h.2 c hc
theorem RI_5 {g s : Nat} (h : RI G N B R) (hs : s ≤ N) : RI G N B (u2 R 5 g (nI s)) := by
  refine ⟨fun g' hg' => ?_, fun c hc => ?_⟩
  · rw [u2_at]
    by_cases hgg : g' = g
    · subst hgg; exact ⟨s, hs, by rw [upd_at]⟩
    · rw [upd_ne hgg]; exact h.1 g' hg'
  · rw [u2_row (by decide), u2_row (by decide)]; exact h.2 c hc
theorem RI_1 {c v z : Nat} (h : RI G N B R) (hv : v ≤ z) (hz : z ≤ 200) (hb : B 8 c = nI z) : RI G N B (u2 R 1 c (nI v)) := by
  refine ⟨fun g' hg' => ?_, fun c' hc' => ?_⟩
  · rw [u2_row (by decide)]; exact h.1 g' hg'
  · rw [u2_at, u2_row (by decide)]
    obtain ⟨v', z', k1, k2, k3, k4, k5⟩ := h.2 c' hc'
    by_cases hcc : c' = c
    · subst hcc; exact ⟨v, z, hv, hz, by rw [upd_at], hb, k5⟩
    · rw [upd_ne hcc]; exact ⟨v', z', k1, k2, k3, k4, k5⟩
theorem RI_2 {c : Nat} {x : Int32} (h : RI G N B R) (hx : B 7 c = nI 0 → x = nI 0) : RI G N B (u2 R 2 c x) := by
  refine ⟨fun g' hg' => ?_, fun c' hc' => ?_⟩
  · rw [u2_row (by decide)]; exact h.1 g' hg'
  · rw [u2_at, u2_row (by decide)]
    obtain ⟨v', z', k1, k2, k3, k4, k5⟩ := h.2 c' hc'
    by_cases hcc : c' = c
    · subst hcc; exact ⟨v', z', k1, k2, k3, k4, fun q => by rw [upd_at]; exact hx q⟩
    · rw [upd_ne hcc]; exact ⟨v', z', k1, k2, k3, k4, k5⟩
theorem sz1 {j : Nat} (h : j < 48) : j < szR G 1 ∧ j < szR G 2 ∧ j < szR G 3 ∧ j < szR G 4 := ⟨h, h, h, h⟩
theorem sz5 {j : Nat} (h : j < G) : j < szR G 5 ∧ j < szR G 6 ∧ j < szR G 7 := ⟨h, h, h⟩
theorem sz8 {j : Nat} (h : j < 8) : j < szR G 8 ∧ j < szR G 9 ∧ j < szR G 10 := ⟨h, h, h⟩
theorem sz11 {j : Nat} (h : j < 36) : j < szR G 11 := h
theorem fill_rel {w g : Nat} (hF : FB G W f B) (hN : N < 2 ^ 30) (hG6 : G ≤ 6) (hg : g < G) (hw : w < 8) (hE : eqM G V R) (hR : RI G N B R) : eqM G (fillV f w g V) (comeF B w g R) ∧ RI G (N + 9) B (comeF B w g R) := by
  have hc : w * 6 + g < 48 := by omega
  obtain ⟨s, hs, es⟩ := hR.1 g hg
  obtain ⟨v, z, hvz, hz, ev, ez, em⟩ := hR.2 (w * 6 + g) hc
  obtain ⟨f7, f8, f9, f10, f11⟩ := hF.2.2.2.2.1 (w * 6 + g) hc
  obtain ⟨t, z', a, y, e, ht, hz', ha, hy, he, htz, b7, b8, b9, b10, b11⟩ := hF.2.2.2.2.2 (w * 6 + g) hc
  have hzz : z' = z := (nI_eq (by omega) (by omega)).mp (b8.symm.trans ez)
  subst hzz
  have e5 : V 5 g = nI s := (hE 5 g (by decide) (by decide) (sz5 hg).1).trans es
  have e6 : V 6 g = R 6 g := hE 6 g (by decide) (by decide) (sz5 hg).2.1
  have e7 : V 7 g = R 7 g := hE 7 g (by decide) (by decide) (sz5 hg).2.2
  have e1 : V 1 (w * 6 + g) = nI v := (hE 1 _ (by decide) (by decide) (sz1 hc).1).trans ev
  have e2 : V 2 (w * 6 + g) = R 2 (w * 6 + g) := hE 2 _ (by decide) (by decide) (sz1 hc).2.1
  have e3 : V 3 (w * 6 + g) = R 3 (w * 6 + g) := hE 3 _ (by decide) (by decide) (sz1 hc).2.2.1
  have e11 : V 11 g = R 11 g := hE 11 g (by decide) (by decide) (sz11 (by omega))
  have hm : min (s + e) (z' - v) ≤ s + e := Nat.min_le_left _ _
  have hm2 : min (s + e) (z' - v) ≤ z' - v := Nat.min_le_right _ _
  generalize hM : min (s + e) (z' - v) = M at hm hm2
  have hV : fillV f w g V = if t = 0 then u2 (u2 V 5 g (nI (s + e))) 11 g (R 11 g + nI e) else if 0 < M then (if s + e - M = 0 then u2 (u2 (u2 (u2 (u2 (u2 (u2 (u2 V 5 g (nI (s + e))) 11 g (R 11 g + nI e)) 1 (w * 6 + g) (nI (v + M))) 2 (w * 6 + g) (R 2 (w * 6 + g) ||| R 6 g)) 3 (w * 6 + g) (R 3 (w * 6 + g) ||| R 7 g)) 5 g (nI (s + e - M))) 6 g (nI 0)) 7 g (nI 0) else u2 (u2 (u2 (u2 (u2 (u2 V 5 g (nI (s + e))) 11 g (R 11 g + nI e)) 1 (w * 6 + g) (nI (v + M))) 2 (w * 6 + g) (R 2 (w * 6 + g) ||| R 6 g)) 3 (w * 6 + g) (R 3 (w * 6 + g) ||| R 7 g)) 5 g (nI (s + e - M))) else u2 (u2 V 5 g (nI (s + e))) 11 g (R 11 g + nI e) := by
    unfold fillV
    simp only [e5, e6, e7, e1, e2, e3, e11, f7, f8, f11, b7, b8, b11, nI_add, nI_subq hvz, mn1 (show s + e < 2 ^ 31 by omega) (show z' - v < 2 ^ 31 by omega), hM, nI_subq hm, nI_ez (show t < 2 ^ 31 by omega), nI_le0 (show s + e - M < 2 ^ 31 by omega)]
    have q : (0 < nI M) = (0 < M) := by
      rw [← nI_0, nI_ltq (by decide) (by omega)]
    simp only [q]
  have hC : comeF B w g R = if M = 0 then u2 (u2 R 5 g (nI (s + e))) 11 g (R 11 g + nI e) else (if s + e - M = 0 then u2 (u2 (u2 (u2 (u2 (u2 (u2 (u2 R 5 g (nI (s + e))) 11 g (R 11 g + nI e)) 1 (w * 6 + g) (nI (v + M))) 2 (w * 6 + g) (R 2 (w * 6 + g) ||| R 6 g)) 3 (w * 6 + g) (R 3 (w * 6 + g) ||| R 7 g)) 5 g (nI (s + e - M))) 6 g (nI 0)) 7 g (nI 0) else u2 (u2 (u2 (u2 (u2 (u2 R 5 g (nI (s + e))) 11 g (R 11 g + nI e)) 1 (w * 6 + g) (nI (v + M))) 2 (w * 6 + g) (R 2 (w * 6 + g) ||| R 6 g)) 3 (w * 6 + g) (R 3 (w * 6 + g) ||| R 7 g)) 5 g (nI (s + e - M))) := by
    unfold comeF lessenF
    simp only [es, ev, b8, b11, nI_add, nI_subq hvz, mn2 (show s + e < 2 ^ 31 by omega) (show z' - v < 2 ^ 31 by omega), hM, nI_le0 (show M < 2 ^ 31 by omega), u2_row (show (5 : Nat) ≠ 3 by decide), u2_row (show (5 : Nat) ≠ 2 by decide), u2_row (show (5 : Nat) ≠ 1 by decide), u2_row (show (5 : Nat) ≠ 11 by decide), u2_at, upd_at, nI_subq hm, nI_ez (show s + e - M < 2 ^ 31 by omega)]
  have hRN := RI_up (N' := N + 9) hR (by omega)
  have base : eqM G (u2 (u2 V 5 g (nI (s + e))) 11 g (R 11 g + nI e)) (u2 (u2 R 5 g (nI (s + e))) 11 g (R 11 g + nI e)) := eqM_u2 (eqM_u2 hE)
  have rbase : RI G (N + 9) B (u2 (u2 R 5 g (nI (s + e))) 11 g (R 11 g + nI e)) := RI_o (RI_5 hRN (by omega)) (by decide) (by decide) (by decide)
  rw [hV, hC]
  by_cases ht0 : t = 0
  · have hM0 : M = 0 := by have := htz ht0; omega
    rw [if_pos ht0, if_pos hM0]
    exact ⟨base, rbase⟩
  · rw [if_neg ht0]
    by_cases hM0 : M = 0
    · rw [if_neg (by omega), if_pos hM0]
      exact ⟨base, rbase⟩
    · rw [if_pos (by omega), if_neg hM0]
      have r2 : RI G (N + 9) B (u2 (u2 (u2 (u2 (u2 (u2 R 5 g (nI (s + e))) 11 g (R 11 g + nI e)) 1 (w * 6 + g) (nI (v + M))) 2 (w * 6 + g) (R 2 (w * 6 + g) ||| R 6 g)) 3 (w * 6 + g) (R 3 (w * 6 + g) ||| R 7 g)) 5 g (nI (s + e - M))) := by
        refine RI_5 (RI_o (RI_2 (RI_1 rbase (z := z') (by omega) hz b8) ?_) (by decide) (by decide) (by decide)) (by omega)
        intro h7
        exact absurd ((nI_eq (by omega) (by omega)).mp (b7.symm.trans h7)) ht0
      by_cases h0 : s + e - M = 0
      · rw [if_pos h0, if_pos h0]
        exact ⟨eqM_u2 (eqM_u2 (eqM_u2 (eqM_u2 (eqM_u2 (eqM_u2 base))))), RI_o (RI_o r2 (by decide) (by decide) (by decide)) (by decide) (by decide) (by decide)⟩
      · rw [if_neg h0, if_neg h0]
        exact ⟨eqM_u2 (eqM_u2 (eqM_u2 (eqM_u2 base))), r2⟩
theorem has_rel {w g : Nat} {b : Int32} (hF : FB G W f B) (hg : g < G) (hG6 : G ≤ 6) (hw : w < 8) (hE : eqM G V R) (hR : RI G N B R) : eqM G (hasF (rv f) w g (V, b)).1 (hasF B w g (R, b)).1 ∧ (hasF (rv f) w g (V, b)).2 = (hasF B w g (R, b)).2 ∧ RI G N B (hasF B w g (R, b)).1 := by
  have hc : w * 6 + g < 48 := by omega
  obtain ⟨f7, _⟩ := hF.2.2.2.2.1 (w * 6 + g) hc
  have e1 : V 1 (w * 6 + g) = R 1 (w * 6 + g) := hE 1 _ (by decide) (by decide) (sz1 hc).1
  have e4 : V 4 (w * 6 + g) = R 4 (w * 6 + g) := hE 4 _ (by decide) (by decide) (sz1 hc).2.2.2
  by_cases h : B 7 (w * 6 + g) ≤ R 1 (w * 6 + g)
  · rw [hasF_pos (p := (R, b)) h, hasF_pos (p := (V, b)) (by rw [rv_7, f7]; show B 7 _ ≤ V 1 _; rw [e1]; exact h)]
    exact ⟨hE, rfl, hR⟩
  · rw [hasF_neg (p := (R, b)) h, hasF_neg (p := (V, b)) (by rw [rv_7, f7]; show ¬ B 7 _ ≤ V 1 _; rw [e1]; exact h)]
    show eqM G (u2 V 4 _ (V 4 (w * 6 + g) + nI 1)) (u2 R 4 _ (R 4 (w * 6 + g) + nI 1)) ∧ _ ∧ RI G N B (u2 R 4 _ (R 4 (w * 6 + g) + nI 1))
    rw [e4]
    exact ⟨eqM_u2 hE, rfl, RI_o hR (by decide) (by decide) (by decide)⟩
theorem use_rel {w g : Nat} {b : Int32} (hF : FB G W f B) (hg : g < G) (hG6 : G ≤ 6) (hw : w < 8) (hE : eqM G V R) (hR : RI G N B R) (hh : B 7 (w * 6 + g) ≤ R 1 (w * 6 + g)) : eqM G (useV f w g (V, b)).1 (useF B w g (R, b)).1 ∧ (useV f w g (V, b)).2 = (useF B w g (R, b)).2 ∧ RI G N B (useF B w g (R, b)).1 := by
  have hc : w * 6 + g < 48 := by omega
  obtain ⟨f7, _⟩ := hF.2.2.2.2.1 (w * 6 + g) hc
  obtain ⟨v, z, hvz, hz, ev, ez, em⟩ := hR.2 (w * 6 + g) hc
  obtain ⟨t, z', a, y, e, ht, hz', ha, hy, he, htz, b7, b8, b9, b10, b11⟩ := hF.2.2.2.2.2 (w * 6 + g) hc
  have hzz : z' = z := (nI_eq (by omega) (by omega)).mp (b8.symm.trans ez)
  subst hzz
  have e1 : V 1 (w * 6 + g) = nI v := (hE 1 _ (by decide) (by decide) (sz1 hc).1).trans ev
  have e2 : V 2 (w * 6 + g) = R 2 (w * 6 + g) := hE 2 _ (by decide) (by decide) (sz1 hc).2.1
  have e11 : V 11 (18 + g) = R 11 (18 + g) := hE 11 _ (by decide) (by decide) (sz11 (by omega))
  have htv : t ≤ v := by
    rw [b7, ev] at hh
    exact (nI_leI (by omega) (by omega)).mp hh
  have r1 : RI G N B (u2 (u2 R 1 (w * 6 + g) (nI (v - t))) 11 (18 + g) (R 11 (18 + g) + nI t)) := RI_o (RI_1 hR (z := z') (by omega) hz b8) (by decide) (by decide) (by decide)
  have hC : useF B w g (R, b) = (if v - t = 0 then u2 (u2 (u2 R 1 (w * 6 + g) (nI (v - t))) 11 (18 + g) (R 11 (18 + g) + nI t)) 2 (w * 6 + g) (nI 0) else u2 (u2 R 1 (w * 6 + g) (nI (v - t))) 11 (18 + g) (R 11 (18 + g) + nI t), b ||| R 2 (w * 6 + g)) := by
    unfold useF
    simp only [ev, b7, nI_subq htv, nI_ez (show v - t < 2 ^ 31 by omega)]
  by_cases ht0 : t = 0
  · subst ht0
    have hv0 : v = 0 := by have := htz rfl; omega
    subst hv0
    have hm := em b7
    have hV : useV f w g (V, b) = (V, b) := by
      unfold useV
      simp only [f7, b7, nI00, if_true]
    rw [hV, hC, if_pos rfl, hm]
    have k0 : (nI 0 : Int32) = R 1 (w * 6 + g) := ev.symm
    refine ⟨?_, ?_, ?_⟩
    · refine eqM_r (eqM_r (eqM_r hE ?_) ?_) ?_
      · exact ev.symm
      · rw [u2_row (by decide)]
        show R 11 (18 + g) + nI 0 = _
        exact Int32.add_zero _
      · rw [u2_row (by decide), u2_row (by decide)]
        exact hm.symm
    · show b = b ||| nI 0
      exact (Int32.or_zero).symm
    · exact RI_2 r1 (fun _ => rfl)
  · have hV : useV f w g (V, b) = (if v - t = 0 then u2 (u2 (u2 V 1 (w * 6 + g) (nI (v - t))) 11 (18 + g) (R 11 (18 + g) + nI t)) 2 (w * 6 + g) (nI 0) else u2 (u2 V 1 (w * 6 + g) (nI (v - t))) 11 (18 + g) (R 11 (18 + g) + nI t), b ||| R 2 (w * 6 + g)) := by
      unfold useV
      simp only [f7, b7, e1, e2, e11, nI_subq htv, nI_ez (show v - t < 2 ^ 31 by omega), nI_ez (show t < 2 ^ 31 by omega), if_neg ht0]
    rw [hV, hC]
    by_cases h0 : v - t = 0
    · simp only [if_pos h0]
      exact ⟨eqM_u2 (eqM_u2 (eqM_u2 hE)), trivial, RI_2 r1 (fun _ => rfl)⟩
    · simp only [if_neg h0]
      exact ⟨eqM_u2 (eqM_u2 hE), trivial, r1⟩
theorem give_rel {w g : Nat} {b : Int32} (hF : FB G W f B) (hN : N < 2 ^ 30) (hg : g < G) (hG6 : G ≤ 6) (hw : w < 8) (hE : eqM G V R) (hR : RI G N B R) : eqM G (giveV f w b g V) (giveF B w b g R) ∧ RI G (N + 9) B (giveF B w b g R) := by
  have hc : w * 6 + g < 48 := by omega
  obtain ⟨f7, f8, f9, f10, f11⟩ := hF.2.2.2.2.1 (w * 6 + g) hc
  obtain ⟨t, z', a, y, e, ht, hz', ha, hy, he, htz, b7, b8, b9, b10, b11⟩ := hF.2.2.2.2.2 (w * 6 + g) hc
  obtain ⟨s, hs, es⟩ := hR.1 g hg
  have e5 : V 5 g = nI s := (hE 5 g (by decide) (by decide) (sz5 hg).1).trans es
  have e6 : V 6 g = R 6 g := hE 6 g (by decide) (by decide) (sz5 hg).2.1
  have e7 : V 7 g = R 7 g := hE 7 g (by decide) (by decide) (sz5 hg).2.2
  have e11 : V 11 (12 + g) = R 11 (12 + g) := hE 11 _ (by decide) (by decide) (sz11 (by omega))
  have hRN := RI_up (N' := N + 9) hR (by omega)
  by_cases hy0 : y = 0
  · subst hy0
    have k1 : giveV f w b g V = V := by
      unfold giveV
      simp only [f10, b10, nI00, if_true]
    have k2 : giveF B w b g R = R := giveF_pos (by rw [b10]; decide)
    rw [k1, k2]
    exact ⟨hE, hRN⟩
  · have k1 : giveV f w b g V = u2 (u2 (u2 (u2 V 5 g (nI (s + y))) 11 (12 + g) (R 11 (12 + g) + nI y)) 6 g (R 6 g ||| (b ||| nI 1 <<< (nI w &&& 31)))) 7 g (R 7 g ||| nI 1 <<< (nI w &&& 31)) := by
      unfold giveV
      simp only [f10, b10, nI_ez (show y < 2 ^ 31 by omega), if_neg hy0, e5, e6, e7, e11, nI_add]
    have k2 : giveF B w b g R = u2 (u2 (u2 (u2 R 5 g (nI (s + y))) 6 g (R 6 g ||| (b ||| nI 1 <<< (nI w &&& 31)))) 7 g (R 7 g ||| nI 1 <<< (nI w &&& 31))) 11 (12 + g) (R 11 (12 + g) + nI y) := by
      rw [giveF_neg (by rw [b10, nI_le0 (by omega)]; exact hy0), b10, es, nI_add]
    rw [k1, k2, u2_comm (show (11 : Nat) ≠ 6 by decide), u2_comm (show (11 : Nat) ≠ 7 by decide)]
    exact ⟨eqM_u2 (eqM_u2 (eqM_u2 (eqM_u2 hE))), RI_o (RI_o (RI_o (RI_5 hRN (by omega)) (by decide) (by decide) (by decide)) (by decide) (by decide) (by decide)) (by decide) (by decide) (by decide)⟩
end MPv
