section MPx
variable {G W N n : Nat} {V R B : Bk} {f : Nat → Int32}
/-- a WORK goes, on both sides -/
theorem go_rel {w : Nat} (hF : FB G W f B) (hN : N < 2 ^ 29) (hG6 : G ≤ 6) (hw : w < 8) (hE : eqM G V R) (hR : RI G N B R) (hh : ∀ g, g < G → B 7 (w * 6 + g) ≤ R 1 (w * 6 + g)) (hh0 : R 0 0 = nI n) :
    eqM G (goV G f w (nI n) V) (goF G B w R) ∧ RI G (N + 54) B (goF G B w R) ∧ (∀ k, k = 0 ∨ (12 ≤ k ∧ k ≠ 13) → goV G f w (nI n) V k = V k) ∧ (goV G f w (nI n) V 13 = upd (V 13) w (V 13 w + f (30 + w))) ∧ goF G B w R 0 = R 0 ∧ goF G B w R 8 = upd (R 8) w (R 8 w + nI 1) ∧ goF G B w R 9 = upd (R 9) w (nI n) ∧ ∀ j, G ≤ j → goF G B w R 5 j = R 5 j := by
  obtain ⟨⟨u1, u2', u3, u4⟩, u5⟩ := uses_rel hF hG6 hw hE hR hh
  unfold goV goF
  dsimp only
  generalize fo G (useV f w) (V, nI 0) = p at u1 u3 u5 ⊢
  generalize fo G (useF B w) (R, nI 0) = q at u1 u2' u4 u5 ⊢
  obtain ⟨p1, pb⟩ := p
  obtain ⟨q1, qb⟩ := q
  dsimp only at u1 u2' u3 u4 u5 ⊢
  subst u5
  have e10 : p1 10 w = q1 10 w := u1 10 w (by decide) (by decide) (sz8 hw).2.2
  have g1 := gives_rel (b := pb) (w := w) hF hN hG6 hw (eqM_u2 (k := 10) (j := w) (x := q1 10 w ||| pb) u1) (RI_o (k := 10) (j := w) (x := q1 10 w ||| pb) u2' (by decide) (by decide) (by decide))
  rw [gives_10] at g1
  have r10 := gives_r10 (f := f) (V := p1) (w := w) (b := pb) G
  generalize fo G (giveF B w pb) (u2 q1 10 w (q1 10 w ||| pb)) = R2 at g1 ⊢
  generalize fo G (giveV f w pb) p1 = V2 at g1 r10 ⊢
  obtain ⟨a1, a2, a3, a4⟩ := g1
  have x10 : V2 10 w ||| pb = q1 10 w ||| pb := by rw [r10, e10]
  rw [x10]
  have a3' : KV V2 p1 := fun k hk => by
    have z := a3 k hk
    rw [u2_row (by omega), u2_row (by omega)] at z
    exact z
  have e8 : V2 8 w = R2 8 w := by
    have z := a1 8 w (by decide) (by decide) (sz8 hw).1
    rw [u2_row (by decide)] at z
    exact z
  have a4' : KR G R2 R := KR_tr a4 (KR_tr (KR_u KR_rf (by decide) (by decide) (by decide) (fun h => absurd h (by decide))) u4)
  have k0 : R2 0 0 = nI n := by rw [a4'.1]; exact hh0
  rw [k0, e8]
  refine ⟨?_, ?_, ?_, ?_, ?_, ?_, ?_, ?_⟩
  · refine eqM_u2 ?_
    refine eqM_l ?_ (by omega)
    exact eqM_u2 a1
  · exact RI_o (RI_o a2 (by decide) (by decide) (by decide)) (by decide) (by decide) (by decide)
  · intro k hk
    rw [u2_row (by omega), u2_row (by omega), u2_row (by omega), u2_row (by omega), a3' k (by omega)]
    exact u3 k (by omega)
  · rw [u2_row (by decide), u2_at, u2_row (by decide), u2_row (by decide), a3' 13 (by omega), u3 13 (by omega)]
  · rw [u2_row (by decide), u2_row (by decide)]; exact a4'.1
  · rw [u2_row (by decide), u2_at, a4'.2.1]
  · rw [u2_at, u2_row (by decide), a4'.2.2.1]
  · intro j hj
    rw [u2_row (by decide), u2_row (by decide)]; exact a4'.2.2.2 j hj
/-- within an HOUR, ahead of WORK w -/
def MIDw (n w w' : Nat) (B V R : Bk) : Prop := V 13 w' = R 8 w' * B 6 w' ∧ ∃ k, R 8 w' = nI k ∧
  ((w' < w ∧ k ≤ n + 1 ∧ V 12 w' = nI (n + 1 - k) ∧ V 14 w' = bI (0 < R 8 w' ∧ R 9 w' = nI n) ∧ (R 9 w' = -1 ∨ ∃ q, q < n + 1 ∧ R 9 w' = nI q))
  ∨ (w ≤ w' ∧ k ≤ n ∧ V 12 w' = nI (n - k) ∧ (R 9 w' = -1 ∨ ∃ q, q < n ∧ R 9 w' = nI q)))
def MID (G W N n w : Nat) (B V0 V R : Bk) : Prop :=
  eqM G V R ∧ RI G N B R ∧ R 0 0 = nI n ∧ (∀ j, G ≤ j → j < 6 → R 5 j = nI 0) ∧ (∀ k, k = 0 ∨ 15 ≤ k → V k = V0 k) ∧ (∀ w', W ≤ w' → w' < 8 → V 13 w' = nI 0) ∧ ∀ w', w' < W → MIDw n w w' B V R
theorem MIDw_keep {w w' : Nat} {V' R' : Bk} (h : MIDw n w w' B V R) (h13 : V' 13 w' = V 13 w') (h12 : V' 12 w' = V 12 w') (h14 : V' 14 w' = V 14 w') (h8 : R' 8 w' = R 8 w') (h9 : R' 9 w' = R 9 w') : MIDw n w w' B V' R' := by
  unfold MIDw at h ⊢
  rw [h13, h12, h14, h8, h9]
  exact h
theorem MID_J {w : Nat} {V0 V' R' : Bk} {N' : Nat} (h : MID G W N n w B V0 V R) (j : J2 G N' B V R V' R') : MID G W N' n w B V0 V' R' := by
  obtain ⟨h1, h2, h3, h4, h5, h6, h7⟩ := h
  obtain ⟨j1, j2, j3, j4⟩ := j
  refine ⟨j1, j2, by rw [j4.1]; exact h3, fun k hk hk6 => by rw [j4.2.2.2 k hk]; exact h4 k hk hk6, fun k hk => (j3 k (by omega)).trans (h5 k hk), fun w' hw hw8 => by rw [j3 13 (by omega)]; exact h6 w' hw hw8, fun w' hw => ?_⟩
  exact MIDw_keep (h7 w' hw) (by rw [j3 13 (by omega)]) (by rw [j3 12 (by omega)]) (by rw [j3 14 (by omega)]) (by rw [j4.2.1]) (by rw [j4.2.2.1])
theorem work_rel {w : Nat} {V0 : Bk} {free : Int32} (hF : FB G W f B) (hN : N < 2 ^ 28) (hG6 : G ≤ 6) (hW8 : W ≤ 8) (hn : n < 2 ^ 20) (hw : w < W) (hM : MID G W N n w B V0 V R) : MID G W (N + 108) n (w + 1) B V0 (workV G W f free (nI n) w V) (workF G W B free (hodOf (nI n)) w R) := by
  have f1 := fills_rel (w := w) hF (by omega) hG6 (by omega) hM.1 hM.2.1
  have m1 := MID_J hM f1
  obtain ⟨fw4, fw5, fw6⟩ := hF.2.2.2.1 w hw
  -- behind the filling, to the losing
  have step : MID G W (N + 108) n (w + 1) B V0 (stepV G f (nI n) w (mayV G f free (hodOf (nI n)) w (fo G (fillV f w) V))) (if B 4 w ≤ hodOf (nI n) ∧ hodOf (nI n) ≤ B 5 w ∧ free >>> (nI w &&& 31) &&& nI 1 = nI 1 then (if (fo G (hasF B w) (fo G (comeF B w) R, nI 1)).2 = 0 then (fo G (hasF B w) (fo G (comeF B w) R, nI 1)).1 else goF G B w (fo G (hasF B w) (fo G (comeF B w) R, nI 1)).1) else fo G (comeF B w) R) := by
    generalize fo G (fillV f w) V = V1 at m1 ⊢
    generalize fo G (comeF B w) R = R1 at m1 ⊢
    -- it stands
    have stand : ∀ V2 R2, MID G W (N + 54) n w B V0 V2 R2 → MID G W (N + 108) n (w + 1) B V0 (u2 (u2 V2 14 w (nI 0)) 12 w (V2 12 w + nI 1)) R2 := by
      intro V2 R2 h
      obtain ⟨h1, h2, h3, h4, h5, h6, h7⟩ := h
      refine ⟨eqM_l (eqM_l h1 (by omega)) (by omega), RI_up h2 (by omega), h3, h4, fun k hk => by rw [u2_row (by omega), u2_row (by omega)]; exact h5 k hk, fun w' hw' hw8 => by rw [u2_row (by decide), u2_row (by decide)]; exact h6 w' hw' hw8, fun w' hw' => ?_⟩
      have z := h7 w' hw'
      by_cases hww : w' = w
      · subst hww
        obtain ⟨z1, k, z2, z3⟩ := z
        rcases z3 with ⟨z3, _⟩ | ⟨_, z4, z5, z6⟩
        · omega
        · refine ⟨by rw [u2_row (by decide), u2_row (by decide)]; exact z1, k, z2, Or.inl ⟨by omega, by omega, ?_, ?_, ?_⟩⟩
          · rw [u2_at, upd_at, z5, nI_add]
            congr 1
            omega
          · rw [u2_row (by decide), u2_at, upd_at]
            refine (bI_f ?_).symm
            intro q
            rcases z6 with z6 | ⟨q', hq', z6⟩
            · rw [z6] at q
              have := q.2.symm
              rw [nI_m1 (by omega)] at this
              exact this
            · rw [z6] at q
              have := (nI_eq (by omega) (by omega)).mp q.2
              omega
          · rcases z6 with z6 | ⟨q', hq', z6⟩
            · exact Or.inl z6
            · exact Or.inr ⟨q', by omega, z6⟩
      · have z' : MIDw n (w + 1) w' B V2 R2 := by
          obtain ⟨z1, k, z2, z3⟩ := z
          refine ⟨z1, k, z2, ?_⟩
          rcases z3 with ⟨z3, z4⟩ | ⟨z3, z4⟩
          · exact Or.inl ⟨by omega, z4⟩
          · exact Or.inr ⟨by omega, z4⟩
        refine MIDw_keep z' ?_ ?_ ?_ rfl rfl
        · rw [u2_row (by decide), u2_row (by decide)]
        · rw [u2_at, upd_ne hww, u2_row (by decide)]
        · rw [u2_row (by decide), u2_at, upd_ne hww]
    by_cases hgo : B 4 w ≤ hodOf (nI n) ∧ hodOf (nI n) ≤ B 5 w ∧ free >>> (nI w &&& 31) &&& nI 1 = nI 1
    · have em : mayV G f free (hodOf (nI n)) w V1 = fo G (hasF (rv f) w) (V1, nI 1) := if_pos ⟨⟨by rw [fw4]; exact hgo.1, by rw [fw5]; exact hgo.2.1⟩, hgo.2.2⟩
      rw [if_pos hgo, em]
      have hs := hass_rel (w := w) hF hG6 (by omega) m1.1 m1.2.1
      have m2 := MID_J m1 hs.1
      have hb := hs.2.1
      have hh := hs.2.2
      generalize fo G (hasF (rv f) w) (V1, nI 1) = p at m2 hb ⊢
      generalize fo G (hasF B w) (R1, nI 1) = q at m2 hb hh ⊢
      unfold stepV
      by_cases hq : q.2 = 0
      · rw [if_pos hq, if_pos (hb.trans hq)]
        exact stand _ _ m2
      · rw [if_neg hq, if_neg (fun z => hq (hb.symm.trans z))]
        obtain ⟨h1, h2, h3, h4, h5, h6, h7⟩ := m2
        have g := go_rel (V := u2 p.1 14 w (nI 1)) hF (show N + 54 < 2 ^ 29 by omega) hG6 (show w < 8 by omega) (eqM_l h1 (by omega)) h2 (hh hq) h3
        generalize goV G f w (nI n) (u2 p.1 14 w (nI 1)) = V3 at g ⊢
        generalize goF G B w q.1 = R3 at g ⊢
        obtain ⟨g1, g2, g3, g4, g5, g6, g7, g8⟩ := g
        refine ⟨g1, g2, by rw [g5]; exact h3, fun j hj hj6 => by rw [g8 j hj]; exact h4 j hj hj6, fun k hk => ?_, fun w' hw' hw8 => ?_, fun w' hw' => ?_⟩
        · rw [g3 k (by omega), u2_row (by omega)]; exact h5 k hk
        · rw [g4, upd_ne (by omega), u2_row (by decide)]; exact h6 w' hw' hw8
        · have z := h7 w' hw'
          by_cases hww : w' = w
          · subst hww
            obtain ⟨z1, k, z2, z3⟩ := z
            rcases z3 with ⟨z3, _⟩ | ⟨_, z4, z5, z6⟩
            · omega
            · refine ⟨?_, k + 1, ?_, Or.inl ⟨by omega, by omega, ?_, ?_, ?_⟩⟩
              · rw [g4, upd_at, u2_row (by decide), z1, g6, upd_at, fw6, Int32.add_mul]
                congr 1
                exact (Int32.one_mul _).symm
              · rw [g6, upd_at, z2, nI_add]
              · rw [g3 12 (by omega), u2_row (by decide), z5]
                congr 1
                omega
              · rw [g3 14 (by omega), u2_at, upd_at]
                refine (bI_t ⟨?_, ?_⟩).symm
                · rw [g6, upd_at, z2, nI_add, ← nI_0, nI_ltq (by decide) (by omega)]
                  omega
                · rw [g7, upd_at]
              · exact Or.inr ⟨n, by omega, by rw [g7, upd_at]⟩
          · have z' : MIDw n (w + 1) w' B p.1 q.1 := by
              obtain ⟨z1, k, z2, z3⟩ := z
              refine ⟨z1, k, z2, ?_⟩
              rcases z3 with ⟨z3, z4⟩ | ⟨z3, z4⟩
              · exact Or.inl ⟨by omega, z4⟩
              · exact Or.inr ⟨by omega, z4⟩
            refine MIDw_keep z' ?_ ?_ ?_ ?_ ?_
            · rw [g4, upd_ne hww, u2_row (by decide)]
            · rw [g3 12 (by omega), u2_row (by decide)]
            · rw [g3 14 (by omega), u2_at, upd_ne hww]
            · rw [g6, upd_ne hww]
            · rw [g7, upd_ne hww]
    · have em : mayV G f free (hodOf (nI n)) w V1 = (V1, nI 0) := if_neg (fun z => hgo ⟨by rw [← fw4]; exact z.1.1, by rw [← fw5]; exact z.1.2, z.2⟩)
      rw [if_neg hgo, em]
      unfold stepV
      rw [if_pos (show (nI 0 : Int32) = 0 from rfl)]
      exact stand _ _ m1
  unfold workV workF
  dsimp only
  generalize stepV G f (nI n) w (mayV G f free (hodOf (nI n)) w (fo G (fillV f w) V)) = V3 at step ⊢
  split
  · exact MID_J step (loses_rel hF (by omega) hG6 step.1 step.2.1)
  · exact step
end MPx
