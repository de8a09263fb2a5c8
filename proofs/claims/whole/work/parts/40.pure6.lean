/-- between two HOURS: n are done -/
def HBw (n w' : Nat) (B V R : Bk) : Prop := V 13 w' = R 8 w' * B 6 w' ∧ ∃ k, k ≤ n ∧ R 8 w' = nI k ∧ V 12 w' = nI (n - k) ∧ V 14 w' = bI (0 < R 8 w' ∧ R 9 w' = R 0 0 - nI 1) ∧ (R 9 w' = -1 ∨ ∃ q, q < n ∧ R 9 w' = nI q)
def eqH (V R : Bk) : Prop := ∀ k j, (1 ≤ k ∧ k ≤ 4 ∨ 8 ≤ k ∧ k ≤ 11) → j < szR 6 k → V k j = R k j
def HB (G W N n : Nat) (B V R : Bk) : Prop :=
  eqH V R ∧ (∀ g, g < G → V 15 g = R 5 g ∧ V 16 g = R 6 g ∧ V 17 g = R 7 g) ∧ (∀ g, G ≤ g → g < 6 → R 5 g = nI 0 ∧ V 15 g = nI 0)
  ∧ RI G N B R ∧ R 0 0 = nI n ∧ V 0 0 = nI n ∧ V 18 0 = nI 1 ∧ (∀ w', W ≤ w' → w' < 8 → V 13 w' = nI 0) ∧ ∀ w', w' < W → HBw n w' B V R
section MPy
variable {G W N n : Nat} {V R B : Bk} {f : Nat → Int32}
theorem FB_le {i : Nat} (h : FB G W f B) (hi : i ≤ G) : FB i W f B := ⟨h.1, h.2.1, fun g hg => h.2.2.1 g (by omega), h.2.2.2⟩
theorem RI_le {i : Nat} (h : RI G N B R) (hi : i ≤ G) : RI i N B R := ⟨fun g hg => h.1 g (by omega), h.2⟩
theorem szH {i k : Nat} (h : 1 ≤ k ∧ k ≤ 4 ∨ 8 ≤ k ∧ k ≤ 11) : szR i k = szR 6 k := by
  unfold szR
  by_cases h1 : k ≤ 4
  · rw [if_pos h1, if_pos h1]
  · rw [if_neg h1, if_neg h1, if_neg (show ¬ k ≤ 7 by omega), if_neg (show ¬ k ≤ 7 by omega)]
theorem eqM_H {i : Nat} (h : eqM i V R) : eqH V R := fun k j hk hj => h k j (by omega) (by omega) (by rw [szH hk]; exact hj)
theorem eqM_0 (h : eqH V R) : eqM 0 V R := by
  intro k j h1 h2 h3
  by_cases hk : 5 ≤ k ∧ k ≤ 7
  · exfalso
    unfold szR at h3
    rw [if_neg (by omega), if_pos (by omega)] at h3
    omega
  · exact h k j (by omega) (by rw [← szH (i := 0) (by omega)]; exact h3)
theorem eqM_s {i : Nat} {a b c : Int32} (h : eqM i V R) (ha : a = R 5 i) (hb : b = R 6 i) (hc : c = R 7 i) : eqM (i + 1) (u2 (u2 (u2 V 5 i a) 6 i b) 7 i c) R := by
  intro k j h1 h2 h3
  by_cases hk : 5 ≤ k ∧ k ≤ 7
  · have h4 : j < i + 1 := by
      unfold szR at h3
      rw [if_neg (by omega), if_pos (by omega)] at h3
      exact h3
    have old : j ≠ i → V k j = R k j := fun hj => h k j h1 h2 (by unfold szR; rw [if_neg (by omega), if_pos (by omega)]; omega)
    have : k = 5 ∨ k = 6 ∨ k = 7 := by omega
    by_cases hj : j = i
    · subst hj
      rcases this with rfl | rfl | rfl
      · rw [u2_row (by decide), u2_row (by decide), u2_at, upd_at]; exact ha
      · rw [u2_row (by decide), u2_at, upd_at]; exact hb
      · rw [u2_at, upd_at]; exact hc
    · rcases this with rfl | rfl | rfl
      · rw [u2_row (by decide), u2_row (by decide), u2_at, upd_ne hj]; exact old hj
      · rw [u2_row (by decide), u2_at, upd_ne hj, u2_row (by decide)]; exact old hj
      · rw [u2_at, upd_ne hj, u2_row (by decide), u2_row (by decide)]; exact old hj
  · rw [u2_row (by omega), u2_row (by omega), u2_row (by omega)]
    exact h k j h1 h2 (by rw [szH (by omega)]; rw [szH (by omega)] at h3; exact h3)
theorem eqM_rf : eqM G R R := fun _ _ _ _ _ => rfl
theorem lessen_off {g j : Nat} {x : Int32} (h : j ≠ g) : lessenF g x R 5 j = R 5 j ∧ lessenF g x R 6 j = R 6 j ∧ lessenF g x R 7 j = R 7 j := by
  unfold lessenF
  by_cases hc : R 5 g - x = 0
  · rw [if_pos hc]
    refine ⟨?_, ?_, ?_⟩
    · rw [u2_row (by decide), u2_row (by decide), u2_at, upd_ne h]
    · rw [u2_row (by decide), u2_at, upd_ne h, u2_row (by decide)]
    · rw [u2_at, upd_ne h, u2_row (by decide), u2_row (by decide)]
  · rw [if_neg hc]
    refine ⟨?_, ?_, ?_⟩
    · rw [u2_at, upd_ne h]
    · rw [u2_row (by decide)]
    · rw [u2_row (by decide)]
theorem lose_off {g j : Nat} (h : j ≠ g) : loseF B g R 5 j = R 5 j ∧ loseF B g R 6 j = R 6 j ∧ loseF B g R 7 j = R 7 j := by
  unfold loseF
  exact lessen_off (R := u2 R 11 _ _) h
theorem load_rel (hF : FB G W f B) (hN : N < 2 ^ 30) (hG6 : G ≤ 6) (hH : HB G W N n B V R) : J2 G N B V R (fo G (loadV f) V) (if B 0 3 = 0 then R else fo G (loseF B) R) := by
  obtain ⟨e1, e2, e3, e4, e5, e6, e7, e8, e9⟩ := hH
  rcases hF.2.1 with hj | hj
  · rw [if_pos (show B 0 3 = 0 from hj)]
    have hf : f 2 ≤ 0 := by rw [hF.1, hj]; decide
    have q := fo_inv (P := fun i (V' : Bk) => eqM i V' R ∧ KV V' V) (fa := loadV f) (a := V) G ⟨eqM_0 e1, KV_rf⟩ (by
      intro i V' hi hp
      unfold loadV
      rw [if_pos hf]
      have k15 := hp.2 15 (by omega)
      have k16 := hp.2 16 (by omega)
      have k17 := hp.2 17 (by omega)
      have z := e2 i hi
      exact ⟨eqM_s hp.1 (by rw [k15]; exact z.1) (by rw [k16]; exact z.2.1) (by rw [k17]; exact z.2.2), KV_u (KV_u (KV_u hp.2 (by decide) (by decide)) (by decide) (by decide)) (by decide) (by decide)⟩)
    exact ⟨q.1, e4, q.2, KR_rf⟩
  · rw [if_neg (show ¬ B 0 3 = 0 by rw [hj]; decide)]
    have hf : ¬ f 2 ≤ 0 := by rw [hF.1, hj]; decide
    have q := fo_rel (P := fun i (V' R' : Bk) => eqM i V' R' ∧ RI G N B R' ∧ KV V' V ∧ KR G R' R ∧ ∀ j, i ≤ j → R' 5 j = R 5 j ∧ R' 6 j = R 6 j ∧ R' 7 j = R 7 j) (fa := loadV f) (fb := loseF B) (a := V) (b := R) G ⟨eqM_0 e1, e4, KV_rf, KR_rf, fun _ _ => ⟨rfl, rfl, rfl⟩⟩ (by
      intro i V' R' hi hp
      obtain ⟨p1, p2, p3, p4, p5⟩ := hp
      unfold loadV
      rw [if_neg hf]
      have k15 := p3 15 (by omega)
      have k16 := p3 16 (by omega)
      have k17 := p3 17 (by omega)
      have z := e2 i hi
      have o := p5 i (Nat.le_refl i)
      have m := eqM_s (a := V' 15 i) (b := V' 16 i) (c := V' 17 i) p1 (by rw [k15, o.1]; exact z.1) (by rw [k16, o.2.1]; exact z.2.1) (by rw [k17, o.2.2]; exact z.2.2)
      have r1 := lose_rel (FB_le hF (show i + 1 ≤ G by omega)) hN (by omega) (Nat.lt_succ_self i) m (RI_le p2 (by omega))
      have r2 := lose_rel (V := R') (R := R') hF hN hG6 hi eqM_rf p2
      refine ⟨r1.1, r2.2, KV_tr lose_kv (KV_u (KV_u (KV_u p3 (by decide) (by decide)) (by decide) (by decide)) (by decide) (by decide)), KR_tr (lose_kr hi) p4, fun j hj => ?_⟩
      have o2 := lose_off (B := B) (R := R') (g := i) (j := j) (by omega)
      have o3 := p5 j (by omega)
      exact ⟨o2.1.trans o3.1, o2.2.1.trans o3.2.1, o2.2.2.trans o3.2.2⟩)
    exact ⟨q.1, q.2.1, q.2.2.1, q.2.2.2.1⟩
theorem HB_MID (hH : HB G W N n B V R) {V1 R1 : Bk} (hJ : J2 G N B V R V1 R1) : MID G W N n 0 B V V1 R1 := by
  obtain ⟨e1, e2, e3, e4, e5, e6, e7, e8, e9⟩ := hH
  obtain ⟨j1, j2, j3, j4⟩ := hJ
  refine ⟨j1, j2, by rw [j4.1]; exact e5, fun j hj hj6 => by rw [j4.2.2.2 j hj]; exact (e3 j hj hj6).1, fun k hk => j3 k (by omega), fun w' hw hw8 => by rw [j3 13 (by omega)]; exact e8 w' hw hw8, fun w' hw => ?_⟩
  obtain ⟨z1, k, z2, z3, z4, z5, z6⟩ := e9 w' hw
  refine ⟨by rw [j3 13 (by omega), j4.2.1]; exact z1, k, by rw [j4.2.1]; exact z3, Or.inr ⟨Nat.zero_le w', z2, by rw [j3 12 (by omega)]; exact z4, by rw [j4.2.2.1]; exact z6⟩⟩
theorem works_rel {V0 : Bk} {free : Int32} (hF : FB G W f B) (hN : N < 2 ^ 27) (hG6 : G ≤ 6) (hW8 : W ≤ 8) (hn : n < 2 ^ 20) (hM : MID G W N n 0 B V0 V R) : MID G W (N + 864) n W B V0 (fo W (workV G W f free (nI n)) V) (fo W (workF G W B free (hodOf (nI n))) R) := by
  have q := fo_rel (P := fun i V' R' => MID G W (N + 108 * i) n i B V0 V' R') (fa := workV G W f free (nI n)) (fb := workF G W B free (hodOf (nI n))) W hM (by
    intro i V' R' hi hp
    have := work_rel (free := free) hF (by omega) hG6 hW8 hn hi hp
    rw [show N + 108 * (i + 1) = N + 108 * i + 108 by omega]
    exact this)
  obtain ⟨h1, h2, h3⟩ := q
  exact ⟨h1, RI_up h2 (by omega), h3⟩
theorem out_at {g : Nat} : outF g R 5 = upd (R 5) g (nI 0) ∧ outF g R 6 = upd (R 6) g (nI 0) ∧ outF g R 7 = upd (R 7) g (nI 0) ∧ outF g R 11 = upd (R 11) (30 + g) (R 11 (30 + g) + R 5 g) ∧ ∀ k, k ≠ 5 → k ≠ 6 → k ≠ 7 → k ≠ 11 → outF g R k = R k := by
  have e : outF g R = u2 (u2 (u2 (u2 R 11 (30 + g) (R 11 (30 + g) + R 5 g)) 5 g (nI 0)) 6 g (nI 0)) 7 g (nI 0) := by
    unfold outF lessenF
    simp only [u2_row (show (5 : Nat) ≠ 11 by decide)]
    have z : R 5 g - R 5 g = nI 0 := Int32.sub_self _
    rw [z, if_pos (show (nI 0 : Int32) = 0 from rfl)]
  rw [e]
  refine ⟨?_, ?_, ?_, ?_, fun k h5 h6 h7 h11 => ?_⟩
  · rw [u2_row (by decide), u2_row (by decide), u2_at, u2_row (by decide)]
  · rw [u2_row (by decide), u2_at, u2_row (by decide), u2_row (by decide)]
  · rw [u2_at, u2_row (by decide), u2_row (by decide), u2_row (by decide)]
  · rw [u2_row (by decide), u2_row (by decide), u2_row (by decide), u2_at]
  · rw [u2_row h7, u2_row h6, u2_row h5, u2_row h11]
theorem store_rel {V2 R2 : Bk} (hF : FB G W f B) (hG6 : G ≤ 6) (hE : eqM G V2 R2) (hR : RI G N B R2) :
    let V3 := fo G (storeV f) V2
    let R3 := if B 0 3 = 0 then fo G outF R2 else R2
    eqH V3 R3 ∧ (∀ g, g < G → V3 15 g = R3 5 g ∧ V3 16 g = R3 6 g ∧ V3 17 g = R3 7 g) ∧ RI G N B R3 ∧ (∀ k, k = 0 ∨ (12 ≤ k ∧ k ≤ 14) ∨ k = 18 → V3 k = V2 k) ∧ (∀ j, G ≤ j → V3 15 j = V2 15 j ∧ R3 5 j = R2 5 j) ∧ R3 0 = R2 0 ∧ R3 8 = R2 8 ∧ R3 9 = R2 9 := by
  intro V3 R3
  rcases hF.2.1 with hj | hj
  · have eR : R3 = fo G outF R2 := if_pos (show B 0 3 = 0 from hj)
    have hf : f 2 ≤ 0 := by rw [hF.1, hj]; decide
    rw [eR]
    have q := fo_rel (P := fun i (V' R' : Bk) => eqH V' R' ∧ (∀ j, j < i → V' 15 j = nI 0 ∧ V' 16 j = nI 0 ∧ V' 17 j = nI 0 ∧ R' 5 j = nI 0 ∧ R' 6 j = nI 0 ∧ R' 7 j = nI 0) ∧ V' 5 = V2 5 ∧ (∀ j, i ≤ j → V' 15 j = V2 15 j ∧ R' 5 j = R2 5 j) ∧ (∀ k, k = 0 ∨ (12 ≤ k ∧ k ≤ 14) ∨ k = 18 → V' k = V2 k) ∧ (∀ k, k ≠ 5 → k ≠ 6 → k ≠ 7 → k ≠ 11 → R' k = R2 k)) (fa := storeV f) (fb := outF) (a := V2) (b := R2) G ⟨eqM_H hE, fun j hj => absurd hj (Nat.not_lt_zero j), rfl, fun _ _ => ⟨rfl, rfl⟩, fun _ _ => rfl, fun _ _ _ _ _ => rfl⟩ (by
      intro i V' R' hi hp
      obtain ⟨p1, p2, p3, p4, p5, p6⟩ := hp
      obtain ⟨o5, o6, o7, o11, oo⟩ := out_at (g := i) (R := R')
      have eS : storeV f i V' = u2 (u2 (u2 (u2 V' 11 (30 + i) (V' 11 (30 + i) + V' 5 i)) 15 i (nI 0)) 16 i (nI 0)) 17 i (nI 0) := if_pos hf
      rw [eS]
      have e5 : V' 5 i = R' 5 i := by
        rw [p3, (p4 i (Nat.le_refl i)).2]
        exact hE 5 i (by decide) (by decide) (sz5 hi).1
      have e11 : V' 11 (30 + i) = R' 11 (30 + i) := p1 11 (30 + i) (by omega) (sz11 (by omega))
      refine ⟨fun k j hk hjs => ?_, fun j hj => ?_, ?_, fun j hj => ?_, fun k hk => ?_, fun k h5 h6 h7 h11 => ?_⟩
      · rw [u2_row (by omega), u2_row (by omega), u2_row (by omega)]
        by_cases k11 : k = 11
        · subst k11
          rw [u2_at, o11, e11, e5]
          by_cases hjj : j = 30 + i
          · subst hjj; rw [upd_at, upd_at]
          · rw [upd_ne hjj, upd_ne hjj]; exact p1 11 j hk hjs
        · rw [u2_row k11, oo k (by omega) (by omega) (by omega) k11]; exact p1 k j hk hjs
      · rw [o5, o6, o7, u2_row (show (15 : Nat) ≠ 17 by decide), u2_row (show (15 : Nat) ≠ 16 by decide), u2_at, u2_row (show (16 : Nat) ≠ 17 by decide), u2_at, u2_at]
        by_cases hji : j = i
        · subst hji
          simp only [upd_at]
          exact ⟨trivial, trivial, trivial, trivial, trivial, trivial⟩
        · have z := p2 j (by omega)
          rw [upd_ne hji, upd_ne hji, upd_ne hji, upd_ne hji, upd_ne hji, upd_ne hji, u2_row (by decide), u2_row (by decide), u2_row (by decide), u2_row (by decide), u2_row (by decide), u2_row (by decide)]
          exact z
      · rw [u2_row (by decide), u2_row (by decide), u2_row (by decide), u2_row (by decide)]; exact p3
      · have z := p4 j (by omega)
        rw [o5, upd_ne (by omega), u2_row (by decide), u2_row (by decide), u2_at, upd_ne (by omega), u2_row (by decide)]
        exact z
      · rw [u2_row (by omega), u2_row (by omega), u2_row (by omega), u2_row (by omega)]; exact p5 k hk
      · rw [oo k h5 h6 h7 h11]; exact p6 k h5 h6 h7 h11)
    obtain ⟨p1, p2, p3, p4, p5, p6⟩ := q
    refine ⟨p1, fun g hg => ?_, ⟨fun g hg => ⟨0, by omega, (p2 g hg).2.2.2.1⟩, fun c hc => ?_⟩, p5, p4, p6 0 (by decide) (by decide) (by decide) (by decide), p6 8 (by decide) (by decide) (by decide) (by decide), p6 9 (by decide) (by decide) (by decide) (by decide)⟩
    · obtain ⟨z1, z2, z3, z4, z5, z6⟩ := p2 g hg
      exact ⟨z1.trans z4.symm, z2.trans z5.symm, z3.trans z6.symm⟩
    · rw [p6 1 (by decide) (by decide) (by decide) (by decide), p6 2 (by decide) (by decide) (by decide) (by decide)]
      exact hR.2 c hc
  · have eR : R3 = R2 := if_neg (show ¬ B 0 3 = 0 by rw [hj]; decide)
    have hf : ¬ f 2 ≤ 0 := by rw [hF.1, hj]; decide
    rw [eR]
    have q := fo_inv (P := fun i (V' : Bk) => (∀ j, j < i → V' 15 j = V2 5 j ∧ V' 16 j = V2 6 j ∧ V' 17 j = V2 7 j) ∧ (∀ j, i ≤ j → V' 15 j = V2 15 j) ∧ ∀ k, k ≠ 15 → k ≠ 16 → k ≠ 17 → V' k = V2 k) (fa := storeV f) (a := V2) G ⟨fun j hj => absurd hj (Nat.not_lt_zero j), fun _ _ => rfl, fun _ _ _ _ => rfl⟩ (by
      intro i V' hi hp
      obtain ⟨p1, p2, p3⟩ := hp
      have eS : storeV f i V' = u2 (u2 (u2 V' 15 i (V' 5 i)) 16 i (V' 6 i)) 17 i (V' 7 i) := if_neg hf
      rw [eS, p3 5 (by decide) (by decide) (by decide), p3 6 (by decide) (by decide) (by decide), p3 7 (by decide) (by decide) (by decide)]
      refine ⟨fun j hj => ?_, fun j hj => ?_, fun k h1 h2 h3 => ?_⟩
      · rw [u2_row (show (15 : Nat) ≠ 17 by decide), u2_row (show (15 : Nat) ≠ 16 by decide), u2_at, u2_row (show (16 : Nat) ≠ 17 by decide), u2_at, u2_at]
        by_cases hji : j = i
        · subst hji
          simp only [upd_at]
          exact ⟨trivial, trivial, trivial⟩
        · rw [upd_ne hji, upd_ne hji, upd_ne hji, u2_row (by decide), u2_row (by decide), u2_row (by decide)]
          exact p1 j (by omega)
      · rw [u2_row (by decide), u2_row (by decide), u2_at, upd_ne (by omega)]; exact p2 j (by omega)
      · rw [u2_row h3, u2_row h2, u2_row h1]; exact p3 k h1 h2 h3)
    obtain ⟨p1, p2, p3⟩ := q
    refine ⟨fun k j hk hjs => ?_, fun g hg => ?_, hR, fun k hk => p3 k (by omega) (by omega) (by omega), fun j hj => ⟨p2 j hj, rfl⟩, rfl, rfl, rfl⟩
    · show V3 k j = R2 k j
      have e : V3 k = V2 k := p3 k (by omega) (by omega) (by omega)
      rw [e]
      exact eqM_H hE k j hk hjs
    · obtain ⟨z1, z2, z3⟩ := p1 g hg
      exact ⟨z1.trans (hE 5 g (by decide) (by decide) (sz5 hg).1), z2.trans (hE 6 g (by decide) (by decide) (sz5 hg).2.1), z3.trans (hE 7 g (by decide) (by decide) (sz5 hg).2.2)⟩
theorem hour_rel {free : Int32} (hF : FB G W f B) (hN : N < 2 ^ 27) (hG6 : G ≤ 6) (hW8 : W ≤ 8) (hn : n < 2 ^ 20) (hH : HB G W N n B V R) : HB G W (N + 864) (n + 1) B (hourV G W f free (nI n) V) (passF G W B free R) := by
  have l1 := load_rel hF (by omega) hG6 hH
  have m1 := HB_MID hH l1
  have m2 := works_rel (free := free) hF hN hG6 hW8 hn m1
  have e0 : R 0 0 = nI n := hH.2.2.2.2.1
  have eV0 : V 0 0 = nI n := hH.2.2.2.2.2.1
  have eV18 : V 18 0 = nI 1 := hH.2.2.2.2.2.2.1
  have e3 := hH.2.2.1
  unfold hourV passV passF
  dsimp only
  rw [e0]
  generalize fo W (workV G W f free (nI n)) (fo G (loadV f) V) = V2 at m2 ⊢
  have m2' : MID G W (N + 864) n W B V V2 (fo W (workF G W B free (nI n - nI n / nI 12 * nI 12)) (if B 0 3 = 0 then R else fo G (loseF B) R)) := m2
  generalize fo W (workF G W B free (nI n - nI n / nI 12 * nI 12)) (if B 0 3 = 0 then R else fo G (loseF B) R) = R2 at m2' ⊢
  obtain ⟨h1, h2, h3, h4, h5, h6, h7⟩ := m2'
  obtain ⟨s1, s2, s3, s4, s5, s6, s7, s8⟩ := store_rel (V2 := V2) (R2 := R2) hF hG6 h1 h2
  generalize fo G (storeV f) V2 = V3 at s1 s2 s4 s5 ⊢
  generalize (if B 0 3 = 0 then fo G outF R2 else R2) = R3 at s1 s2 s3 s5 s6 s7 s8 ⊢
  have r00 : R3 0 0 = nI n := by rw [s6]; exact h3
  have v00 : V3 0 0 = nI n := by rw [s4 0 (by omega), h5 0 (by omega)]; exact eV0
  rw [r00, v00, nI_add]
  refine ⟨fun k j hk hj => ?_, fun g hg => ?_, fun g hg hg6 => ?_, ?_, by rw [u2_at, upd_at], by rw [u2_at, upd_at], ?_, fun w' hw hw8 => ?_, fun w' hw => ?_⟩
  · rw [u2_row (by omega), u2_row (by omega)]; exact s1 k j hk hj
  · rw [u2_row (by decide), u2_row (by decide), u2_row (by decide), u2_row (by decide), u2_row (by decide), u2_row (by decide)]; exact s2 g hg
  · rw [u2_row (by decide), u2_row (by decide), (s5 g hg).1, (s5 g hg).2, h5 15 (by omega)]
    exact ⟨h4 g hg hg6, (e3 g hg hg6).2⟩
  · exact RI_o s3 (by decide) (by decide) (by decide)
  · rw [u2_row (by decide), s4 18 (by omega), h5 18 (by omega)]; exact eV18
  · rw [u2_row (by decide), s4 13 (by omega)]; exact h6 w' hw hw8
  · obtain ⟨z1, k, z2, z3⟩ := h7 w' hw
    rcases z3 with ⟨z3, z4, z5, z6, z7⟩ | ⟨z3, _⟩
    · unfold HBw
      rw [u2_row (show (13 : Nat) ≠ 0 by decide), u2_row (show (8 : Nat) ≠ 0 by decide), u2_row (show (12 : Nat) ≠ 0 by decide), u2_row (show (14 : Nat) ≠ 0 by decide), u2_row (show (9 : Nat) ≠ 0 by decide), s4 13 (by omega), s4 12 (by omega), s4 14 (by omega), s7, s8, u2_at, upd_at]
      have en : nI (n + 1) - nI 1 = nI n := by rw [nI_subq (by omega)]; congr 1
      rw [en]
      exact ⟨z1, k, z4, z2, z5, z6, z7⟩
    · omega
end MPy
