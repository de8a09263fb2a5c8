/-! what ties the class's rows to the reference's: BROOK, PLAN, SENTENCE, RUN (q: 925 numbers, N: 14 names) -/
def sv (q : Nat → Int32) : Bk := fun k i => q (621 + ek k i)
def PL (G W : Nat) (P : Bk) (q : Nat → Int32) : Prop := ∃ l, l ≤ 20 ∧ P 0 0 = nI l ∧ q 278 = nI l ∧ PLN G W P q 279 l
def SN (S : Bk) (q : Nat → Int32) : Prop := (S 0 0 = nI 0 ∧ q 379 = nI 0) ∨ ∃ o s k l, 1 ≤ o ∧ o ≤ 20 ∧ s ≤ 40 ∧ k < s ∧ l ≤ 20 ∧ S 0 0 = nI o ∧ S 0 1 = nI s ∧ q 379 = nI 1 ∧ q 380 = nI k ∧ ND (fun j => q (381 + j)) S 40 k 0 s l
def RN (G W : Nat) (B R : Bk) (q : Nat → Int32) : Prop := (R 0 0 = -1 ∧ q 621 = nI 0) ∨ ∃ n, n ≤ 200 ∧ 0 < W ∧ q 621 = nI 1 ∧ HB G W (864 * n) n B (sv q) R
def ST (B P S R : Bk) (q : Nat → Int32) (N : Nat → Int64) : Prop := ∃ G W, RBB G W q N B ∧ PL G W P q ∧ SN S q ∧ RN G W B R q
def eqB (B B' : Bk) : Prop := (∀ j, j < 4 → B' 0 j = B 0 j) ∧ (∀ j, j < 6 → B' 1 j = B 1 j ∧ B' 3 j = B 3 j) ∧ (∀ j, j < 8 → B' 2 j = B 2 j ∧ B' 4 j = B 4 j ∧ B' 5 j = B 5 j ∧ B' 6 j = B 6 j) ∧ ∀ j, j < 48 → B' 7 j = B 7 j ∧ B' 8 j = B 8 j ∧ B' 9 j = B 9 j ∧ B' 10 j = B 10 j ∧ B' 11 j = B 11 j
def eqP (P P' : Bk) : Prop := P' 0 0 = P 0 0 ∧ ∀ r j, 1 ≤ r → r ≤ 6 → j < 20 → P' r j = P r j
def eqS (S S' : Bk) : Prop := S' 0 0 = S 0 0 ∧ S' 0 1 = S 0 1 ∧ ∀ j, j < 40 → S' 1 j = S 1 j ∧ S' 2 j = S 2 j ∧ S' 3 j = S 3 j
def eqR (R R' : Bk) : Prop := R' 0 0 = R 0 0 ∧ ∀ k j, 1 ≤ k → k ≤ 11 → j < szR 6 k → R' k j = R k j
/-- how long the rows of the reference's RUN are -/
def lnV (k : Nat) : Nat := if k = 0 ∨ k = 18 then 1 else if k ≤ 4 then 48 else if k = 11 then 36 else if 15 ≤ k then 6 else 8
section MRx
variable {B B' P P' S S' R R' V V' : Bk} {q q' : Nat → Int32} {N N' : Nat → Int64} {G W n M : Nat}
theorem RBB_eq (h : RBB G W q N B) (hB : eqB B B') (hq : ∀ j, j < 278 → q' j = q j) (hN : ∀ j, j < 14 → N' j = N j) : RBB G W q' N' B' := by
  have g6 := h.g6
  have w8 := h.w8
  obtain ⟨e0, e1, e2, e7⟩ := hB
  refine ⟨h.g6, h.w8, ?_, ?_, ?_, ?_, ?_, ?_, ?_, ?_, ?_, ?_, ?_, ?_, ?_, ?_, ?_, ?_⟩
  · rw [e0 0 (by omega)]; exact h.b0
  · rw [e0 1 (by omega)]; exact h.b1
  · rw [e0 3 (by omega)]; exact h.bj
  · rw [hq 0 (by omega)]; exact h.q0
  · rw [hq 1 (by omega)]; exact h.q1
  · rw [hq 2 (by omega), e0 3 (by omega)]; exact h.q2
  · rw [hq 3 (by omega), cnt_eq 48 (fun j hj => (e7 j hj).1)]; exact h.c3
  · rw [hq 4 (by omega), cnt_eq 48 (fun j hj => (e7 j hj).2.2.2.1)]; exact h.c4
  · rw [hq 5 (by omega), cnt_eq 48 (fun j hj => (e7 j hj).2.2.2.2)]; exact h.c5
  · intro g hg
    rw [hq _ (by omega), (e1 g (by omega)).2]; exact h.ls g hg
  · intro w hw
    have e := e2 w (by omega)
    rw [hq _ (by omega), hq _ (by omega), e.2.1, e.2.2.1]; exact h.ft w hw
  · intro w hw
    rw [hq _ (by omega), (e2 w hw).2.2.2]; exact h.mk w hw
  · intro c hc
    have e := e7 c hc
    rw [hq _ (by omega), hq _ (by omega), hq _ (by omega), hq _ (by omega), hq _ (by omega), e.1, e.2.1, e.2.2.1, e.2.2.2.1, e.2.2.2.2]; exact h.ce c hc
  · intro c hc
    have e := e7 c hc
    rw [e.1, e.2.1, e.2.2.1, e.2.2.2.1, e.2.2.2.2]; exact h.cb c hc
  · intro k hk
    rw [(e1 k (by omega)).1, hN _ (by omega)]; exact h.n1 k hk
  · intro k hk
    rw [(e2 k (by omega)).1, hN _ (by omega)]; exact h.n2 k hk
theorem HB_eq (h : HB G W M n B V R) (hW8 : W ≤ 8) (hG6 : G ≤ 6) (hB : eqB B B') (hR : eqR R R') (hV : ∀ k j, k ≠ 5 → k ≠ 6 → k ≠ 7 → k ≤ 18 → j < lnV k → V' k j = V k j) : HB G W M n B' V' R' := by
  obtain ⟨h1, h2, h3, h4, h5, h6, h7, h8, h9⟩ := h
  obtain ⟨r0, rk⟩ := hR
  have l15 : lnV 15 = 6 := by decide
  have l16 : lnV 16 = 6 := by decide
  have l17 : lnV 17 = 6 := by decide
  have l0 : lnV 0 = 1 := by decide
  have l18 : lnV 18 = 1 := by decide
  have l13 : lnV 13 = 8 := by decide
  have l12 : lnV 12 = 8 := by decide
  have l14 : lnV 14 = 8 := by decide
  have s5 : szR 6 5 = 6 := by decide
  have s6 : szR 6 6 = 6 := by decide
  have s7 : szR 6 7 = 6 := by decide
  have s8 : szR 6 8 = 8 := by decide
  have s9 : szR 6 9 = 8 := by decide
  have s1 : szR 6 1 = 48 := by decide
  have s2 : szR 6 2 = 48 := by decide
  refine ⟨fun k j hk hj => ?_, fun g hg => ?_, fun g hg hg2 => ?_, ⟨fun g hg => ?_, fun c hc => ?_⟩, ?_, ?_, ?_, fun w' hw hw2 => ?_, fun w' hw => ?_⟩
  · have hl : j < lnV k := by
      unfold szR at hj
      unfold lnV
      split at hj
      · rw [if_neg (by omega), if_pos (by omega)]; exact hj
      · split at hj
        · omega
        · split at hj
          · rw [if_neg (by omega), if_neg (by omega), if_neg (by omega), if_neg (by omega)]; exact hj
          · rw [if_neg (by omega), if_neg (by omega), if_pos (by omega)]; exact hj
    rw [hV k j (by omega) (by omega) (by omega) (by omega) hl, rk k j (by omega) (by omega) hj]
    exact h1 k j hk hj
  · rw [hV 15 g (by decide) (by decide) (by decide) (by decide) (by first | (rw [l15]; omega) | (rw [l16]; omega) | (rw [l17]; omega) | (rw [l0]; omega) | (rw [l18]; omega) | (rw [l13]; omega) | (rw [l12]; omega) | (rw [l14]; omega)), hV 16 g (by decide) (by decide) (by decide) (by decide) (by first | (rw [l15]; omega) | (rw [l16]; omega) | (rw [l17]; omega) | (rw [l0]; omega) | (rw [l18]; omega) | (rw [l13]; omega) | (rw [l12]; omega) | (rw [l14]; omega)), hV 17 g (by decide) (by decide) (by decide) (by decide) (by first | (rw [l15]; omega) | (rw [l16]; omega) | (rw [l17]; omega) | (rw [l0]; omega) | (rw [l18]; omega) | (rw [l13]; omega) | (rw [l12]; omega) | (rw [l14]; omega)), rk 5 g (by omega) (by omega) (by omega), rk 6 g (by omega) (by omega) (by omega), rk 7 g (by omega) (by omega) (by omega)]
    exact h2 g hg
  · rw [hV 15 g (by decide) (by decide) (by decide) (by decide) (by first | (rw [l15]; omega) | (rw [l16]; omega) | (rw [l17]; omega) | (rw [l0]; omega) | (rw [l18]; omega) | (rw [l13]; omega) | (rw [l12]; omega) | (rw [l14]; omega)), rk 5 g (by omega) (by omega) (by omega)]
    exact h3 g hg hg2
  · rw [rk 5 g (by omega) (by omega) (by omega)]
    exact h4.1 g hg
  · have e := hB.2.2.2 c hc
    rw [rk 1 c (by omega) (by omega) (by omega), rk 2 c (by omega) (by omega) (by omega), e.1, e.2.1]
    exact h4.2 c hc
  · rw [r0]; exact h5
  · rw [hV 0 0 (by decide) (by decide) (by decide) (by decide) (by first | (rw [l15]; omega) | (rw [l16]; omega) | (rw [l17]; omega) | (rw [l0]; omega) | (rw [l18]; omega) | (rw [l13]; omega) | (rw [l12]; omega) | (rw [l14]; omega))]; exact h6
  · rw [hV 18 0 (by decide) (by decide) (by decide) (by decide) (by first | (rw [l15]; omega) | (rw [l16]; omega) | (rw [l17]; omega) | (rw [l0]; omega) | (rw [l18]; omega) | (rw [l13]; omega) | (rw [l12]; omega) | (rw [l14]; omega))]; exact h7
  · rw [hV 13 w' (by decide) (by decide) (by decide) (by decide) (by first | (rw [l15]; omega) | (rw [l16]; omega) | (rw [l17]; omega) | (rw [l0]; omega) | (rw [l18]; omega) | (rw [l13]; omega) | (rw [l12]; omega) | (rw [l14]; omega))]; exact h8 w' hw hw2
  · have h := h9 w' hw
    unfold HBw at h ⊢
    rw [hV 13 w' (by decide) (by decide) (by decide) (by decide) (by first | (rw [l15]; omega) | (rw [l16]; omega) | (rw [l17]; omega) | (rw [l0]; omega) | (rw [l18]; omega) | (rw [l13]; omega) | (rw [l12]; omega) | (rw [l14]; omega)), hV 12 w' (by decide) (by decide) (by decide) (by decide) (by first | (rw [l15]; omega) | (rw [l16]; omega) | (rw [l17]; omega) | (rw [l0]; omega) | (rw [l18]; omega) | (rw [l13]; omega) | (rw [l12]; omega) | (rw [l14]; omega)), hV 14 w' (by decide) (by decide) (by decide) (by decide) (by first | (rw [l15]; omega) | (rw [l16]; omega) | (rw [l17]; omega) | (rw [l0]; omega) | (rw [l18]; omega) | (rw [l13]; omega) | (rw [l12]; omega) | (rw [l14]; omega)), rk 8 w' (by omega) (by omega) (by omega), rk 9 w' (by omega) (by omega) (by omega), r0, (hB.2.2.1 w' (by omega)).2.2.2]
    exact h
theorem PL_eq (h : PL G W P q) (hP : eqP P P') (hq : ∀ j, j < 621 → q' j = q j) : PL G W P' q' := by
  obtain ⟨l, h1, h2, h3, h4⟩ := h
  refine ⟨l, h1, by rw [hP.1]; exact h2, by rw [hq _ (by omega)]; exact h3, fun i hi => ACT_ext (h4 i hi) (fun r r1 r2 => hP.2 r i r1 r2 (by omega)) (fun j hj => hq _ (by omega))⟩
theorem SN_eq (h : SN S q) (hS : eqS S S') (hq : ∀ j, 379 ≤ j → j < 621 → q' j = q j) : SN S' q' := by
  rcases h with ⟨h1, h2⟩ | ⟨o, s, k, l, h1, h2, h3, h4, h5, h6, h7, h8, h9, h10⟩
  · exact Or.inl ⟨by rw [hS.1]; exact h1, by rw [hq _ (by omega) (by omega)]; exact h2⟩
  · refine Or.inr ⟨o, s, k, l, h1, h2, h3, h4, h5, by rw [hS.1]; exact h6, by rw [hS.2.1]; exact h7, by rw [hq _ (by omega) (by omega)]; exact h8, by rw [hq _ (by omega) (by omega)]; exact h9, ND_ext _ _ _ _ _ h10 (fun j hj => hq _ (by omega) (by omega)) (fun i hi => hS.2.2 i (by omega))⟩
theorem ek_lt {k j : Nat} (h5 : k ≠ 5) (h6 : k ≠ 6) (h7 : k ≠ 7) (hk : k ≤ 18) (hj : j < lnV k) : 621 + ek k j < 925 ∧ dk (ek k j) = (k, j) ∧ ek k j < 296 := by
  have hc : k = 0 ∨ k = 1 ∨ k = 2 ∨ k = 3 ∨ k = 4 ∨ k = 8 ∨ k = 9 ∨ k = 10 ∨ k = 11 ∨ k = 12 ∨ k = 13 ∨ k = 14 ∨ k = 15 ∨ k = 16 ∨ k = 17 ∨ k = 18 := by omega
  rcases hc with rfl | rfl | rfl | rfl | rfl | rfl | rfl | rfl | rfl | rfl | rfl | rfl | rfl | rfl | rfl | rfl
  · rw [show lnV 0 = 1 by decide] at hj
    rw [ekI_0]
    refine ⟨by omega, ?_, by omega⟩
    rw [dkI_0 (by omega) (by omega), Nat.add_sub_cancel_left]
  · rw [show lnV 1 = 48 by decide] at hj
    rw [ekI_1]
    refine ⟨by omega, ?_, by omega⟩
    rw [dkI_1 (by omega) (by omega), Nat.add_sub_cancel_left]
  · rw [show lnV 2 = 48 by decide] at hj
    rw [ekI_2]
    refine ⟨by omega, ?_, by omega⟩
    rw [dkI_2 (by omega) (by omega), Nat.add_sub_cancel_left]
  · rw [show lnV 3 = 48 by decide] at hj
    rw [ekI_3]
    refine ⟨by omega, ?_, by omega⟩
    rw [dkI_3 (by omega) (by omega), Nat.add_sub_cancel_left]
  · rw [show lnV 4 = 48 by decide] at hj
    rw [ekI_4]
    refine ⟨by omega, ?_, by omega⟩
    rw [dkI_4 (by omega) (by omega), Nat.add_sub_cancel_left]
  · rw [show lnV 8 = 8 by decide] at hj
    rw [ekI_8]
    refine ⟨by omega, ?_, by omega⟩
    rw [dkI_8 (by omega) (by omega), Nat.add_sub_cancel_left]
  · rw [show lnV 9 = 8 by decide] at hj
    rw [ekI_9]
    refine ⟨by omega, ?_, by omega⟩
    rw [dkI_9 (by omega) (by omega), Nat.add_sub_cancel_left]
  · rw [show lnV 10 = 8 by decide] at hj
    rw [ekI_10]
    refine ⟨by omega, ?_, by omega⟩
    rw [dkI_10 (by omega) (by omega), Nat.add_sub_cancel_left]
  · rw [show lnV 11 = 36 by decide] at hj
    rw [ekI_11]
    refine ⟨by omega, ?_, by omega⟩
    rw [dkI_11 (by omega), Nat.add_sub_cancel_left]
  · rw [show lnV 12 = 8 by decide] at hj
    rw [ekI_12]
    refine ⟨by omega, ?_, by omega⟩
    rw [dkI_12 (by omega) (by omega), Nat.add_sub_cancel_left]
  · rw [show lnV 13 = 8 by decide] at hj
    rw [ekI_13]
    refine ⟨by omega, ?_, by omega⟩
    rw [dkI_13 (by omega) (by omega), Nat.add_sub_cancel_left]
  · rw [show lnV 14 = 8 by decide] at hj
    rw [ekI_14]
    refine ⟨by omega, ?_, by omega⟩
    rw [dkI_14 (by omega) (by omega), Nat.add_sub_cancel_left]
  · rw [show lnV 15 = 6 by decide] at hj
    rw [ekI_15]
    refine ⟨by omega, ?_, by omega⟩
    rw [dkI_15 (by omega) (by omega), Nat.add_sub_cancel_left]
  · rw [show lnV 16 = 6 by decide] at hj
    rw [ekI_16]
    refine ⟨by omega, ?_, by omega⟩
    rw [dkI_16 (by omega) (by omega), Nat.add_sub_cancel_left]
  · rw [show lnV 17 = 6 by decide] at hj
    rw [ekI_17]
    refine ⟨by omega, ?_, by omega⟩
    rw [dkI_17 (by omega) (by omega), Nat.add_sub_cancel_left]
  · rw [show lnV 18 = 1 by decide] at hj
    rw [ekI_18]
    refine ⟨by omega, ?_, by omega⟩
    rw [dkI_18 (by omega) (by omega), Nat.add_sub_cancel_left]
theorem RN_eq (h : RN G W B R q) (hG6 : G ≤ 6) (hW8 : W ≤ 8) (hB : eqB B B') (hR : eqR R R') (hq : ∀ j, 621 ≤ j → j < 925 → q' j = q j) : RN G W B' R' q' := by
  rcases h with ⟨h1, h2⟩ | ⟨n, h1, h2, h3, h4⟩
  · exact Or.inl ⟨by rw [hR.1]; exact h1, by rw [hq _ (by omega) (by omega)]; exact h2⟩
  · exact Or.inr ⟨n, h1, h2, by rw [hq _ (by omega) (by omega)]; exact h3, HB_eq h4 hW8 hG6 hB hR (fun k j a b c hk hj => hq _ (by omega) (ek_lt a b c hk hj).1)⟩
theorem ST_eq (h : ST B P S R q N) (hB : eqB B B') (hP : eqP P P') (hS : eqS S S') (hR : eqR R R') (hq : ∀ j, j < 925 → q' j = q j) (hN : ∀ j, j < 14 → N' j = N j) : ST B' P' S' R' q' N' := by
  obtain ⟨G, W, h1, h2, h3, h4⟩ := h
  exact ⟨G, W, RBB_eq h1 hB (fun j hj => hq j (by omega)) hN, PL_eq h2 hP (fun j hj => hq j (by omega)), SN_eq h3 hS (fun j _ hj => hq j (by omega)), RN_eq h4 h1.g6 h1.w8 hB hR (fun j _ hj => hq j hj)⟩
end MRx
