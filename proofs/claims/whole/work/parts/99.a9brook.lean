section MBk
variable {T B : Bk} {G W : Nat}
theorem new_b {k c : Nat} : KB T (rNewF k c T B) := by
  unfold rNewF
  refine ite_b (fun _ => KB_0 fail_r) (fun _ => ?_)
  refine ite_b (fun _ => KB_1 ?_ ?_) (fun _ => KB_0 ?_)
  · rw [num_10, adv_10]
  · rw [num_r, adv_r]
  · rw [fail_r, adv_r]
theorem cell_s (g6 : G ≤ 6) (w8 : W ≤ 8) (h : ¬ (cellF G W B T).1 = -1) : (cellF G W B T).2 = advF (advF T) := by
  rcases cellF_or (G := G) (W := W) (B := B) (T := T) g6 w8 with z | ⟨i, g, _, _, _, _, _, _, z⟩
  · exact absurd z h
  · exact z
theorem amount_b {k : Nat} (g6 : G ≤ 6) (w8 : W ≤ 8) : KB T (rAmountF G W k T B) := by
  unfold rAmountF
  simp only
  have hc := cell_s (B := B) (T := T) g6 w8
  have hr := cell_r (G := G) (W := W) (B := B) (T := T)
  generalize cellF G W B T = p at hc hr ⊢
  refine ite_b (fun _ => KB_0 hr) (fun hp => ?_)
  rw [hc hp]
  exact KB_t new_b (adv_10.trans adv_10) (adv_r.trans adv_r)
theorem takes_b (g6 : G ≤ 6) (w8 : W ≤ 8) : KB T (rTakesF G W T B) := by
  unfold rTakesF
  simp only
  have hc := cell_s (B := B) (T := T) g6 w8
  have hr := cell_r (G := G) (W := W) (B := B) (T := T)
  generalize cellF G W B T = p at hc hr ⊢
  refine ite_b (fun _ => KB_0 hr) (fun hp => ?_)
  rw [hc hp]
  have hn : KB T (rNewF 7 (cl p.1) (advF (advF T)) B) := KB_t new_b (adv_10.trans adv_10) (adv_r.trans adv_r)
  generalize rNewF 7 (cl p.1) (advF (advF T)) B = q at hn ⊢
  refine ite_b (fun _ => KB_0 hn.2) (fun hq => ?_)
  have hs := KB_s hn hq
  refine ite_b (fun _ => ?_) (fun _ => KB_0 (fail_r.trans hs.2))
  refine ite_b (fun _ => KB_1 ?_ ?_) (fun _ => KB_0 ?_)
  · rw [num_10, num_10]; exact hs.1
  · rw [num_r, num_r]; exact hs.2
  · rw [fail_r, num_r]; exact hs.2
theorem new_r : (newF G W B T).2 2 = T 2 := by
  by_cases h1 : T 0 5 = nI 2 ∧ T 0 8 = -1
  · by_cases h2 : nmF (B 1) (T 0 7) G = -1 ∧ nmF (B 2) (T 0 7) W = -1
    · have e : newF G W B T = (nI 1, T) := by
        unfold newF
        rw [if_pos h1, if_pos h2]
      rw [e]
    · have e : newF G W B T = (nI 0, failF (nI 3) T) := by
        unfold newF
        rw [if_pos h1, if_neg h2]
      rw [e]
      dsimp only
      exact fail_r
  · have e : newF G W B T = (nI 0, failF (nI 1) T) := if_neg h1
    rw [e]
    dsimp only
    exact fail_r
theorem good_b : KB T (rGoodF G W T B) := by
  unfold rGoodF
  simp only
  refine ite_b (fun _ => KB_0 fail_r) (fun _ => ?_)
  have h2 := newF_or (G := G) (W := W) (B := B) (T := advF T)
  have h3 := new_r (G := G) (W := W) (B := B) (T := advF T)
  generalize newF G W B (advF T) = p at h2 h3 ⊢
  refine ite_b (fun _ => KB_0 (h3.trans adv_r)) (fun hp => ?_)
  have e : p.2 = advF T := h2.elim (fun z => z.2) (fun z => absurd z hp)
  rw [e]
  refine ite_b (fun _ => KB_1 ?_ ?_) (fun _ => KB_0 ?_)
  · rw [num_10, adv_10, adv_10]
  · rw [num_r, adv_r, adv_r]
  · rw [fail_r, adv_r, adv_r]
theorem work_b : KB T (rWorkF G W T B) := by
  unfold rWorkF
  simp only
  refine ite_b (fun _ => KB_0 fail_r) (fun _ => ?_)
  have h2 := newF_or (G := G) (W := W) (B := B) (T := advF T)
  have h3 := new_r (G := G) (W := W) (B := B) (T := advF T)
  generalize newF G W B (advF T) = p at h2 h3 ⊢
  refine ite_b (fun _ => KB_0 (h3.trans adv_r)) (fun hp => ?_)
  have e : p.2 = advF T := h2.elim (fun z => z.2) (fun z => absurd z hp)
  rw [e]
  refine ite_b (fun _ => ?_) (fun _ => KB_1 (adv_10.trans adv_10) (adv_r.trans adv_r))
  refine ite_b (fun _ => ?_) (fun _ => KB_0 (fail_r.trans (adv_r.trans adv_r)))
  refine ite_b (fun _ => KB_1 ?_ ?_) (fun _ => KB_0 ?_)
  · rw [num_10, num_10, adv_10, adv_10]
  · rw [num_r, num_r, adv_r, adv_r]
  · rw [fail_r, num_r, adv_r, adv_r]
theorem makes_b (w8 : W ≤ 8) : KB T (rMakesF W T B) := by
  unfold rMakesF
  simp only
  have a1 := find_r (T := advF T) (f := B 2) (n := W)
  have a2 := findF_or (f := B 2) (n := W) (T := advF T) (by omega)
  generalize findF (B 2) W (advF T) = p at a1 a2 ⊢
  refine ite_b (fun _ => KB_0 (a1.trans adv_r)) (fun hp => ?_)
  have e : p.2 = advF T := a2.elim (fun z => absurd z hp) (fun ⟨_, _, _, z⟩ => z)
  rw [e]
  refine ite_b (fun _ => KB_0 (fail_r.trans adv_r)) (fun _ => ?_)
  refine ite_b (fun _ => KB_1 ?_ ?_) (fun _ => KB_0 ?_)
  · rw [num_10, adv_10, adv_10]
  · rw [num_r, adv_r, adv_r]
  · rw [fail_r, adv_r, adv_r]
theorem join_b : KB T (rJoinF T B) := by
  unfold rJoinF
  exact ite_b (fun _ => KB_1 adv_10 adv_r) (fun _ => KB_0 fail_r)
theorem line_b (g6 : G ≤ 6) (w8 : W ≤ 8) : KB T (rLineF G W T B) := by
  unfold rLineF
  refine ite_b (fun _ => good_b) (fun _ => ?_)
  refine ite_b (fun _ => work_b) (fun _ => ?_)
  refine ite_b (fun _ => takes_b g6 w8) (fun _ => ?_)
  refine ite_b (fun _ => amount_b g6 w8) (fun _ => ?_)
  refine ite_b (fun _ => makes_b w8) (fun _ => ?_)
  refine ite_b (fun _ => amount_b g6 w8) (fun _ => ?_)
  exact ite_b (fun _ => join_b) (fun _ => KB_0 fail_r)
end MBk
