/-! each LINE of a BROOK takes two bytes at least, so that the class's count of LINES ends no text -/
section MFu
variable {T B : Bk} {G W : Nat}
theorem adv_nx (h : tpOk T) : cl (T 0 4) ≤ cl (advF T 0 4) ∧ (¬ advF T 0 5 = nI 0 → ¬ advF T 0 5 = nI 1 → cl (T 0 4) < cl (advF T 0 4)) := by
  obtain ⟨L, M, h1, h2, h3, h4⟩ := h
  have hb := advI_b h1 h2 h3 h4
  rw [h4, cl_nI (by omega)]
  unfold advF
  by_cases c1 : T 0 3 ≤ nI (advI T) ∧ T 0 3 < T 0 2
  · rw [if_pos c1]
    simp (disch := omega) only [u2_at, upd_at, upd_ne]
    rw [cl_nI (by omega)]
    exact ⟨hb.1, fun _ z => absurd trivial z⟩
  · rw [if_neg c1]
    by_cases c2 : cl (T 0 2) ≤ advI T
    · rw [if_pos c2]
      simp (disch := omega) only [u2_at, upd_at, upd_ne]
      rw [h3, cl_nI (by omega)]
      exact ⟨h2, fun z => absurd trivial z⟩
    · rw [if_neg c2]
      rw [h3, cl_nI (by omega)] at c2 ⊢
      obtain ⟨M2, k1, k2, k3⟩ := tokF_at4 (T := u2 (u2 (u2 T 0 7 (nI 0)) 0 8 (-1)) 0 6 (nI (advI T))) (show advI T < L by omega)
      rw [k3, cl_nI (by omega)]
      exact ⟨by omega, fun _ _ => by omega⟩
theorem num_nx (h : tpOk T) : cl (T 0 4) ≤ cl (numF T 0 4) := by
  have := (adv_nx (u2_ok (i := 9) (x := T 0 7) (by decide) (by decide) h)).1
  rw [u2_at, upd_ne (by decide)] at this
  unfold numF
  exact this
theorem adv_nm (h : tpOk T) (hp : advF T 0 5 = nI 2) : cl (T 0 4) + 1 ≤ cl (advF T 0 4) := (adv_nx h).2 (by rw [hp]; decide) (by rw [hp]; decide)
def GR (T : Bk) (p : PR) : Prop := p.1 = nI 1 → sgP (nI 59) p.2.1 → cl (T 0 4) + 1 ≤ cl (p.2.1 0 4)
theorem GR_0 {T' B' : Bk} : GR T (nI 0, T', B') := fun z => absurd (show nI 0 = nI 1 from z) (by decide)
theorem ite_gr {c : Prop} [Decidable c] {a b : PR} (h1 : c → GR T a) (h2 : ¬ c → GR T b) : GR T (if c then a else b) := by
  by_cases h : c
  · rw [if_pos h]; exact h1 h
  · rw [if_neg h]; exact h2 h
theorem findF_nm {f : Nat → Int32} {n : Nat} (h : ¬ (findF f n T).1 = -1) : T 0 5 = nI 2 := by
  unfold findF at h
  by_cases hc : T 0 5 = nI 2 ∧ T 0 8 = -1
  · exact hc.1
  · rw [if_neg hc] at h
    exact absurd rfl h
theorem newF_nm (h : (newF G W B T).1 = nI 1) : T 0 5 = nI 2 ∧ (newF G W B T).2 = T := by
  unfold newF at h ⊢
  by_cases hc : T 0 5 = nI 2 ∧ T 0 8 = -1
  · rw [if_pos hc] at h ⊢
    by_cases hd : nmF (B 1) (T 0 7) G = -1 ∧ nmF (B 2) (T 0 7) W = -1
    · rw [if_pos hd]
      exact ⟨hc.1, rfl⟩
    · rw [if_neg hd] at h
      exact absurd (show nI 0 = nI 1 from h) (by decide)
  · rw [if_neg hc] at h
    exact absurd (show nI 0 = nI 1 from h) (by decide)
theorem rNewF_nx {k c : Nat} (hT : tpOk T) (h : (rNewF k c T B).1 = nI 1) : cl (T 0 4) ≤ cl ((rNewF k c T B).2.1 0 4) ∧ tpOk (rNewF k c T B).2.1 := by
  unfold rNewF at h ⊢
  by_cases hc : 0 < B k c
  · rw [if_pos hc] at h
    exact absurd (show nI 0 = nI 1 from h) (by decide)
  · rw [if_neg hc] at h ⊢
    by_cases hd : numP (nI 1) (nI 9) (advF T)
    · rw [if_pos hd]
      dsimp only
      exact ⟨Nat.le_trans (adv_nx hT).1 (num_nx (advF_ok hT)), numF_ok (advF_ok hT)⟩
    · rw [if_neg hd] at h
      exact absurd (show nI 0 = nI 1 from h) (by decide)
theorem cell_nx (hG : G ≤ 6) (hW : W ≤ 8) (hT : tpOk T) (h : ¬ (cellF G W B T).1 = -1) : cl (T 0 4) + 1 ≤ cl ((cellF G W B T).2 0 4) ∧ tpOk (cellF G W B T).2 := by
  rcases cellF_or (G := G) (W := W) (B := B) (T := T) hG hW with e | ⟨w, g, hw, hg, e1, e2, e3, e4, e5⟩
  · exact absurd e h
  · rw [e5]
    have n1 := findF_nm (f := B 2) (n := W) (T := advF T) (by rw [e2, nI_m1 (by omega)]; exact id)
    exact ⟨Nat.le_trans (adv_nm hT n1) (adv_nx (advF_ok hT)).1, advF_ok (advF_ok hT)⟩
theorem amount_nx {k : Nat} (hG : G ≤ 6) (hW : W ≤ 8) (hT : tpOk T) : GR T (rAmountF G W k T B) := by
  unfold rAmountF
  simp only
  refine ite_gr (fun _ => GR_0) (fun hc h _ => ?_)
  have h1 := cell_nx hG hW hT hc
  exact Nat.le_trans h1.1 (rNewF_nx h1.2 h).1
theorem takes_nx (hG : G ≤ 6) (hW : W ≤ 8) (hT : tpOk T) : GR T (rTakesF G W T B) := by
  unfold rTakesF
  simp only
  refine ite_gr (fun _ => GR_0) (fun hc => ?_)
  have h1 := cell_nx hG hW hT hc
  have h2 := rNewF_nx (k := 7) (c := cl (cellF G W B T).1) (B := B) h1.2
  have hB : (rNewF 7 (cl (cellF G W B T).1) (cellF G W B T).2 B).1 = nI 0 ∨ (rNewF 7 (cl (cellF G W B T).1) (cellF G W B T).2 B).1 = nI 1 := by
    unfold rNewF
    by_cases a : 0 < B 7 (cl (cellF G W B T).1)
    · rw [if_pos a]; exact Or.inl rfl
    · rw [if_neg a]
      by_cases b : numP (nI 1) (nI 9) (advF (cellF G W B T).2)
      · rw [if_pos b]; exact Or.inr rfl
      · rw [if_neg b]; exact Or.inl rfl
  generalize rNewF 7 (cl (cellF G W B T).1) (cellF G W B T).2 B = q at h2 hB ⊢
  refine ite_gr (fun _ => GR_0) (fun hq => ?_)
  have h3 := h2 (hB.resolve_left hq)
  refine ite_gr (fun _ => ?_) (fun _ => GR_0)
  refine ite_gr (fun _ => ?_) (fun _ => GR_0)
  intro _ _
  dsimp only
  exact Nat.le_trans (Nat.le_trans h1.1 h3.1) (Nat.le_trans (num_nx h3.2) (num_nx (numF_ok h3.2)))
theorem good_nx (hT : tpOk T) : GR T (rGoodF G W T B) := by
  unfold rGoodF
  simp only
  refine ite_gr (fun _ => GR_0) (fun _ => ?_)
  have h2 := newF_nm (G := G) (W := W) (B := B) (T := advF T)
  have h3 := newF_or (G := G) (W := W) (B := B) (T := advF T)
  generalize newF G W B (advF T) = p at h2 h3 ⊢
  refine ite_gr (fun _ => GR_0) (fun hp => ?_)
  have h4 := h2 (h3.elim (fun z => z.1) (fun z => absurd z hp))
  rw [h4.2]
  have k1 := adv_nm hT h4.1
  have k2 := advF_ok hT
  refine ite_gr (fun _ => ?_) (fun _ => GR_0)
  intro _ _
  dsimp only
  exact Nat.le_trans k1 (Nat.le_trans (adv_nx k2).1 (num_nx (advF_ok k2)))
theorem work_nx (hT : tpOk T) : GR T (rWorkF G W T B) := by
  unfold rWorkF
  simp only
  refine ite_gr (fun _ => GR_0) (fun _ => ?_)
  have h2 := newF_nm (G := G) (W := W) (B := B) (T := advF T)
  have h3 := newF_or (G := G) (W := W) (B := B) (T := advF T)
  generalize newF G W B (advF T) = p at h2 h3 ⊢
  refine ite_gr (fun _ => GR_0) (fun hp => ?_)
  have h4 := h2 (h3.elim (fun z => z.1) (fun z => absurd z hp))
  rw [h4.2]
  have k1 := adv_nm hT h4.1
  have k2 := advF_ok hT
  have k3 := Nat.le_trans k1 (adv_nx k2).1
  refine ite_gr (fun _ => ?_) (fun _ _ _ => by dsimp only; exact k3)
  refine ite_gr (fun _ => ?_) (fun _ => GR_0)
  refine ite_gr (fun _ _ _ => ?_) (fun _ => GR_0)
  dsimp only
  exact Nat.le_trans k3 (Nat.le_trans (num_nx (advF_ok k2)) (num_nx (numF_ok (advF_ok k2))))
theorem makes_nx (hT : tpOk T) (hW : W ≤ 8) : GR T (rMakesF W T B) := by
  unfold rMakesF
  simp only
  have n1 := findF_nm (f := B 2) (n := W) (T := advF T)
  have n2 := findF_or (f := B 2) (n := W) (T := advF T) (by omega)
  generalize findF (B 2) W (advF T) = p at n1 n2 ⊢
  refine ite_gr (fun _ => GR_0) (fun hp => ?_)
  have k1 := adv_nm hT (n1 hp)
  have k2 := advF_ok hT
  have e2 : p.2 = advF T := by
    rcases n2 with z | ⟨i, _, _, z⟩
    · exact absurd z hp
    · exact z
  rw [e2]
  refine ite_gr (fun _ => GR_0) (fun _ => ?_)
  refine ite_gr (fun _ _ _ => ?_) (fun _ => GR_0)
  dsimp only
  exact Nat.le_trans k1 (Nat.le_trans (adv_nx k2).1 (num_nx (advF_ok k2)))
theorem join_nx (hT : tpOk T) : GR T (rJoinF T B) := by
  unfold rJoinF
  refine ite_gr (fun _ _ hs => ?_) (fun _ => GR_0)
  have h4 : advF T 0 5 = nI 4 := hs.1
  dsimp only
  exact (adv_nx hT).2 (by rw [h4]; decide) (by rw [h4]; decide)
theorem line_nx (hG : G ≤ 6) (hW : W ≤ 8) (hT : tpOk T) : GR T (rLineF G W T B) := by
  unfold rLineF
  refine ite_gr (fun _ => good_nx hT) (fun _ => ?_)
  refine ite_gr (fun _ => work_nx hT) (fun _ => ?_)
  refine ite_gr (fun _ => takes_nx hG hW hT) (fun _ => ?_)
  refine ite_gr (fun _ => amount_nx hG hW hT) (fun _ => ?_)
  refine ite_gr (fun _ => makes_nx hT hW) (fun _ => ?_)
  refine ite_gr (fun _ => amount_nx hG hW hT) (fun _ => ?_)
  exact ite_gr (fun _ => join_nx hT) (fun _ => GR_0)
end MFu
