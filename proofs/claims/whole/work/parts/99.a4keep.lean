/-! a text that is read without a FAULT leaves the fault as it was -/
section MKp
variable {T B P : Bk} {G W l : Nat}
theorem adv_10 : advF T 0 10 = T 0 10 := advF_at (by decide) (by decide) (by decide) (by decide) (by decide)
theorem num_10 : numF T 0 10 = T 0 10 := by
  unfold numF
  rw [adv_10, u2_at, upd_ne (by decide)]
def K10 (T : Bk) (p : PR) : Prop := (p.1 = nI 0 ∨ p.1 = nI 1) ∧ (p.1 = nI 1 → p.2.1 0 10 = T 0 10)
theorem K10_0 {a : Bk × Bk} : K10 T (nI 0, a) := ⟨Or.inl rfl, fun z => absurd (show nI 0 = nI 1 from z) (by decide)⟩
theorem K10_1 {T' P' : Bk} (h : T' 0 10 = T 0 10) : K10 T (nI 1, T', P') := ⟨Or.inr rfl, fun _ => h⟩
theorem ite_10 {c : Prop} [Decidable c] {a b : PR} (h1 : c → K10 T a) (h2 : ¬ c → K10 T b) : K10 T (if c then a else b) := by
  by_cases h : c
  · rw [if_pos h]; exact h1 h
  · rw [if_neg h]; exact h2 h
theorem pStop_10 (w8 : W ≤ 8) : K10 T (pStopF W l B T P) := by
  unfold pStopF
  simp only
  have n2 := findF_or (f := B 2) (n := W) (T := advF T) (by omega)
  generalize findF (B 2) W (advF T) = p at n2 ⊢
  refine ite_10 (fun _ => K10_0) (fun hp => ?_)
  have e2 : p.2 = advF T := by
    rcases n2 with z | ⟨i, _, _, z⟩
    · exact absurd z hp
    · exact z
  rw [e2]
  refine ite_10 (fun _ => ?_) (fun _ => K10_0)
  refine ite_10 (fun _ => K10_1 ?_) (fun _ => K10_0)
  rw [num_10, num_10, adv_10, adv_10]
theorem pBring_10 (g6 : G ≤ 6) (w8 : W ≤ 8) : K10 T (pBringF G W l B T P) := by
  unfold pBringF
  simp only
  have n2 := cellF_or (G := G) (W := W) (B := B) (T := T) g6 w8
  generalize cellF G W B T = p at n2 ⊢
  refine ite_10 (fun _ => K10_0) (fun hp => ?_)
  have e2 : p.2 = advF (advF T) := by
    rcases n2 with z | ⟨i, g, _, _, _, _, _, _, z⟩
    · exact absurd z hp
    · exact z
  rw [e2]
  refine ite_10 (fun _ => K10_0) (fun _ => ?_)
  refine ite_10 (fun _ => ?_) (fun _ => K10_0)
  refine ite_10 (fun _ => K10_1 ?_) (fun _ => K10_0)
  rw [num_10, num_10, adv_10, adv_10, adv_10]
theorem pLine_10 (g6 : G ≤ 6) (w8 : W ≤ 8) : K10 T (pLineF G W l B T P) := by
  unfold pLineF
  refine ite_10 (fun _ => ?_) (fun _ => K10_0)
  refine ite_10 (fun _ => K10_0) (fun _ => ?_)
  exact ite_10 (fun _ => pStop_10 w8) (fun _ => pBring_10 g6 w8)
theorem lnE_10 {p : PR} (h : K10 T p) : K10 T (lnE p) := by
  unfold lnE
  refine ite_10 (fun _ => K10_0) (fun hp => ?_)
  refine ite_10 (fun _ => K10_1 ?_) (fun _ => K10_0)
  rw [adv_10]
  exact h.2 (h.1.elim (fun z => absurd z hp) id)
theorem pLoop_10 (g6 : G ≤ 6) (w8 : W ≤ 8) : ∀ n (T P : Bk), K10 T (pLoopF G W B n T P) := by
  intro n
  induction n with
  | zero => intro T P; exact K10_1 rfl
  | succ n ih =>
    intro T P
    by_cases h5 : T 0 5 = 0
    · rw [pLoopF, if_pos h5]
      exact K10_1 rfl
    · rw [ploop_lnE h5]
      have hl := lnE_10 (pLine_10 (T := T) (l := cl (P 0 0)) (B := B) (P := P) g6 w8)
      generalize lnE (pLineF G W (cl (P 0 0)) B T P) = p at hl ⊢
      refine ite_10 (fun _ => K10_0) (fun hp => ?_)
      have h1 := ih p.2.1 (u2 p.2.2 0 0 (P 0 0 + nI 1))
      refine ⟨h1.1, fun z => (h1.2 z).trans (hl.2 (hl.1.elim (fun z => absurd z hp) id))⟩
theorem open_10 {mo : Int32} : openF mo T 0 10 = nI 0 := by
  unfold openF
  rw [adv_10]
  simp (disch := omega) only [u2_at, upd_at, upd_ne]
theorem pFrom_10 (g6 : G ≤ 6) (w8 : W ≤ 8) : ((pFromF G W B T P).1 = nI 0 ∨ (pFromF G W B T P).1 = nI 1) ∧ ((pFromF G W B T P).1 = nI 1 → (pFromF G W B T P).2.1 0 10 = nI 0) := by
  unfold pFromF
  have h := pLoop_10 (B := B) g6 w8 21 (openF (nI 300) T) (u2 P 0 0 (nI 0))
  generalize pLoopF G W B 21 (openF (nI 300) T) (u2 P 0 0 (nI 0)) = F at h ⊢
  exact ⟨h.1, fun z => (h.2 z).trans open_10⟩
end MKp
