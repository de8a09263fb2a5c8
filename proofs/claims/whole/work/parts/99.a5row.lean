/-! reading leaves the table of told WORDS alone -/
section MRo2
variable {T B P : Bk} {G W l : Nat}
theorem adv_r : advF T 2 = T 2 := advF_row (by decide)
theorem num_r : numF T 2 = T 2 := by
  unfold numF
  rw [adv_r, u2_row (by decide)]
theorem fail_r {e : Int32} : failF e T 2 = T 2 := by
  unfold failF
  rw [u2_row (by decide), u2_row (by decide)]
def KW2 (T : Bk) (p : PR) : Prop := p.2.1 2 = T 2
theorem KW2_mk {r : Int32} {T' P' : Bk} (h : T' 2 = T 2) : KW2 T (r, T', P') := h
theorem ite_r {c : Prop} [Decidable c] {a b : PR} (h1 : c → KW2 T a) (h2 : ¬ c → KW2 T b) : KW2 T (if c then a else b) := by
  by_cases h : c
  · rw [if_pos h]; exact h1 h
  · rw [if_neg h]; exact h2 h
theorem find_r {f : Nat → Int32} {n : Nat} : (findF f n T).2 2 = T 2 := by
  by_cases h1 : nmP T
  · by_cases h2 : nmF f (T 0 7) n = -1
    · rw [findF_3 h1 h2]
      dsimp only
      exact fail_r
    · have e : findF f n T = (nmF f (T 0 7) n, T) := by
        unfold findF
        rw [if_pos h1, if_neg h2]
      rw [e]
  · rw [findF_1 h1]
    dsimp only
    exact fail_r
theorem cell_r : (cellF G W B T).2 2 = T 2 := by
  unfold cellF
  simp only
  have h1 := find_r (T := advF T) (f := B 2) (n := W)
  generalize findF (B 2) W (advF T) = a at h1 ⊢
  by_cases c1 : a.1 = -1
  · rw [if_pos c1]
    dsimp only
    rw [h1, adv_r]
  · rw [if_neg c1]
    have h2 := find_r (T := advF a.2) (f := B 1) (n := G)
    generalize findF (B 1) G (advF a.2) = g at h2 ⊢
    by_cases c2 : g.1 = -1
    · rw [if_pos c2]
      dsimp only
      rw [h2, adv_r, h1, adv_r]
    · rw [if_neg c2]
      dsimp only
      rw [h2, adv_r, h1, adv_r]
theorem pStop_r : KW2 T (pStopF W l B T P) := by
  unfold pStopF
  simp only
  have n2 := find_r (f := B 2) (n := W) (T := advF T)
  generalize findF (B 2) W (advF T) = p at n2 ⊢
  rw [adv_r] at n2
  refine ite_r (fun _ => KW2_mk n2) (fun hp => ?_)
  refine ite_r (fun _ => ?_) (fun _ => KW2_mk (by rw [fail_r, adv_r, n2]))
  refine ite_r (fun _ => KW2_mk ?_) (fun _ => KW2_mk ?_)
  · rw [num_r, num_r, adv_r, n2]
  · rw [fail_r, num_r, adv_r, n2]
theorem pBring_r : KW2 T (pBringF G W l B T P) := by
  unfold pBringF
  simp only
  have n2 := cell_r (G := G) (W := W) (B := B) (T := T)
  generalize cellF G W B T = p at n2 ⊢
  refine ite_r (fun _ => KW2_mk n2) (fun hp => ?_)
  refine ite_r (fun _ => KW2_mk (by rw [fail_r, n2])) (fun _ => ?_)
  refine ite_r (fun _ => ?_) (fun _ => KW2_mk (by rw [fail_r, adv_r, n2]))
  refine ite_r (fun _ => KW2_mk ?_) (fun _ => KW2_mk ?_)
  · rw [num_r, num_r, adv_r, n2]
  · rw [fail_r, num_r, adv_r, n2]
theorem pLine_r : KW2 T (pLineF G W l B T P) := by
  unfold pLineF
  refine ite_r (fun _ => ?_) (fun _ => KW2_mk fail_r)
  refine ite_r (fun _ => KW2_mk fail_r) (fun _ => ?_)
  exact ite_r (fun _ => pStop_r) (fun _ => pBring_r)
theorem lnE_r {p : PR} (h : KW2 T p) : KW2 T (lnE p) := by
  unfold KW2 at h
  unfold lnE
  refine ite_r (fun _ => h) (fun hp => ?_)
  exact ite_r (fun _ => KW2_mk (by rw [adv_r, h])) (fun _ => KW2_mk (by rw [fail_r, h]))
theorem pLoop_r : ∀ n (T P : Bk), KW2 T (pLoopF G W B n T P) := by
  intro n
  induction n with
  | zero => intro T P; exact KW2_mk rfl
  | succ n ih =>
    intro T P
    by_cases h5 : T 0 5 = 0
    · rw [pLoopF, if_pos h5]
      exact KW2_mk rfl
    · rw [ploop_lnE h5]
      have hl := lnE_r (pLine_r (T := T) (G := G) (W := W) (l := cl (P 0 0)) (B := B) (P := P))
      generalize lnE (pLineF G W (cl (P 0 0)) B T P) = p at hl ⊢
      unfold KW2 at hl
      refine ite_r (fun _ => hl) (fun hp => ?_)
      have h1 := ih p.2.1 (u2 p.2.2 0 0 (P 0 0 + nI 1))
      unfold KW2 at h1 ⊢
      rw [h1, hl]
theorem pFrom_r : (pFromF G W B T P).2.1 2 = T 2 := by
  unfold pFromF
  have h := pLoop_r (G := G) (W := W) (B := B) 21 (openF (nI 300) T) (u2 P 0 0 (nI 0))
  generalize pLoopF G W B 21 (openF (nI 300) T) (u2 P 0 0 (nI 0)) = F at h ⊢
  unfold KW2 at h
  rw [h]
  unfold openF
  rw [adv_r]
  simp (disch := omega) only [u2_row]
end MRo2
