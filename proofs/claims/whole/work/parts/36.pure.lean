/-! the reference's HOUR against the class's, both as functions of rows -/
theorem u2_comm {R : Bk} {k l i j : Nat} {x y : Int32} (h : k ≠ l) : u2 (u2 R k i x) l j y = u2 (u2 R l j y) k i x := by
  funext a
  by_cases h1 : a = k
  · subst h1
    rw [u2_row h, u2_at, u2_at, u2_row h]
  · by_cases h2 : a = l
    · subst h2
      rw [u2_at, u2_row h1, u2_row h1, u2_at]
    · rw [u2_row h2, u2_row h1, u2_row h1, u2_row h2]
def szR (G k : Nat) : Nat := if k ≤ 4 then 48 else if k ≤ 7 then G else if k ≤ 10 then 8 else 36
/-- alike in the rows 1 to 11, as far as they go -/
def eqM (G : Nat) (V R : Bk) : Prop := ∀ k j, 1 ≤ k → k ≤ 11 → j < szR G k → V k j = R k j
section MPu
variable {G W N : Nat} {V R B : Bk} {f : Nat → Int32}
theorem eqM_u2 {k j : Nat} {x : Int32} (h : eqM G V R) : eqM G (u2 V k j x) (u2 R k j x) := by
  intro a b h1 h2 h3
  by_cases ha : a = k
  · subst ha
    rw [u2_at, u2_at]
    by_cases hb : b = j
    · subst hb; rw [upd_at, upd_at]
    · rw [upd_ne hb, upd_ne hb]; exact h a b h1 h2 h3
  · rw [u2_row ha, u2_row ha]; exact h a b h1 h2 h3
theorem eqM_r {k j : Nat} {x : Int32} (h : eqM G V R) (hx : x = R k j) : eqM G V (u2 R k j x) := by
  intro a b h1 h2 h3
  by_cases ha : a = k
  · subst ha
    rw [u2_at]
    by_cases hb : b = j
    · subst hb; rw [upd_at, hx]; exact h a b h1 h2 h3
    · rw [upd_ne hb]; exact h a b h1 h2 h3
  · rw [u2_row ha]; exact h a b h1 h2 h3
theorem eqM_l {k j : Nat} {x : Int32} (h : eqM G V R) (hk : 11 < k ∨ k = 0) : eqM G (u2 V k j x) R := by
  intro a b h1 h2 h3
  rw [u2_row (by omega)]
  exact h a b h1 h2 h3
theorem eqM_l2 {k j : Nat} {x : Int32} (h : eqM G V R) (hx : x = V k j) : eqM G (u2 V k j x) R := by
  intro a b h1 h2 h3
  by_cases ha : a = k
  · subst ha
    rw [u2_at]
    by_cases hb : b = j
    · subst hb; rw [upd_at, hx]; exact h a b h1 h2 h3
    · rw [upd_ne hb]; exact h a b h1 h2 h3
  · rw [u2_row ha]; exact h a b h1 h2 h3
/-- what is told: the reference's rule and the class's BROOK -/
def FB (G W : Nat) (f : Nat → Int32) (B : Bk) : Prop :=
  f 2 = B 0 3 ∧ (B 0 3 = nI 0 ∨ B 0 3 = nI 1) ∧ (∀ g, g < G → f (8 + g) = B 3 g ∧ ∃ l, l ≤ 9 ∧ B 3 g = nI l)
  ∧ (∀ w, w < W → f (14 + w) = B 4 w ∧ f (22 + w) = B 5 w ∧ f (30 + w) = B 6 w)
  ∧ (∀ c, c < 48 → f (38 + c) = B 7 c ∧ f (86 + c) = B 8 c ∧ f (134 + c) = B 9 c ∧ f (182 + c) = B 10 c ∧ f (230 + c) = B 11 c)
  ∧ ∀ c, c < 48 → ∃ t s a v e, t ≤ 9 ∧ s ≤ 200 ∧ a ≤ s ∧ v ≤ 9 ∧ e ≤ 9 ∧ (t = 0 → s = 0) ∧ B 7 c = nI t ∧ B 8 c = nI s ∧ B 9 c = nI a ∧ B 10 c = nI v ∧ B 11 c = nI e
/-- what a RUN holds to while it goes -/
def RI (G N : Nat) (B R : Bk) : Prop :=
  (∀ g, g < G → ∃ s, s ≤ N ∧ R 5 g = nI s) ∧ ∀ c, c < 48 → ∃ v s, v ≤ s ∧ s ≤ 200 ∧ R 1 c = nI v ∧ B 8 c = nI s ∧ (B 7 c = nI 0 → R 2 c = nI 0)
theorem mn1 {a b : Nat} (ha : a < 2 ^ 31) (hb : b < 2 ^ 31) : (if nI a < nI b then nI a else nI b) = nI (min a b) := by
  by_cases h : a < b
  · rw [if_pos ((nI_ltI ha hb).mpr h), Nat.min_eq_left (by omega)]
  · rw [if_neg (fun z => h ((nI_ltI ha hb).mp z)), Nat.min_eq_right (by omega)]
theorem mn2 {a b : Nat} (ha : a < 2 ^ 31) (hb : b < 2 ^ 31) : (if nI b < nI a then nI b else nI a) = nI (min a b) := by
  rw [Nat.min_comm]; exact mn1 hb ha
theorem nI_le0 {a : Nat} (ha : a < 2 ^ 31) : (nI a ≤ 0) = (a = 0) := by
  rw [← nI_0, nI_lq ha (by decide)]
  exact propext Nat.le_zero
theorem lose_rel {g : Nat} (hF : FB G W f B) (hN : N < 2 ^ 30) (hG6 : G ≤ 6) (hg : g < G) (hE : eqM G V R) (hR : RI G N B R) : eqM G (loseV f g V) (loseF B g R) ∧ RI G N B (loseF B g R) := by
  obtain ⟨s, hs, es⟩ := hR.1 g hg
  obtain ⟨hf, l, hl, el⟩ := hF.2.2.1 g hg
  have e5 : V 5 g = nI s := (hE 5 g (by decide) (by decide) (by unfold szR; simp; omega)).trans es
  have e11 : V 11 (24 + g) = R 11 (24 + g) := hE 11 (24 + g) (by decide) (by decide) (by unfold szR; simp; omega)
  have hm : min s l ≤ s := Nat.min_le_left s l
  have hV : loseV f g V = if s - min s l = 0 then u2 (u2 (u2 (u2 V 5 g (nI (s - min s l))) 11 (24 + g) (R 11 (24 + g) + nI (min s l))) 6 g (nI 0)) 7 g (nI 0) else u2 (u2 V 5 g (nI (s - min s l))) 11 (24 + g) (R 11 (24 + g) + nI (min s l)) := by
    unfold loseV
    simp only [e5, hf, el, e11, mn1 (show s < 2 ^ 31 by omega) (show l < 2 ^ 31 by omega), nI_subq hm, nI_le0 (show s - min s l < 2 ^ 31 by omega)]
  have hRl : loseF B g R = if s - min s l = 0 then u2 (u2 (u2 (u2 R 11 (24 + g) (R 11 (24 + g) + nI (min s l))) 5 g (nI (s - min s l))) 6 g (nI 0)) 7 g (nI 0) else u2 (u2 R 11 (24 + g) (R 11 (24 + g) + nI (min s l))) 5 g (nI (s - min s l)) := by
    unfold loseF lessenF
    simp only [el, es, mn2 (show s < 2 ^ 31 by omega) (show l < 2 ^ 31 by omega), u2_row (show (5 : Nat) ≠ 11 by decide), nI_subq hm, nI_ez (show s - min s l < 2 ^ 31 by omega)]
  have ri : RI G N B (u2 (u2 R 11 (24 + g) (R 11 (24 + g) + nI (min s l))) 5 g (nI (s - min s l))) := by
    refine ⟨fun g' hg' => ?_, fun c hc => ?_⟩
    · by_cases hgg : g' = g
      · subst hgg
        exact ⟨s - min s l, by omega, by rw [u2_at, upd_at]⟩
      · obtain ⟨s', hs', es'⟩ := hR.1 g' hg'
        exact ⟨s', hs', by rw [u2_at, upd_ne hgg, u2_row (by decide)]; exact es'⟩
    · obtain ⟨v, z, k1, k2, k3, k4, k5⟩ := hR.2 c hc
      exact ⟨v, z, k1, k2, by rw [u2_row (by decide), u2_row (by decide)]; exact k3, k4, fun h => by rw [u2_row (by decide), u2_row (by decide)]; exact k5 h⟩
  rw [hV, hRl, u2_comm (show (5 : Nat) ≠ 11 by decide)]
  by_cases h0 : s - min s l = 0
  · rw [if_pos h0, if_pos h0]
    refine ⟨eqM_u2 (eqM_u2 (eqM_u2 (eqM_u2 hE))), ?_⟩
    refine ⟨fun g' hg' => ?_, fun c hc => ?_⟩
    · obtain ⟨s', hs', es'⟩ := ri.1 g' hg'
      exact ⟨s', hs', by rw [u2_row (by decide), u2_row (by decide)]; exact es'⟩
    · obtain ⟨v, z, k1, k2, k3, k4, k5⟩ := ri.2 c hc
      exact ⟨v, z, k1, k2, by rw [u2_row (by decide), u2_row (by decide)]; exact k3, k4, fun h => by rw [u2_row (by decide), u2_row (by decide)]; exact k5 h⟩
  · rw [if_neg h0, if_neg h0]
    exact ⟨eqM_u2 (eqM_u2 hE), ri⟩
end MPu
