/-! two RUNS in like STATES go on alike -/
def LK (G : Nat) (d : Nat → Int32) (R R' : Bk) : Prop := (∀ c, c < 48 → R 1 c = R' 1 c) ∧ (∀ g, g < G → R 5 g = R' 5 g) ∧ ∀ w, w < 8 → R 8 w - R' 8 w = d w
section MLk
variable {G W : Nat} {R R' B : Bk} {d : Nat → Int32}
theorem LK_ol {k j : Nat} {x : Int32} (h : LK G d R R') (h1 : k ≠ 1) (h5 : k ≠ 5) (h8 : k ≠ 8) : LK G d (u2 R k j x) R' := by
  unfold LK
  rw [u2_row h1.symm, u2_row h5.symm, u2_row h8.symm]
  exact h
theorem LK_or {k j : Nat} {x : Int32} (h : LK G d R R') (h1 : k ≠ 1) (h5 : k ≠ 5) (h8 : k ≠ 8) : LK G d R (u2 R' k j x) := by
  unfold LK
  rw [u2_row h1.symm, u2_row h5.symm, u2_row h8.symm]
  exact h
theorem LK_o {k j : Nat} {x y : Int32} (h : LK G d R R') (h1 : k ≠ 1) (h5 : k ≠ 5) (h8 : k ≠ 8) : LK G d (u2 R k j x) (u2 R' k j y) := LK_ol (LK_or h h1 h5 h8) h1 h5 h8
theorem up_eq {a b : Nat → Int32} {n j : Nat} {x : Int32} (h : ∀ i, i < n → a i = b i) : ∀ i, i < n → upd a j x i = upd b j x i := fun i hi => by
  by_cases hj : i = j
  · subst hj; rw [upd_at, upd_at]
  · rw [upd_ne hj, upd_ne hj]; exact h i hi
theorem LK_1 {c : Nat} {x y : Int32} (h : LK G d R R') (hx : x = y) : LK G d (u2 R 1 c x) (u2 R' 1 c y) := by
  subst hx
  unfold LK
  rw [u2_at, u2_at, u2_row (by decide), u2_row (by decide), u2_row (by decide), u2_row (by decide)]
  exact ⟨up_eq h.1, h.2⟩
theorem LK_5 {c : Nat} {x y : Int32} (h : LK G d R R') (hx : x = y) : LK G d (u2 R 5 c x) (u2 R' 5 c y) := by
  subst hx
  unfold LK
  rw [u2_at, u2_at, u2_row (by decide), u2_row (by decide), u2_row (by decide), u2_row (by decide)]
  exact ⟨h.1, up_eq h.2.1, h.2.2⟩
theorem LK_i {A A' : Bk} {p : Prop} [Decidable p] (h1 : p → LK G d R R') (h2 : ¬ p → LK G d A A') : LK G d (if p then R else A) (if p then R' else A') := by
  by_cases h : p
  · rw [if_pos h, if_pos h]; exact h1 h
  · rw [if_neg h, if_neg h]; exact h2 h
theorem lessen_lk {g : Nat} {a b : Int32} (h : LK G d R R') (hg : g < G) (hab : a = b) : LK G d (lessenF g a R) (lessenF g b R') := by
  subst hab
  unfold lessenF
  rw [h.2.1 g hg]
  exact LK_i (fun _ => LK_o (LK_o (LK_5 h rfl) (by decide) (by decide) (by decide)) (by decide) (by decide) (by decide)) (fun _ => LK_5 h rfl)
theorem lose_lk {g : Nat} (h : LK G d R R') (hg : g < G) : LK G d (loseF B g R) (loseF B g R') := by
  unfold loseF
  rw [h.2.1 g hg]
  exact lessen_lk (LK_o h (by decide) (by decide) (by decide)) hg rfl
theorem come_lk {w g : Nat} (h : LK G d R R') (hg : g < G) (hG6 : G ≤ 6) (hw : w < 8) : LK G d (comeF B w g R) (comeF B w g R') := by
  unfold comeF
  rw [h.2.1 g hg, h.1 (w * 6 + g) (by omega)]
  refine LK_i (fun _ => LK_o (LK_5 h rfl) (by decide) (by decide) (by decide)) (fun _ => ?_)
  exact lessen_lk (LK_o (LK_o (LK_1 (LK_o (LK_5 h rfl) (by decide) (by decide) (by decide)) rfl) (by decide) (by decide) (by decide)) (by decide) (by decide) (by decide)) hg rfl
theorem has_lk {w g : Nat} {b : Int32} (h : LK G d R R') (hg : g < G) (hG6 : G ≤ 6) (hw : w < 8) : LK G d (hasF B w g (R, b)).1 (hasF B w g (R', b)).1 ∧ (hasF B w g (R, b)).2 = (hasF B w g (R', b)).2 := by
  have e := h.1 (w * 6 + g) (by omega)
  by_cases hc : B 7 (w * 6 + g) ≤ R 1 (w * 6 + g)
  · rw [hasF_pos (p := (R, b)) hc, hasF_pos (p := (R', b)) (by show B 7 _ ≤ R' 1 _; rw [← e]; exact hc)]
    exact ⟨h, rfl⟩
  · rw [hasF_neg (p := (R, b)) hc, hasF_neg (p := (R', b)) (by show ¬ B 7 _ ≤ R' 1 _; rw [← e]; exact hc)]
    exact ⟨LK_o h (by decide) (by decide) (by decide), rfl⟩
theorem use_lk {w g : Nat} {b b' : Int32} (h : LK G d R R') (hg : g < G) (hG6 : G ≤ 6) (hw : w < 8) : LK G d (useF B w g (R, b)).1 (useF B w g (R', b')).1 := by
  unfold useF
  dsimp only
  have e := h.1 (w * 6 + g) (by omega)
  simp only [e]
  have k := LK_o (k := 11) (j := 18 + g) (x := R 11 (18 + g) + B 7 (w * 6 + g)) (y := R' 11 (18 + g) + B 7 (w * 6 + g)) (LK_1 (c := w * 6 + g) (x := R' 1 (w * 6 + g) - B 7 (w * 6 + g)) h rfl) (by decide) (by decide) (by decide)
  exact LK_i (fun _ => LK_o k (by decide) (by decide) (by decide)) (fun _ => k)
theorem give_lk {w g : Nat} {b b' : Int32} (h : LK G d R R') (hg : g < G) : LK G d (giveF B w b g R) (giveF B w b' g R') := by
  unfold giveF
  rw [h.2.1 g hg]
  exact LK_i (fun _ => h) (fun _ => LK_o (LK_o (LK_o (LK_5 h rfl) (by decide) (by decide) (by decide)) (by decide) (by decide) (by decide)) (by decide) (by decide) (by decide))
theorem i_ps {x y : Int32} : x + nI 1 - (y + nI 1) = x - y := by
  generalize nI 1 = z
  grind
theorem go_lk {w : Nat} (h : LK G d R R') (hG6 : G ≤ 6) (hw : w < 8) : LK G d (goF G B w R) (goF G B w R') := by
  unfold goF
  dsimp only
  have u := fo_rel (P := fun _ (p q : Bk × Int32) => LK G d p.1 q.1) (fa := useF B w) (fb := useF B w) (a := (R, nI 0)) (b := (R', nI 0)) G h (fun i p q hi hp => use_lk hp hi hG6 hw)
  generalize fo G (useF B w) (R, nI 0) = p at u ⊢
  generalize fo G (useF B w) (R', nI 0) = q at u ⊢
  have v := fo_rel (P := fun _ (p q : Bk) => LK G d p q) (fa := giveF B w p.2) (fb := giveF B w q.2) (a := u2 p.1 10 w (p.1 10 w ||| p.2)) (b := u2 q.1 10 w (q.1 10 w ||| q.2)) G (LK_o u (by decide) (by decide) (by decide)) (fun i p q hi hp => give_lk hp hi)
  generalize fo G (giveF B w p.2) (u2 p.1 10 w (p.1 10 w ||| p.2)) = A at v ⊢
  generalize fo G (giveF B w q.2) (u2 q.1 10 w (q.1 10 w ||| q.2)) = A' at v ⊢
  refine LK_o ?_ (by decide) (by decide) (by decide)
  unfold LK
  rw [u2_row (show (1 : Nat) ≠ 8 by decide), u2_row (show (1 : Nat) ≠ 8 by decide), u2_row (show (5 : Nat) ≠ 8 by decide), u2_row (show (5 : Nat) ≠ 8 by decide), u2_at, u2_at]
  refine ⟨v.1, v.2.1, fun w' hw' => ?_⟩
  by_cases hww : w' = w
  · subst hww
    rw [upd_at, upd_at, i_ps]; exact v.2.2 w' hw'
  · rw [upd_ne hww, upd_ne hww]; exact v.2.2 w' hw'
theorem work_lk {w : Nat} {free hod : Int32} (h : LK G d R R') (hG6 : G ≤ 6) (hW8 : W ≤ 8) (hw : w < W) : LK G d (workF G W B free hod w R) (workF G W B free hod w R') := by
  unfold workF
  dsimp only
  have c := fo_rel (P := fun _ (p q : Bk) => LK G d p q) (fa := comeF B w) (fb := comeF B w) (a := R) (b := R') G h (fun i p q hi hp => come_lk hp hi hG6 (by omega))
  generalize fo G (comeF B w) R = C at c ⊢
  generalize fo G (comeF B w) R' = C' at c ⊢
  have s := fo_rel (P := fun _ (p q : Bk × Int32) => LK G d p.1 q.1 ∧ p.2 = q.2) (fa := hasF B w) (fb := hasF B w) (a := (C, nI 1)) (b := (C', nI 1)) G ⟨c, rfl⟩ (fun i p q hi hp => by
    obtain ⟨p1, p2⟩ := p
    obtain ⟨q1, q2⟩ := q
    obtain ⟨h1, h2⟩ := hp
    dsimp only at h1 h2
    subst h2
    exact has_lk h1 hi hG6 (by omega))
  generalize fo G (hasF B w) (C, nI 1) = p at s ⊢
  generalize fo G (hasF B w) (C', nI 1) = q at s ⊢
  have t : LK G d (if B 4 w ≤ hod ∧ hod ≤ B 5 w ∧ free >>> (nI w &&& 31) &&& nI 1 = nI 1 then (if p.2 = 0 then p.1 else goF G B w p.1) else C) (if B 4 w ≤ hod ∧ hod ≤ B 5 w ∧ free >>> (nI w &&& 31) &&& nI 1 = nI 1 then (if q.2 = 0 then q.1 else goF G B w q.1) else C') := by
    rw [s.2]
    exact LK_i (fun _ => LK_i (fun _ => s.1) (fun _ => go_lk s.1 hG6 (by omega))) (fun _ => c)
  exact LK_i (fun _ => fo_rel (P := fun _ (p q : Bk) => LK G d p q) (fa := loseF B) (fb := loseF B) G t (fun i p q hi hp => lose_lk hp hi)) (fun _ => t)
theorem pass_lk {free : Int32} (h : LK G d R R') (hG6 : G ≤ 6) (hW8 : W ≤ 8) (hh : hodOf (R 0 0) = hodOf (R' 0 0)) : LK G d (passF G W B free R) (passF G W B free R') := by
  unfold passF
  dsimp only
  have hh2 : R 0 0 - R 0 0 / nI 12 * nI 12 = R' 0 0 - R' 0 0 / nI 12 * nI 12 := hh
  rw [hh2]
  have l : LK G d (if B 0 3 = 0 then R else fo G (loseF B) R) (if B 0 3 = 0 then R' else fo G (loseF B) R') := LK_i (fun _ => h) (fun _ => fo_rel (P := fun _ (p q : Bk) => LK G d p q) (fa := loseF B) (fb := loseF B) G h (fun i p q hi hp => lose_lk hp hi))
  generalize (if B 0 3 = 0 then R else fo G (loseF B) R) = A at l ⊢
  generalize (if B 0 3 = 0 then R' else fo G (loseF B) R') = A' at l ⊢
  have w1 := fo_rel (P := fun _ (p q : Bk) => LK G d p q) (fa := workF G W B free (R' 0 0 - R' 0 0 / nI 12 * nI 12)) (fb := workF G W B free (R' 0 0 - R' 0 0 / nI 12 * nI 12)) (a := A) (b := A') W l (fun i p q hi hp => work_lk hp hG6 hW8 hi)
  generalize fo W (workF G W B free (R' 0 0 - R' 0 0 / nI 12 * nI 12)) A = C at w1 ⊢
  generalize fo W (workF G W B free (R' 0 0 - R' 0 0 / nI 12 * nI 12)) A' = C' at w1 ⊢
  have o : LK G d (if B 0 3 = 0 then fo G outF C else C) (if B 0 3 = 0 then fo G outF C' else C') := LK_i (fun _ => fo_rel (P := fun _ (p q : Bk) => LK G d p q) (fa := outF) (fb := outF) G w1 (fun i p q hi hp => by
    unfold outF
    exact lessen_lk (LK_o hp (by decide) (by decide) (by decide)) hi (hp.2.1 i hi))) (fun _ => w1)
  exact LK_o o (by decide) (by decide) (by decide)
end MLk
