theorem fo_rel {α β : Type} {P : Nat → α → β → Prop} {fa : Nat → α → α} {fb : Nat → β → β} {a : α} {b : β} : ∀ n, P 0 a b → (∀ i x y, i < n → P i x y → P (i + 1) (fa i x) (fb i y)) → P n (fo n fa a) (fo n fb b) := by
  intro n
  induction n with
  | zero => intro h0 _; exact h0
  | succ n ih =>
    intro h0 hs
    rw [fo_s, fo_s]
    exact hs n _ _ (Nat.lt_succ_self n) (ih h0 (fun i x y hi hp => hs i x y (by omega) hp))
theorem fo_inv {α : Type} {P : Nat → α → Prop} {fa : Nat → α → α} {a : α} : ∀ n, P 0 a → (∀ i x, i < n → P i x → P (i + 1) (fa i x)) → P n (fo n fa a) := by
  intro n
  induction n with
  | zero => intro h0 _; exact h0
  | succ n ih =>
    intro h0 hs
    rw [fo_s]
    exact hs n _ (Nat.lt_succ_self n) (ih h0 (fun i x hi hp => hs i x (by omega) hp))
/-- the rows of V that no step but its own touches -/
def KV (V V0 : Bk) : Prop := ∀ k, k = 0 ∨ 12 ≤ k → V k = V0 k
def KR (G : Nat) (R R0 : Bk) : Prop := R 0 = R0 0 ∧ R 8 = R0 8 ∧ R 9 = R0 9 ∧ ∀ j, G ≤ j → R 5 j = R0 5 j
theorem KV_u {V V0 : Bk} {k j : Nat} {x : Int32} (h : KV V V0) (h1 : 1 ≤ k) (h2 : k ≤ 11) : KV (u2 V k j x) V0 := fun a ha => by rw [u2_row (by omega)]; exact h a ha
theorem KV_i {V V' V0 : Bk} {c : Prop} [Decidable c] (h1 : KV V V0) (h2 : KV V' V0) : KV (if c then V else V') V0 := by
  by_cases h : c
  · rw [if_pos h]; exact h1
  · rw [if_neg h]; exact h2
theorem KR_u {G : Nat} {R R0 : Bk} {k j : Nat} {x : Int32} (h : KR G R R0) (h0 : k ≠ 0) (h8 : k ≠ 8) (h9 : k ≠ 9) (h5 : k = 5 → j < G) : KR G (u2 R k j x) R0 := by
  refine ⟨by rw [u2_row h0.symm]; exact h.1, by rw [u2_row h8.symm]; exact h.2.1, by rw [u2_row h9.symm]; exact h.2.2.1, fun i hi => ?_⟩
  by_cases hk : k = 5
  · subst hk
    have := h5 rfl
    rw [u2_at, upd_ne (by omega)]; exact h.2.2.2 i hi
  · rw [u2_row (fun e => hk e.symm)]; exact h.2.2.2 i hi
theorem KR_i {G : Nat} {R R' R0 : Bk} {c : Prop} [Decidable c] (h1 : KR G R R0) (h2 : KR G R' R0) : KR G (if c then R else R') R0 := by
  by_cases h : c
  · rw [if_pos h]; exact h1
  · rw [if_neg h]; exact h2
theorem KV_rf {V : Bk} : KV V V := fun _ _ => rfl
theorem KR_rf {G : Nat} {R : Bk} : KR G R R := ⟨rfl, rfl, rfl, fun _ _ => rfl⟩
theorem KV_tr {V V1 V2 : Bk} (h : KV V V1) (h2 : KV V1 V2) : KV V V2 := fun k hk => (h k hk).trans (h2 k hk)
theorem KR_tr {G : Nat} {V V1 V2 : Bk} (h : KR G V V1) (h2 : KR G V1 V2) : KR G V V2 := ⟨h.1.trans h2.1, h.2.1.trans h2.2.1, h.2.2.1.trans h2.2.2.1, fun j hj => (h.2.2.2 j hj).trans (h2.2.2.2 j hj)⟩
section MPw
variable {G W N : Nat} {V R B : Bk} {f : Nat → Int32}
theorem lose_kv {g : Nat} : KV (loseV f g V) V := by
  unfold loseV
  exact KV_i (KV_u (KV_u (KV_u (KV_u KV_rf (by decide) (by decide)) (by decide) (by decide)) (by decide) (by decide)) (by decide) (by decide)) (KV_u (KV_u KV_rf (by decide) (by decide)) (by decide) (by decide))
theorem fill_kv {w g : Nat} : KV (fillV f w g V) V := by
  unfold fillV
  have b1 : ∀ x y, KV (u2 (u2 V 5 g x) 11 g y) V := fun x y => KV_u (KV_u KV_rf (by decide) (by decide)) (by decide) (by decide)
  have b2 : ∀ x y a b c d, KV (u2 (u2 (u2 (u2 (u2 (u2 V 5 g x) 11 g y) 1 (w * 6 + g) a) 2 (w * 6 + g) b) 3 (w * 6 + g) c) 5 g d) V := fun x y a b c d => KV_u (KV_u (KV_u (KV_u (b1 x y) (by decide) (by decide)) (by decide) (by decide)) (by decide) (by decide)) (by decide) (by decide)
  exact KV_i (b1 _ _) (KV_i (KV_i (KV_u (KV_u (b2 _ _ _ _ _ _) (by decide) (by decide)) (by decide) (by decide)) (b2 _ _ _ _ _ _)) (b1 _ _))
theorem has_kv {B : Bk} {w g : Nat} {p : Bk × Int32} : KV (hasF B w g p).1 p.1 := by
  by_cases h : B 7 (w * 6 + g) ≤ p.1 1 (w * 6 + g)
  · rw [hasF_pos h]; exact KV_rf
  · rw [hasF_neg h]; exact KV_u KV_rf (by decide) (by decide)
theorem use_kv {w g : Nat} {p : Bk × Int32} : KV (useV f w g p).1 p.1 := by
  unfold useV
  dsimp only
  by_cases h : f (38 + (w * 6 + g)) = 0
  · rw [if_pos h]; exact KV_rf
  · rw [if_neg h]
    exact KV_i (KV_u (KV_u (KV_u KV_rf (by decide) (by decide)) (by decide) (by decide)) (by decide) (by decide)) (KV_u (KV_u KV_rf (by decide) (by decide)) (by decide) (by decide))
theorem give_kv {w g : Nat} {b : Int32} : KV (giveV f w b g V) V := by
  unfold giveV
  exact KV_i KV_rf (KV_u (KV_u (KV_u (KV_u KV_rf (by decide) (by decide)) (by decide) (by decide)) (by decide) (by decide)) (by decide) (by decide))
theorem lessen_kr {g : Nat} {a : Int32} (hg : g < G) : KR G (lessenF g a R) R := by
  unfold lessenF
  exact KR_i (KR_u (KR_u (KR_u KR_rf (by decide) (by decide) (by decide) (fun _ => hg)) (by decide) (by decide) (by decide) (fun h => absurd h (by decide))) (by decide) (by decide) (by decide) (fun h => absurd h (by decide))) (KR_u KR_rf (by decide) (by decide) (by decide) (fun _ => hg))
theorem lose_kr {g : Nat} (hg : g < G) : KR G (loseF B g R) R := by
  unfold loseF
  exact KR_tr (lessen_kr hg) (KR_u KR_rf (by decide) (by decide) (by decide) (fun h => absurd h (by decide)))
theorem fill_kr {w g : Nat} (hg : g < G) : KR G (comeF B w g R) R := by
  unfold comeF
  have b1 : ∀ x y, KR G (u2 (u2 R 5 g x) 11 g y) R := fun x y => KR_u (KR_u KR_rf (by decide) (by decide) (by decide) (fun _ => hg)) (by decide) (by decide) (by decide) (fun h => absurd h (by decide))
  refine KR_i (b1 _ _) (KR_tr (lessen_kr hg) ?_)
  exact KR_u (KR_u (KR_u (b1 _ _) (by decide) (by decide) (by decide) (fun h => absurd h (by decide))) (by decide) (by decide) (by decide) (fun h => absurd h (by decide))) (by decide) (by decide) (by decide) (fun h => absurd h (by decide))
theorem has_kr {w g : Nat} {p : Bk × Int32} : KR G (hasF B w g p).1 p.1 := by
  by_cases h : B 7 (w * 6 + g) ≤ p.1 1 (w * 6 + g)
  · rw [hasF_pos h]; exact KR_rf
  · rw [hasF_neg h]; exact KR_u KR_rf (by decide) (by decide) (by decide) (fun h => absurd h (by decide))
theorem use_kr {w g : Nat} {p : Bk × Int32} : KR G (useF B w g p).1 p.1 := by
  unfold useF
  have b1 : ∀ x y, KR G (u2 (u2 p.1 1 (w * 6 + g) x) 11 (18 + g) y) p.1 := fun x y => KR_u (KR_u KR_rf (by decide) (by decide) (by decide) (fun h => absurd h (by decide))) (by decide) (by decide) (by decide) (fun h => absurd h (by decide))
  exact KR_i (KR_u (b1 _ _) (by decide) (by decide) (by decide) (fun h => absurd h (by decide))) (b1 _ _)
theorem give_kr {w g : Nat} {b : Int32} (hg : g < G) : KR G (giveF B w b g R) R := by
  unfold giveF
  exact KR_i KR_rf (KR_u (KR_u (KR_u (KR_u KR_rf (by decide) (by decide) (by decide) (fun _ => hg)) (by decide) (by decide) (by decide) (fun h => absurd h (by decide))) (by decide) (by decide) (by decide) (fun h => absurd h (by decide))) (by decide) (by decide) (by decide) (fun h => absurd h (by decide)))
/-- both sides, step by step -/
def J2 (G N : Nat) (B V0 R0 V R : Bk) : Prop := eqM G V R ∧ RI G N B R ∧ KV V V0 ∧ KR G R R0
theorem loses_rel (hF : FB G W f B) (hN : N < 2 ^ 30) (hG6 : G ≤ 6) (hE : eqM G V R) (hR : RI G N B R) : J2 G N B V R (fo G (loseV f) V) (fo G (loseF B) R) := by
  refine fo_rel (P := fun _ V' R' => J2 G N B V R V' R') G ⟨hE, hR, KV_rf, KR_rf⟩ ?_
  intro i V' R' hi hp
  obtain ⟨p1, p2, p3, p4⟩ := hp
  have q := lose_rel hF hN hG6 hi p1 p2
  exact ⟨q.1, q.2, KV_tr lose_kv p3, KR_tr (lose_kr hi) p4⟩
theorem fills_rel {w : Nat} (hF : FB G W f B) (hN : N < 2 ^ 29) (hG6 : G ≤ 6) (hw : w < 8) (hE : eqM G V R) (hR : RI G N B R) : J2 G (N + 54) B V R (fo G (fillV f w) V) (fo G (comeF B w) R) := by
  have q := fo_rel (P := fun i V' R' => J2 G (N + 9 * i) B V R V' R') (fa := fillV f w) (fb := comeF B w) G ⟨hE, hR, KV_rf, KR_rf⟩ (by
    intro i V' R' hi hp
    obtain ⟨p1, p2, p3, p4⟩ := hp
    have q := fill_rel hF (by omega) hG6 hi hw p1 p2
    exact ⟨q.1, by rw [show N + 9 * (i + 1) = N + 9 * i + 9 by omega]; exact q.2, KV_tr fill_kv p3, KR_tr (fill_kr hi) p4⟩)
  exact ⟨q.1, RI_up q.2.1 (by omega), q.2.2⟩
theorem hass_rel {w : Nat} (hF : FB G W f B) (hG6 : G ≤ 6) (hw : w < 8) (hE : eqM G V R) (hR : RI G N B R) : J2 G N B V R (fo G (hasF (rv f) w) (V, nI 1)).1 (fo G (hasF B w) (R, nI 1)).1 ∧ (fo G (hasF (rv f) w) (V, nI 1)).2 = (fo G (hasF B w) (R, nI 1)).2 ∧ (¬ (fo G (hasF B w) (R, nI 1)).2 = 0 → ∀ g, g < G → B 7 (w * 6 + g) ≤ (fo G (hasF B w) (R, nI 1)).1 1 (w * 6 + g)) := by
  have q := fo_rel (P := fun i (p q : Bk × Int32) => J2 G N B V R p.1 q.1 ∧ p.2 = q.2 ∧ (¬ q.2 = 0 → ∀ g, g < i → B 7 (w * 6 + g) ≤ q.1 1 (w * 6 + g))) (fa := hasF (rv f) w) (fb := hasF B w) (a := (V, nI 1)) (b := (R, nI 1)) G ⟨⟨hE, hR, KV_rf, KR_rf⟩, rfl, fun _ g hg => absurd hg (Nat.not_lt_zero g)⟩ (by
    intro i p q hi hp
    obtain ⟨V', b⟩ := p
    obtain ⟨R', b'⟩ := q
    obtain ⟨⟨p1, p2, p3, p4⟩, p5, p6⟩ := hp
    dsimp only at p1 p2 p3 p4 p5 p6
    subst p5
    have z := has_rel (b := b) hF hi hG6 hw p1 p2
    refine ⟨⟨z.1, z.2.2, KV_tr has_kv p3, KR_tr has_kr p4⟩, z.2.1, ?_⟩
    by_cases hh : B 7 (w * 6 + i) ≤ R' 1 (w * 6 + i)
    · rw [hasF_pos (p := (R', b)) hh]
      intro hb
      exact all_s (p6 hb) hh
    · rw [hasF_neg (p := (R', b)) hh]
      intro hb
      exact absurd rfl hb)
  exact q
theorem uses_rel {w : Nat} (hF : FB G W f B) (hG6 : G ≤ 6) (hw : w < 8) (hE : eqM G V R) (hR : RI G N B R) (hh : ∀ g, g < G → B 7 (w * 6 + g) ≤ R 1 (w * 6 + g)) : J2 G N B V R (fo G (useV f w) (V, nI 0)).1 (fo G (useF B w) (R, nI 0)).1 ∧ (fo G (useV f w) (V, nI 0)).2 = (fo G (useF B w) (R, nI 0)).2 := by
  have q := fo_rel (P := fun i (p q : Bk × Int32) => J2 G N B V R p.1 q.1 ∧ p.2 = q.2 ∧ ∀ g, i ≤ g → q.1 1 (w * 6 + g) = R 1 (w * 6 + g)) (fa := useV f w) (fb := useF B w) (a := (V, nI 0)) (b := (R, nI 0)) G ⟨⟨hE, hR, KV_rf, KR_rf⟩, rfl, fun _ _ => rfl⟩ (by
    intro i p q hi hp
    obtain ⟨V', b⟩ := p
    obtain ⟨R', b'⟩ := q
    obtain ⟨⟨p1, p2, p3, p4⟩, p5, p6⟩ := hp
    dsimp only at p1 p2 p3 p4 p5 p6
    subst p5
    have z := use_rel (b := b) hF hi hG6 hw p1 p2 (by rw [p6 i (Nat.le_refl i)]; exact hh i hi)
    refine ⟨⟨z.1, z.2.2, KV_tr use_kv p3, KR_tr use_kr p4⟩, z.2.1, ?_⟩
    intro g hg
    rw [← p6 g (by omega)]
    unfold useF
    dsimp only
    have b1 : ∀ x y, (u2 (u2 R' 1 (w * 6 + i) x) 11 (18 + i) y) 1 (w * 6 + g) = R' 1 (w * 6 + g) := fun x y => by rw [u2_row (by decide), u2_at, upd_ne (by omega)]
    by_cases h0 : R' 1 (w * 6 + i) - B 7 (w * 6 + i) = 0
    · rw [if_pos h0, u2_row (by decide)]; exact b1 _ _
    · rw [if_neg h0]; exact b1 _ _)
  exact ⟨q.1, q.2.1⟩
theorem gives_rel {w : Nat} {b : Int32} (hF : FB G W f B) (hN : N < 2 ^ 29) (hG6 : G ≤ 6) (hw : w < 8) (hE : eqM G V R) (hR : RI G N B R) : J2 G (N + 54) B V R (fo G (giveV f w b) V) (fo G (giveF B w b) R) := by
  have q := fo_rel (P := fun i V' R' => J2 G (N + 9 * i) B V R V' R') (fa := giveV f w b) (fb := giveF B w b) G ⟨hE, hR, KV_rf, KR_rf⟩ (by
    intro i V' R' hi hp
    obtain ⟨p1, p2, p3, p4⟩ := hp
    have q := give_rel (b := b) hF (by omega) hi hG6 hw p1 p2
    exact ⟨q.1, by rw [show N + 9 * (i + 1) = N + 9 * i + 9 by omega]; exact q.2, KV_tr give_kv p3, KR_tr (give_kr hi) p4⟩)
  exact ⟨q.1, RI_up q.2.1 (by omega), q.2.2⟩
theorem give_10 {w g : Nat} {b x : Int32} : giveV f w b g (u2 V 10 w x) = u2 (giveV f w b g V) 10 w x := by
  unfold giveV
  dsimp only
  by_cases h : f (182 + (w * 6 + g)) = 0
  · rw [if_pos h, if_pos h]
  · rw [if_neg h, if_neg h]
    simp only [u2_row (show (5 : Nat) ≠ 10 by decide), u2_row (show (6 : Nat) ≠ 10 by decide), u2_row (show (7 : Nat) ≠ 10 by decide), u2_row (show (11 : Nat) ≠ 10 by decide), u2_comm (show (10 : Nat) ≠ 5 by decide), u2_comm (show (10 : Nat) ≠ 6 by decide), u2_comm (show (10 : Nat) ≠ 7 by decide), u2_comm (show (10 : Nat) ≠ 11 by decide)]
theorem gives_10 {w : Nat} {b x : Int32} : ∀ n, fo n (giveV f w b) (u2 V 10 w x) = u2 (fo n (giveV f w b) V) 10 w x := by
  intro n
  induction n with
  | zero => rfl
  | succ n ih => rw [fo_s, fo_s, ih, give_10]
theorem gives_r10 {w : Nat} {b : Int32} : ∀ n, fo n (giveV f w b) V 10 = V 10 := by
  intro n
  refine fo_inv (P := fun _ (V' : Bk) => V' 10 = V 10) n rfl ?_
  intro i x hi hp
  show giveV f w b i x 10 = V 10
  unfold giveV
  by_cases h : f (182 + (w * 6 + i)) = 0
  · rw [if_pos h]; exact hp
  · rw [if_neg h, u2_row (by decide), u2_row (by decide), u2_row (by decide), u2_row (by decide)]; exact hp
end MPw
