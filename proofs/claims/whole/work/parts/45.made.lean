section MMd
variable {G W : Nat} {R R' B : Bk} {d : Nat → Int32} {free : Int32}
theorem goF_0 {w : Nat} : goF G B w R 0 = R 0 := by
  unfold goF
  rw [u2_row (by decide), u2_row (by decide)]
  have h1 := fo_inv (P := fun _ (p : Bk × Int32) => p.1 0 = R 0) (fa := useF B w) (a := (R, nI 0)) G rfl (fun i p hi hp => (use_kr (G := G) (B := B) (w := w) (g := i) (p := p)).1.trans hp)
  exact fo_inv (P := fun _ (p : Bk) => p 0 = R 0) (fa := giveF B w (fo G (useF B w) (R, nI 0)).2) (a := u2 (fo G (useF B w) (R, nI 0)).1 10 w ((fo G (useF B w) (R, nI 0)).1 10 w ||| (fo G (useF B w) (R, nI 0)).2)) G (by rw [u2_row (by decide)]; exact h1) (fun i p hi hp => (give_kr hi).1.trans hp)
theorem ite_row {k : Nat} {A A' : Bk} {c : Prop} [Decidable c] {x : Nat → Int32} (h1 : A k = x) (h2 : A' k = x) : (if c then A else A') k = x := by
  by_cases h : c
  · rw [if_pos h]; exact h1
  · rw [if_neg h]; exact h2
theorem workF_0 {w : Nat} {hod : Int32} : workF G W B free hod w R 0 = R 0 := by
  unfold workF
  dsimp only
  have c := fo_inv (P := fun _ (p : Bk) => p 0 = R 0) (fa := comeF B w) (a := R) G rfl (fun i p hi hp => (fill_kr hi).1.trans hp)
  generalize fo G (comeF B w) R = C at c ⊢
  have s := fo_inv (P := fun _ (p : Bk × Int32) => p.1 0 = R 0) (fa := hasF B w) (a := (C, nI 1)) G c (fun i p hi hp => (has_kr (G := G) (B := B) (w := w) (g := i) (p := p)).1.trans hp)
  generalize fo G (hasF B w) (C, nI 1) = p at s ⊢
  have t : (if B 4 w ≤ hod ∧ hod ≤ B 5 w ∧ free >>> (nI w &&& 31) &&& nI 1 = nI 1 then (if p.2 = 0 then p.1 else goF G B w p.1) else C) 0 = R 0 := ite_row (ite_row s (goF_0.trans s)) c
  generalize (if B 4 w ≤ hod ∧ hod ≤ B 5 w ∧ free >>> (nI w &&& 31) &&& nI 1 = nI 1 then (if p.2 = 0 then p.1 else goF G B w p.1) else C) = D at t ⊢
  exact ite_row (fo_inv (P := fun _ (p : Bk) => p 0 = R 0) (fa := loseF B) (a := D) G t (fun i p hi hp => (lose_kr hi).1.trans hp)) t
theorem passF_0 : passF G W B free R 0 0 = R 0 0 + nI 1 := by
  unfold passF
  have l : (if B 0 3 = 0 then R else fo G (loseF B) R) 0 = R 0 := ite_row rfl (fo_inv (P := fun _ (p : Bk) => p 0 = R 0) (fa := loseF B) (a := R) G rfl (fun i p hi hp => (lose_kr hi).1.trans hp))
  generalize (if B 0 3 = 0 then R else fo G (loseF B) R) = A at l ⊢
  have w1 := fo_inv (P := fun _ (p : Bk) => p 0 = R 0) (fa := workF G W B free (R 0 0 - R 0 0 / nI 12 * nI 12)) (a := A) W l (fun i p hi hp => workF_0.trans hp)
  generalize fo W (workF G W B free (R 0 0 - R 0 0 / nI 12 * nI 12)) A = C at w1 ⊢
  have o : (if B 0 3 = 0 then fo G outF C else C) 0 = R 0 := ite_row (fo_inv (P := fun _ (p : Bk) => p 0 = R 0) (fa := outF) (a := C) G w1 (fun i p hi hp => (out_at.2.2.2.2 0 (by decide) (by decide) (by decide) (by decide)).trans hp)) w1
  generalize (if B 0 3 = 0 then fo G outF C else C) = D at o ⊢
  rw [u2_at, upd_at, o]
theorem runC_s {fr : Nat → Int32} {n : Nat} : runC G W B fr R (n + 1) = passF G W B (fr n) (runC G W B fr R n) := fo_s
theorem runC_z {fr : Nat → Int32} : runC G W B fr R 0 = startF B R := fo_0
theorem runC_0 {fr : Nat → Int32} : ∀ n, runC G W B fr R n 0 0 = nI n := by
  intro n
  induction n with
  | zero =>
    rw [runC_z, startF_k (by decide)]
    exact emptyF_at.1
  | succ n ih => rw [runC_s, passF_0, ih, nI_add]
theorem hod_nat {n : Nat} (h : n < 2 ^ 31) : hodOf (nI n) = nI (n % 12) := pk_rem h (by decide) (by decide)
/-- from like STATES at the same hour of the DAY on -/
theorem runC_lk (hG6 : G ≤ 6) (hW8 : W ≤ 8) {a b : Nat} (hab : a % 12 = b % 12) (h : LK G d (runC G W B (fun _ => free) R a) (runC G W B (fun _ => free) R' b)) : ∀ t, a + t < 2 ^ 20 → b + t < 2 ^ 20 → LK G d (runC G W B (fun _ => free) R (a + t)) (runC G W B (fun _ => free) R' (b + t)) := by
  intro t
  induction t with
  | zero => intro _ _; exact h
  | succ t ih =>
    intro h1 h2
    rw [show a + (t + 1) = a + t + 1 by omega, show b + (t + 1) = b + t + 1 by omega, runC_s, runC_s]
    refine pass_lk (ih (by omega) (by omega)) hG6 hW8 ?_
    rw [runC_0, runC_0, hod_nat (by omega), hod_nat (by omega)]
    congr 1
    omega
def totD (W : Nat) (B : Bk) (d : Nat → Int32) : Int32 := fo W (fun w s => s + d w * B 6 w) (nI 0)
theorem tot_lk (hW8 : W ≤ 8) (h : LK G d R R') : totF W B R = totF W B R' + totD W B d := by
  have k : ∀ i, i ≤ W → fo i (fun w s => s + R 8 w * B 6 w) (nI 0) = fo i (fun w s => s + R' 8 w * B 6 w) (nI 0) + fo i (fun w s => s + d w * B 6 w) (nI 0) := by
    intro i
    induction i with
    | zero => intro _; rfl
    | succ i ih =>
      intro hi
      rw [fo_s, fo_s, fo_s, ih (by omega), ← h.2.2 i (by omega)]
      generalize fo i (fun w s => s + R' 8 w * B 6 w) (nI 0) = p
      generalize fo i (fun w s => s + d w * B 6 w) (nI 0) = q
      grind
  exact k W (Nat.le_refl W)
theorem tot_start (hG6 : G ≤ 6) (hW8 : W ≤ 8) {R1 R2 : Bk} {n : Nat} (hn : n < 2 ^ 20) : totF W B (runC G W B (fun _ => free) R1 n) = totF W B (runC G W B (fun _ => free) R2 n) := by
  have h0 : LK G (fun _ => nI 0) (runC G W B (fun _ => free) R1 0) (runC G W B (fun _ => free) R2 0) := by
    rw [runC_z, runC_z]
    refine ⟨fun c hc => by rw [startF_1 hc, startF_1 hc], fun g hg => ?_, fun w hw => ?_⟩
    · rw [startF_k (by decide), startF_k (by decide), (emptyF_at.2.2.1 g (by omega)).1, (emptyF_at.2.2.1 g (by omega)).1]
    · rw [startF_k (by decide), startF_k (by decide), (emptyF_at.2.2.2.1 w hw).1, (emptyF_at.2.2.2.1 w hw).1]
      rfl
  have h1 := runC_lk hG6 hW8 rfl h0 n (by omega) (by omega)
  rw [Nat.zero_add] at h1
  rw [tot_lk (B := B) hW8 h1]
  have z : ∀ i, fo i (fun w s => s + (nI 0 : Int32) * B 6 w) (nI 0) = nI 0 := by
    intro i
    induction i with
    | zero => rfl
    | succ i ih =>
      rw [fo_s, ih]
      show (nI 0 : Int32) + (0 : Int32) * B 6 i = nI 0
      rw [Int32.zero_mul]
      rfl
  have z2 : totD W B (fun _ => nI 0) = nI 0 := z W
  rw [z2]
  exact Int32.add_zero _
/-- a DAY that ends as it began -/
theorem day_again (hG6 : G ≤ 6) (hW8 : W ≤ 8) {R : Bk} {d r : Nat} (h : likeF (runC G W B (fun _ => free) R (12 * (d + 1))) (runC G W B (fun _ => free) R (12 * d))) : ∀ j, 12 * (d + 1) + 12 * j + r < 2 ^ 20 → totF W B (runC G W B (fun _ => free) R (12 * (d + 1) + 12 * j + r)) = totF W B (runC G W B (fun _ => free) R (12 * (d + 1) + r)) + nI j * (totF W B (runC G W B (fun _ => free) R (12 * (d + 1))) - totF W B (runC G W B (fun _ => free) R (12 * d))) := by
  have l0 : LK G (fun w => runC G W B (fun _ => free) R (12 * (d + 1)) 8 w - runC G W B (fun _ => free) R (12 * d) 8 w) (runC G W B (fun _ => free) R (12 * (d + 1))) (runC G W B (fun _ => free) R (12 * d)) := ⟨h.1, fun g hg => h.2 g (by omega), fun w hw => rfl⟩
  have e0 := tot_lk (B := B) hW8 l0
  have hD : totD W B (fun w => runC G W B (fun _ => free) R (12 * (d + 1)) 8 w - runC G W B (fun _ => free) R (12 * d) 8 w) = totF W B (runC G W B (fun _ => free) R (12 * (d + 1))) - totF W B (runC G W B (fun _ => free) R (12 * d)) := by
    rw [e0]
    generalize totF W B (runC G W B (fun _ => free) R (12 * d)) = p
    generalize totD W B (fun w => runC G W B (fun _ => free) R (12 * (d + 1)) 8 w - runC G W B (fun _ => free) R (12 * d) 8 w) = q
    grind
  intro j
  induction j with
  | zero =>
    intro _
    rw [show 12 * (d + 1) + 12 * 0 + r = 12 * (d + 1) + r by omega]
    generalize totF W B (runC G W B (fun _ => free) R (12 * (d + 1)) ) - totF W B (runC G W B (fun _ => free) R (12 * d)) = q
    show _ = _ + (0 : Int32) * q
    rw [Int32.zero_mul, Int32.add_zero]
  | succ j ih =>
    intro hj
    have l1 := runC_lk hG6 hW8 (show (12 * (d + 1)) % 12 = (12 * d) % 12 by omega) l0 (12 * (j + 1) + r) (by omega) (by omega)
    have e1 := tot_lk (B := B) hW8 l1
    rw [hD, show 12 * d + (12 * (j + 1) + r) = 12 * (d + 1) + 12 * j + r by omega, ih (by omega)] at e1
    rw [show 12 * (d + 1) + 12 * (j + 1) + r = 12 * (d + 1) + (12 * (j + 1) + r) by omega, e1, ← nI_add j 1]
    generalize totF W B (runC G W B (fun _ => free) R (12 * (d + 1) + r)) = p
    generalize totF W B (runC G W B (fun _ => free) R (12 * (d + 1))) - totF W B (runC G W B (fun _ => free) R (12 * d)) = q
    have e1 : (nI j + nI 1) * q = nI j * q + q := by
      rw [Int32.add_mul]
      congr 1
      exact Int32.one_mul q
    rw [e1]
    generalize nI j * q = s
    grind
end MMd
