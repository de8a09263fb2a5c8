/-! a SENTENCE: the class's steps and the reference's tree -/
def ND (f : Nat → Int32) (S : Bk) : Nat → Nat → Nat → Nat → Nat → Prop
  | 0, _, _, _, _ => False
  | d + 1, k, s, t, l =>
    (∃ kw x, (kw = 12 ∨ kw = 13 ∨ kw = 14) ∧ x < 8 ∧ (kw ≠ 14 → x < 6) ∧ f (4 * k) = nI (50 + kw) ∧ f (4 * k + 1) = nI x ∧ S 1 s = nI kw ∧ S 2 s = nI x ∧ t = s + 1 ∧ l = 1)
    ∨ (∃ kw, 15 ≤ kw ∧ kw ≤ 18 ∧ f (4 * k) = nI (50 + kw) ∧ f (4 * k + 2) = S 2 s ∧ f (4 * k + 3) = S 3 s ∧ S 1 s = nI kw ∧ t = s + 1 ∧ l = 1)
    ∨ (∃ x t', x < k ∧ f (4 * k) = nI 1 ∧ f (4 * k + 1) = nI x ∧ ND f S d x s t' l ∧ S 1 t' = nI 11 ∧ t = t' + 1)
    ∨ (∃ o c x y t' u l1 l2, (o = 2 ∧ c = 10 ∨ o = 3 ∧ c = 9) ∧ x < k ∧ y < k ∧ f (4 * k) = nI o ∧ f (4 * k + 1) = nI x ∧ f (4 * k + 2) = nI y ∧ ND f S d x s t' l1 ∧ ND f S d y t' u l2 ∧ S 1 u = nI c ∧ t = u + 1 ∧ l = l1 + l2)
section MNd
variable {f f' : Nat → Int32} {S S' : Bk}
theorem ND_lt : ∀ d k s t l, ND f S d k s t l → s < t ∧ 1 ≤ l := by
  intro d
  induction d with
  | zero => intro k s t l h; exact absurd h id
  | succ d ih =>
    intro k s t l h
    rcases h with ⟨kw, x, h⟩ | ⟨kw, h⟩ | ⟨x, t', h1, h2, h3, h4, h5, h6⟩ | ⟨o, c, x, y, t', u, l1, l2, h1, h2, h3, h4, h5, h6, h7, h8, h9, h10, h11⟩
    · omega
    · omega
    · have := ih _ _ _ _ h4
      omega
    · have a := ih _ _ _ _ h7
      have b := ih _ _ _ _ h8
      omega
theorem ND_s : ∀ d k s t l, ND f S d k s t l → ND f S (d + 1) k s t l := by
  intro d
  induction d with
  | zero => intro k s t l h; exact absurd h id
  | succ d ih =>
    intro k s t l h
    rcases h with h | h | ⟨x, t', h1, h2, h3, h4, h5, h6⟩ | ⟨o, c, x, y, t', u, l1, l2, h1, h2, h3, h4, h5, h6, h7, h8, h9, h10, h11⟩
    · exact Or.inl h
    · exact Or.inr (Or.inl h)
    · exact Or.inr (Or.inr (Or.inl ⟨x, t', h1, h2, h3, ih _ _ _ _ h4, h5, h6⟩))
    · exact Or.inr (Or.inr (Or.inr ⟨o, c, x, y, t', u, l1, l2, h1, h2, h3, h4, h5, h6, ih _ _ _ _ h7, ih _ _ _ _ h8, h9, h10, h11⟩))
theorem ND_le {d e k s t l : Nat} (h : ND f S d k s t l) (he : d ≤ e) : ND f S e k s t l := by
  induction e with
  | zero =>
    have : d = 0 := by omega
    subst this
    exact h
  | succ e ih =>
    by_cases hx : d = e + 1
    · rw [← hx]; exact h
    · exact ND_s _ _ _ _ _ (ih (by omega))
/-- a tree is no deeper than it is large -/
theorem ND_sz : ∀ d k s t l, ND f S d k s t l → ND f S (t - s) k s t l := by
  intro d
  induction d with
  | zero => intro k s t l h; exact absurd h id
  | succ d ih =>
    intro k s t l h
    have hlt := (ND_lt _ _ _ _ _ h).1
    obtain ⟨e, he⟩ : ∃ e, t - s = e + 1 := ⟨t - s - 1, by omega⟩
    rw [he]
    rcases h with h | h | ⟨x, t', h1, h2, h3, h4, h5, h6⟩ | ⟨o, c, x, y, t', u, l1, l2, h1, h2, h3, h4, h5, h6, h7, h8, h9, h10, h11⟩
    · exact Or.inl h
    · exact Or.inr (Or.inl h)
    · exact Or.inr (Or.inr (Or.inl ⟨x, t', h1, h2, h3, ND_le (ih _ _ _ _ h4) (by omega), h5, h6⟩))
    · have a := (ND_lt _ _ _ _ _ h7).1
      have b := (ND_lt _ _ _ _ _ h8).1
      exact Or.inr (Or.inr (Or.inr ⟨o, c, x, y, t', u, l1, l2, h1, h2, h3, h4, h5, h6, ND_le (ih _ _ _ _ h7) (by omega), ND_le (ih _ _ _ _ h8) (by omega), h9, h10, h11⟩))
theorem ND_ext : ∀ d k s t l, ND f S d k s t l → (∀ j, j < 4 * (k + 1) → f' j = f j) → (∀ i, i < t → S' 1 i = S 1 i ∧ S' 2 i = S 2 i ∧ S' 3 i = S 3 i) → ND f' S' d k s t l := by
  intro d
  induction d with
  | zero => intro k s t l h; exact absurd h id
  | succ d ih =>
    intro k s t l h hf hS
    have hlt := (ND_lt _ _ _ _ _ h).1
    rcases h with ⟨kw, x, h1, h2, h3, h4, h5, h6, h7, h8, h9⟩ | ⟨kw, h1, h2, h3, h4, h5, h6, h7, h8⟩ | ⟨x, t', h1, h2, h3, h4, h5, h6⟩ | ⟨o, c, x, y, t', u, l1, l2, h1, h2, h3, h4, h5, h6, h7, h8, h9, h10, h11⟩
    · exact Or.inl ⟨kw, x, h1, h2, h3, by rw [hf _ (by omega)]; exact h4, by rw [hf _ (by omega)]; exact h5, by rw [(hS _ (by omega)).1]; exact h6, by rw [(hS _ (by omega)).2.1]; exact h7, h8, h9⟩
    · exact Or.inr (Or.inl ⟨kw, h1, h2, by rw [hf _ (by omega)]; exact h3, by rw [hf _ (by omega), (hS _ (by omega)).2.1]; exact h4, by rw [hf _ (by omega), (hS _ (by omega)).2.2]; exact h5, by rw [(hS _ (by omega)).1]; exact h6, h7, h8⟩)
    · exact Or.inr (Or.inr (Or.inl ⟨x, t', h1, by rw [hf _ (by omega)]; exact h2, by rw [hf _ (by omega)]; exact h3, ih _ _ _ _ h4 (fun j hj => hf j (by omega)) (fun i hi => hS i (by omega)), by rw [(hS _ (by omega)).1]; exact h5, h6⟩))
    · have b := (ND_lt _ _ _ _ _ h8).1
      exact Or.inr (Or.inr (Or.inr ⟨o, c, x, y, t', u, l1, l2, h1, h2, h3, by rw [hf _ (by omega)]; exact h4, by rw [hf _ (by omega)]; exact h5, by rw [hf _ (by omega)]; exact h6, ih _ _ _ _ h7 (fun j hj => hf j (by omega)) (fun i hi => hS i (by omega)), ih _ _ _ _ h8 (fun j hj => hf j (by omega)) (fun i hi => hS i (by omega)), by rw [(hS _ (by omega)).1]; exact h9, h10, h11⟩))
end MNd
/-! the truths as bits -/
theorem fa_and (a b : Nat) : nI a &&& nI b = nI (a &&& b) := by
  apply Int32.toBitVec_inj.1
  show BitVec.ofNat 32 a &&& BitVec.ofNat 32 b = BitVec.ofNat 32 (a &&& b)
  exact (BitVec.ofNat_and).symm
theorem fa_xor (a b : Nat) : nI a ^^^ nI b = nI (a ^^^ b) := by
  apply Int32.toBitVec_inj.1
  show BitVec.ofNat 32 a ^^^ BitVec.ofNat 32 b = BitVec.ofNat 32 (a ^^^ b)
  exact (BitVec.ofNat_xor).symm
theorem or_bit {n b : Nat} (hb : b ≤ 1) : 2 * n ||| b = 2 * n + b := by
  have : b = 0 ∨ b = 1 := by omega
  rcases this with rfl | rfl
  · rw [Nat.or_zero, Nat.add_zero]
  · refine Nat.eq_of_testBit_eq (fun i => ?_)
    rw [Nat.testBit_or]
    cases i with
    | zero =>
      rw [Nat.testBit_zero, Nat.testBit_zero, Nat.testBit_zero]
      have h1 : ¬ 2 * n % 2 = 1 := by omega
      have h2 : (2 * n + 1) % 2 = 1 := by omega
      simp [h2]
    | succ i =>
      rw [Nat.testBit_succ, Nat.testBit_succ, Nat.testBit_succ]
      have h1 : 2 * n / 2 = n := by omega
      have h2 : (2 * n + 1) / 2 = n := by omega
      rw [h1, h2]
      simp
theorem t_leaf {n b : Nat} (hn : 2 * n + b < 2 ^ 31) (hb : b ≤ 1) : nI n <<< (nI 1 &&& 31) ||| nI b = nI (2 * n + b) := by
  rw [pk_shlN (nI 1 &&& 31) 1 (by decide) (by omega), fa_or, Nat.pow_one, Nat.mul_comm, or_bit hb]
theorem t_low {n b : Nat} (hn : 2 * n + b < 2 ^ 31) (hb : b ≤ 1) : nI (2 * n + b) &&& nI 1 = nI b := by
  rw [pk_andN (by omega) 1 (by decide)]
  congr 1
  omega
theorem t_shr {n b : Nat} (hn : 2 * n + b < 2 ^ 31) (hb : b ≤ 1) : nI (2 * n + b) >>> (nI 1 &&& 31) = nI n := by
  rw [pk_shrN hn (nI 1 &&& 31) 1 (by decide)]
  congr 1
  omega
theorem t_not {n b : Nat} (hb : b ≤ 1) : nI (2 * n + b) ^^^ nI 1 = nI (2 * n + (1 - b)) := by
  rw [fa_xor]
  congr 1
  refine Nat.eq_of_testBit_eq (fun i => ?_)
  rw [Nat.testBit_xor]
  have : b = 0 ∨ b = 1 := by omega
  cases i with
  | zero =>
    rw [Nat.testBit_zero, Nat.testBit_zero, Nat.testBit_zero]
    rcases this with rfl | rfl
    · have h1 : ¬ (2 * n + 0) % 2 = 1 := by omega
      have h2 : (2 * n + (1 - 0)) % 2 = 1 := by omega
      simp [h2]
    · have h1 : (2 * n + 1) % 2 = 1 := by omega
      have h2 : ¬ (2 * n + (1 - 1)) % 2 = 1 := by omega
      simp [h1]
  | succ i =>
    rw [Nat.testBit_succ, Nat.testBit_succ, Nat.testBit_succ]
    have h1 : (2 * n + b) / 2 = n := by omega
    have h2 : (2 * n + (1 - b)) / 2 = n := by omega
    rw [h1, h2]
    simp
theorem t_or {n a b : Nat} (hn : 2 * (2 * n + a) + b < 2 ^ 31) (ha : a ≤ 1) (hb : b ≤ 1) : nI (2 * (2 * n + a) + b) >>> (nI 1 &&& 31) ||| nI (2 * (2 * n + a) + b) &&& nI 1 = nI (2 * n + max a b) := by
  rw [t_shr hn hb, t_low hn hb, fa_or, ← or_bit ha, Nat.or_assoc]
  have : a ||| b = max a b := by
    have h1 : a = 0 ∨ a = 1 := by omega
    have h2 : b = 0 ∨ b = 1 := by omega
    rcases h1 with rfl | rfl <;> rcases h2 with rfl | rfl <;> decide
  rw [this, or_bit (by omega)]
theorem t_and {n a b : Nat} (hn : 2 * (2 * n + a) + b < 2 ^ 31) (ha : a ≤ 1) (hb : b ≤ 1) : nI (2 * (2 * n + a) + b) >>> (nI 1 &&& 31) &&& (nI (2 * (2 * n + a) + b) &&& nI 1 ||| -2) = nI (2 * n + min a b) := by
  rw [t_shr hn hb, t_low hn hb]
  have e2 : (-2 : Int32) = nI (2 ^ 32 - 2) := by decide
  rw [e2, fa_or]
  have : b = 0 ∨ b = 1 := by omega
  rcases this with rfl | rfl
  · rw [Nat.zero_or, fa_and, Nat.min_eq_right (Nat.zero_le a)]
    congr 1
    refine Nat.eq_of_testBit_eq (fun i => ?_)
    rw [Nat.testBit_and]
    cases i with
    | zero =>
      rw [Nat.testBit_zero, Nat.testBit_zero, Nat.testBit_zero]
      have h1 : ¬ (2 * n + 0) % 2 = 1 := by omega
      simp
    | succ i =>
      rw [Nat.testBit_succ, Nat.testBit_succ, Nat.testBit_succ]
      have h1 : (2 * n + a) / 2 = n := by omega
      have h2 : (2 * n + 0) / 2 = n := by omega
      have h3 : (2 ^ 32 - 2) / 2 = 2 ^ 31 - 1 := by decide
      rw [h1, h2, h3, Nat.testBit_two_pow_sub_one]
      by_cases hi : i < 31
      · simp [hi]
      · have : n.testBit i = false := Nat.testBit_lt_two_pow (Nat.lt_of_lt_of_le (show n < 2 ^ 31 by omega) (Nat.pow_le_pow_right (by decide) (by omega)))
        simp [this]
  · have e : 1 ||| (2 ^ 32 - 2) = 2 ^ 32 - 1 := by decide
    rw [e, Nat.min_eq_left ha, pk_andN (by omega) 32 (by decide), Nat.mod_eq_of_lt (by omega)]
