/-! WORDS: five bits a letter (the class), or to the base of 27 (the reference) -/
def cvN : Nat → Nat → Nat
  | 0, _ => 0
  | k + 1, n => 27 * cvN k (n / 32) + n % 32
/-- six places of five bits, each at most 26 -/
def dgN : Nat → Nat → Prop
  | 0, n => n = 0
  | k + 1, n => n % 32 ≤ 26 ∧ dgN k (n / 32)
/-- just k letters -/
def wlN : Nat → Nat → Prop
  | 0, n => n = 0
  | k + 1, n => 1 ≤ n % 32 ∧ n % 32 ≤ 26 ∧ wlN k (n / 32)
theorem dg_inj : ∀ k a b, dgN k a → dgN k b → cvN k a = cvN k b → a = b := by
  intro k
  induction k with
  | zero => intro a b ha hb _; rw [show a = 0 from ha, show b = 0 from hb]
  | succ k ih =>
    intro a b ha hb h
    obtain ⟨a1, a2⟩ := ha
    obtain ⟨b1, b2⟩ := hb
    have h' : 27 * cvN k (a / 32) + a % 32 = 27 * cvN k (b / 32) + b % 32 := h
    have e1 : cvN k (a / 32) = cvN k (b / 32) := by omega
    have e2 := ih _ _ a2 b2 e1
    omega
theorem dg_0 : ∀ k, dgN k 0 := by
  intro k
  induction k with
  | zero => rfl
  | succ k ih => exact ⟨by decide, by show dgN k (0 / 32); exact ih⟩
theorem cv_0 : ∀ k, cvN k 0 = 0 := by
  intro k
  induction k with
  | zero => rfl
  | succ k ih =>
    show 27 * cvN k (0 / 32) + 0 % 32 = 0
    rw [show (0 : Nat) / 32 = 0 from rfl, ih]
theorem wl_dg : ∀ k n, wlN k n → ∀ d, dgN (k + d) n := by
  intro k
  induction k with
  | zero =>
    intro n h d
    rw [show n = 0 from h]
    exact dg_0 _
  | succ k ih =>
    intro n h d
    rw [show k + 1 + d = (k + d) + 1 by omega]
    exact ⟨h.2.1, ih _ h.2.2 d⟩
theorem wl_cv : ∀ k n, wlN k n → ∀ d, cvN (k + d) n = cvN k n := by
  intro k
  induction k with
  | zero =>
    intro n h d
    rw [show n = 0 from h, cv_0, cv_0]
  | succ k ih =>
    intro n h d
    rw [show k + 1 + d = (k + d) + 1 by omega]
    show 27 * cvN (k + d) (n / 32) + n % 32 = 27 * cvN k (n / 32) + n % 32
    rw [ih _ h.2.2 d]
theorem wl_lt : ∀ k n, wlN k n → n < 32 ^ k := by
  intro k
  induction k with
  | zero => intro n h; rw [show n = 0 from h]; decide
  | succ k ih =>
    intro n h
    have := ih _ h.2.2
    rw [Nat.pow_succ]
    omega
theorem wl_s {k n c : Nat} (h : wlN k n) (h1 : 1 ≤ c) (h2 : c ≤ 26) : wlN (k + 1) (32 * n + c) ∧ cvN (k + 1) (32 * n + c) = 27 * cvN k n + c := by
  have e1 : (32 * n + c) % 32 = c := by omega
  have e2 : (32 * n + c) / 32 = n := by omega
  refine ⟨⟨by omega, by omega, by rw [e2]; exact h⟩, ?_⟩
  show 27 * cvN k ((32 * n + c) / 32) + (32 * n + c) % 32 = _
  rw [e1, e2]
theorem cv_lt : ∀ k n, dgN k n → cvN k n < 27 ^ k := by
  intro k
  induction k with
  | zero => intro n _; show 0 < 27 ^ 0; decide
  | succ k ih =>
    intro n h
    have := ih _ h.2
    show 27 * cvN k (n / 32) + n % 32 < 27 ^ (k + 1)
    have h1 := h.1
    rw [Nat.pow_succ]
    omega
/-- a NAME: n is it in bits; what the reference holds of it -/
def nameN (n : Nat) : Prop := ∃ k, 1 ≤ k ∧ k ≤ 6 ∧ wlN k n
theorem name_dg {n : Nat} (h : nameN n) : dgN 6 n := by
  obtain ⟨k, h1, h2, h3⟩ := h
  have := wl_dg k n h3 (6 - k)
  rwa [show k + (6 - k) = 6 by omega] at this
theorem name_lt {n : Nat} (h : nameN n) : n < 2 ^ 30 := by
  obtain ⟨k, h1, h2, h3⟩ := h
  have := wl_lt k n h3
  have h4 : 32 ^ k ≤ 32 ^ 6 := Nat.pow_le_pow_right (by decide) h2
  omega
theorem nL_inj {a b : Nat} (ha : a < 2 ^ 63) (hb : b < 2 ^ 63) (h : lN a = lN b) : a = b := (pk_lEQ ha hb).mp h
theorem name_inj {a b : Nat} (ha : nameN a) (hb : nameN b) : (lN (cvN 6 a) = lN (cvN 6 b)) = (a = b) := by
  apply propext
  constructor
  · intro h
    have l1 := cv_lt 6 a (name_dg ha)
    have l2 := cv_lt 6 b (name_dg hb)
    exact dg_inj 6 a b (name_dg ha) (name_dg hb) (nL_inj (by omega) (by omega) h)
  · intro h; rw [h]
def kwN (k : Nat) : Nat := ([245220, 769611, 21015731, 7657651, 13675699, 6460563, 351582372, 20594195, 86292723, 498, 1476, 14836, 24165011, 398995, 6600851, 759252, 20594148, 427141, 17171557] : List Nat).getD k 0
theorem kw_name : ∀ k, k < 19 → nameN (kwN k) ∧ wdF (nI k) = lN (cvN 6 (kwN k)) := by
  intro k hk
  have : k = 0 ∨ k = 1 ∨ k = 2 ∨ k = 3 ∨ k = 4 ∨ k = 5 ∨ k = 6 ∨ k = 7 ∨ k = 8 ∨ k = 9 ∨ k = 10 ∨ k = 11 ∨ k = 12 ∨ k = 13 ∨ k = 14 ∨ k = 15 ∨ k = 16 ∨ k = 17 ∨ k = 18 := by omega
  rcases this with rfl | rfl | rfl | rfl | rfl | rfl | rfl | rfl | rfl | rfl | rfl | rfl | rfl | rfl | rfl | rfl | rfl | rfl | rfl
  · exact ⟨⟨4, by decide, by decide, ⟨by decide, by decide, ⟨by decide, by decide, ⟨by decide, by decide, ⟨by decide, by decide, rfl⟩⟩⟩⟩⟩, by decide⟩
  · exact ⟨⟨4, by decide, by decide, ⟨by decide, by decide, ⟨by decide, by decide, ⟨by decide, by decide, ⟨by decide, by decide, rfl⟩⟩⟩⟩⟩, by decide⟩
  · exact ⟨⟨5, by decide, by decide, ⟨by decide, by decide, ⟨by decide, by decide, ⟨by decide, by decide, ⟨by decide, by decide, ⟨by decide, by decide, rfl⟩⟩⟩⟩⟩⟩, by decide⟩
  · exact ⟨⟨5, by decide, by decide, ⟨by decide, by decide, ⟨by decide, by decide, ⟨by decide, by decide, ⟨by decide, by decide, ⟨by decide, by decide, rfl⟩⟩⟩⟩⟩⟩, by decide⟩
  · exact ⟨⟨5, by decide, by decide, ⟨by decide, by decide, ⟨by decide, by decide, ⟨by decide, by decide, ⟨by decide, by decide, ⟨by decide, by decide, rfl⟩⟩⟩⟩⟩⟩, by decide⟩
  · exact ⟨⟨5, by decide, by decide, ⟨by decide, by decide, ⟨by decide, by decide, ⟨by decide, by decide, ⟨by decide, by decide, ⟨by decide, by decide, rfl⟩⟩⟩⟩⟩⟩, by decide⟩
  · exact ⟨⟨6, by decide, by decide, ⟨by decide, by decide, ⟨by decide, by decide, ⟨by decide, by decide, ⟨by decide, by decide, ⟨by decide, by decide, ⟨by decide, by decide, rfl⟩⟩⟩⟩⟩⟩⟩, by decide⟩
  · exact ⟨⟨5, by decide, by decide, ⟨by decide, by decide, ⟨by decide, by decide, ⟨by decide, by decide, ⟨by decide, by decide, ⟨by decide, by decide, rfl⟩⟩⟩⟩⟩⟩, by decide⟩
  · exact ⟨⟨6, by decide, by decide, ⟨by decide, by decide, ⟨by decide, by decide, ⟨by decide, by decide, ⟨by decide, by decide, ⟨by decide, by decide, ⟨by decide, by decide, rfl⟩⟩⟩⟩⟩⟩⟩, by decide⟩
  · exact ⟨⟨2, by decide, by decide, ⟨by decide, by decide, ⟨by decide, by decide, rfl⟩⟩⟩, by decide⟩
  · exact ⟨⟨3, by decide, by decide, ⟨by decide, by decide, ⟨by decide, by decide, ⟨by decide, by decide, rfl⟩⟩⟩⟩, by decide⟩
  · exact ⟨⟨3, by decide, by decide, ⟨by decide, by decide, ⟨by decide, by decide, ⟨by decide, by decide, rfl⟩⟩⟩⟩, by decide⟩
  · exact ⟨⟨5, by decide, by decide, ⟨by decide, by decide, ⟨by decide, by decide, ⟨by decide, by decide, ⟨by decide, by decide, ⟨by decide, by decide, rfl⟩⟩⟩⟩⟩⟩, by decide⟩
  · exact ⟨⟨4, by decide, by decide, ⟨by decide, by decide, ⟨by decide, by decide, ⟨by decide, by decide, ⟨by decide, by decide, rfl⟩⟩⟩⟩⟩, by decide⟩
  · exact ⟨⟨5, by decide, by decide, ⟨by decide, by decide, ⟨by decide, by decide, ⟨by decide, by decide, ⟨by decide, by decide, ⟨by decide, by decide, rfl⟩⟩⟩⟩⟩⟩, by decide⟩
  · exact ⟨⟨4, by decide, by decide, ⟨by decide, by decide, ⟨by decide, by decide, ⟨by decide, by decide, ⟨by decide, by decide, rfl⟩⟩⟩⟩⟩, by decide⟩
  · exact ⟨⟨5, by decide, by decide, ⟨by decide, by decide, ⟨by decide, by decide, ⟨by decide, by decide, ⟨by decide, by decide, ⟨by decide, by decide, rfl⟩⟩⟩⟩⟩⟩, by decide⟩
  · exact ⟨⟨4, by decide, by decide, ⟨by decide, by decide, ⟨by decide, by decide, ⟨by decide, by decide, ⟨by decide, by decide, rfl⟩⟩⟩⟩⟩, by decide⟩
  · exact ⟨⟨5, by decide, by decide, ⟨by decide, by decide, ⟨by decide, by decide, ⟨by decide, by decide, ⟨by decide, by decide, ⟨by decide, by decide, rfl⟩⟩⟩⟩⟩⟩, by decide⟩
theorem kw_inj : ∀ i, i < 19 → ∀ j, j < 19 → kwN i = kwN j → i = j := by decide
