/-! what is read of a BROOK, on both sides -/
theorem numN {x : Int32} {a b : Nat} (ha : a < 2 ^ 31) (hb : b < 2 ^ 31) (h1 : nI a ≤ x) (h2 : x ≤ nI b) : ∃ n, a ≤ n ∧ n ≤ b ∧ x = nI n := by
  have a1 : (a : Int) ≤ x.toInt := by
    have := Int32.le_iff_toInt_le.mp h1
    rwa [nI_toInt ha] at this
  have a2 : x.toInt ≤ (b : Int) := by
    have := Int32.le_iff_toInt_le.mp h2
    rwa [nI_toInt hb] at this
  exact ⟨x.toInt.toNat, by omega, by omega, nI_ofInt (by omega) (by omega)⟩
def rL (μ : Mem) (j : Nat) (N : Nat → Int64) : Mem := (μ.1, va_up μ.2 j N)
section MRl
variable {μ : Mem} {j k l : Nat} {N : Nat → Int64} {x : Int64}
theorem rL_at : (rL μ j N).2 j = N := up_at
theorem rL_o (h : l ≠ j) : (rL μ j N).2 l = μ.2 l := up_row h
theorem rL_up : upL (rL μ j N) j k x = rL μ j (vp_updL N k x) := by
  unfold upL rL
  refine Prod.ext rfl (funext fun a => ?_)
  show va_up (va_up μ.2 j N) j (vp_updL (va_up μ.2 j N j) k x) a = va_up μ.2 j (vp_updL N k x) a
  by_cases h : a = j
  · subst h
    rw [up_at, up_at, up_at]
  · rw [up_row h, up_row h, up_row h]
theorem rL_self : rL μ j (μ.2 j) = μ := by
  unfold rL
  refine Prod.ext rfl (funext fun a => ?_)
  show va_up μ.2 j (μ.2 j) a = μ.2 a
  by_cases h : a = j
  · subst h
    rw [up_at]
  · rw [up_row h]
theorem vpL_at : vp_updL N k x k = x := by
  unfold vp_updL
  rw [if_pos rfl]
theorem vpL_ne (h : l ≠ k) : vp_updL N k x l = N l := by
  unfold vp_updL
  rw [if_neg h]
end MRl
theorem upd_self {f : Nat → Int32} {c : Nat} : upd f c (f c) = f := by
  funext j
  by_cases h : j = c
  · rw [h, upd_at]
  · rw [upd_ne h]
def cntP (f : Nat → Int32) (n : Nat) : Nat := fo n (fun c k => if 0 < f c then k + 1 else k) 0
theorem cnt_s {f : Nat → Int32} {n : Nat} : cntP f (n + 1) = if 0 < f n then cntP f n + 1 else cntP f n := fo_s
theorem cnt_le {f : Nat → Int32} : ∀ n, cntP f n ≤ n := by
  intro n
  induction n with
  | zero => exact Nat.le_refl 0
  | succ n ih =>
    rw [cnt_s]
    by_cases h : 0 < f n
    · rw [if_pos h]; omega
    · rw [if_neg h]; omega
theorem cnt_z {f : Nat → Int32} : cntP f 0 = 0 := fo_0
theorem cnt_eq {f g : Nat → Int32} : ∀ n, (∀ j, j < n → f j = g j) → cntP f n = cntP g n := by
  intro n
  induction n with
  | zero => intro _; rw [cnt_z, cnt_z]
  | succ n ih =>
    intro h
    have e := h n (by omega)
    have i1 := ih (fun j hj => h j (by omega))
    rw [cnt_s, cnt_s, i1]
    by_cases hn : 0 < f n
    · rw [if_pos hn, if_pos (by rw [← e]; exact hn)]
    · rw [if_neg hn, if_neg (by rw [← e]; exact hn)]
theorem cnt_up {f : Nat → Int32} {c : Nat} {x : Int32} (h0 : ¬ 0 < f c) (hx : 0 < x) : ∀ n, c < n → cntP (upd f c x) n = cntP f n + 1 := by
  intro n
  induction n with
  | zero => intro h; omega
  | succ n ih =>
    intro h
    rw [cnt_s, cnt_s]
    by_cases hc : c = n
    · subst hc
      rw [upd_at, if_pos hx, if_neg h0, cnt_eq c (fun j hj => upd_ne (by omega))]
    · rw [upd_ne (fun z => hc z.symm), ih (by omega)]
      by_cases hn : 0 < f n
      · rw [if_pos hn, if_pos hn]
      · rw [if_neg hn, if_neg hn]
theorem nmR_new {f : Nat → Int32} {N : Nat → Int64} {base n c : Nat} (h : nmR f N base n) (hc : nameN c) : nmR (upd f n (nI c)) (vp_updL N (base + n) (lN (cvN 6 c))) base (n + 1) := by
  intro k hk
  by_cases hx : k = n
  · subst hx
    exact ⟨c, hc, by rw [upd_at], vpL_at⟩
  · obtain ⟨a, h1, h2, h3⟩ := h k (by omega)
    exact ⟨a, h1, by rw [upd_ne hx]; exact h2, by rw [vpL_ne (by omega)]; exact h3⟩
theorem nmR_off {f : Nat → Int32} {N : Nat → Int64} {base n s : Nat} {x : Int64} (h : nmR f N base n) (hs : s < base ∨ base + n ≤ s) : nmR f (vp_updL N s x) base n := by
  intro k hk
  obtain ⟨a, h1, h2, h3⟩ := h k hk
  exact ⟨a, h1, h2, by rw [vpL_ne (by omega)]; exact h3⟩
def RBB (G W : Nat) (q : Nat → Int32) (N : Nat → Int64) (B : Bk) : Prop :=
  (G ≤ 6)
  ∧ (W ≤ 8)
  ∧ (B 0 0 = nI G)
  ∧ (B 0 1 = nI W)
  ∧ (B 0 3 = 0 ∨ B 0 3 = 1)
  ∧ (q 0 = nI G)
  ∧ (q 1 = nI W)
  ∧ (q 2 = B 0 3)
  ∧ (q 3 = nI (cntP (B 7) 48))
  ∧ (q 4 = nI (cntP (B 10) 48))
  ∧ (q 5 = nI (cntP (B 11) 48))
  ∧ (∀ g, g < G → q (8 + g) = B 3 g ∧ ∃ l, l ≤ 9 ∧ B 3 g = nI l)
  ∧ (∀ w, w < W → q (14 + w) = B 4 w ∧ q (22 + w) = B 5 w ∧ ∃ a b, a ≤ 11 ∧ b ≤ 11 ∧ B 4 w = nI a ∧ B 5 w = nI b)
  ∧ (∀ w, w < 8 → q (30 + w) = B 6 w ∧ ∃ k, k ≤ 99 ∧ B 6 w = nI k ∧ (W ≤ w → k = 0))
  ∧ (∀ c, c < 48 → q (38 + c) = B 7 c ∧ q (86 + c) = B 8 c ∧ q (134 + c) = B 9 c ∧ q (182 + c) = B 10 c ∧ q (230 + c) = B 11 c)
  ∧ (∀ c, c < 48 → ∃ t s a v e, (t ≤ 9 ∧ t ≤ s) ∧ s ≤ 99 ∧ a ≤ s ∧ v ≤ 9 ∧ e ≤ 9 ∧ (t = 0 → s = 0) ∧ (W ≤ c / 6 ∨ G ≤ c % 6 → t = 0 ∧ v = 0 ∧ e = 0) ∧ B 7 c = nI t ∧ B 8 c = nI s ∧ B 9 c = nI a ∧ B 10 c = nI v ∧ B 11 c = nI e)
  ∧ (nmR (B 1) N 0 G)
  ∧ (nmR (B 2) N 6 W)
section MRa
variable {G W : Nat} {q : Nat → Int32} {N : Nat → Int64} {B : Bk}
theorem RBB.g6 (h : RBB G W q N B) : G ≤ 6 := h.1
theorem RBB.w8 (h : RBB G W q N B) : W ≤ 8 := h.2.1
theorem RBB.b0 (h : RBB G W q N B) : B 0 0 = nI G := h.2.2.1
theorem RBB.b1 (h : RBB G W q N B) : B 0 1 = nI W := h.2.2.2.1
theorem RBB.bj (h : RBB G W q N B) : B 0 3 = 0 ∨ B 0 3 = 1 := h.2.2.2.2.1
theorem RBB.q0 (h : RBB G W q N B) : q 0 = nI G := h.2.2.2.2.2.1
theorem RBB.q1 (h : RBB G W q N B) : q 1 = nI W := h.2.2.2.2.2.2.1
theorem RBB.q2 (h : RBB G W q N B) : q 2 = B 0 3 := h.2.2.2.2.2.2.2.1
theorem RBB.c3 (h : RBB G W q N B) : q 3 = nI (cntP (B 7) 48) := h.2.2.2.2.2.2.2.2.1
theorem RBB.c4 (h : RBB G W q N B) : q 4 = nI (cntP (B 10) 48) := h.2.2.2.2.2.2.2.2.2.1
theorem RBB.c5 (h : RBB G W q N B) : q 5 = nI (cntP (B 11) 48) := h.2.2.2.2.2.2.2.2.2.2.1
theorem RBB.ls (h : RBB G W q N B) : ∀ g, g < G → q (8 + g) = B 3 g ∧ ∃ l, l ≤ 9 ∧ B 3 g = nI l := h.2.2.2.2.2.2.2.2.2.2.2.1
theorem RBB.ft (h : RBB G W q N B) : ∀ w, w < W → q (14 + w) = B 4 w ∧ q (22 + w) = B 5 w ∧ ∃ a b, a ≤ 11 ∧ b ≤ 11 ∧ B 4 w = nI a ∧ B 5 w = nI b := h.2.2.2.2.2.2.2.2.2.2.2.2.1
theorem RBB.mk (h : RBB G W q N B) : ∀ w, w < 8 → q (30 + w) = B 6 w ∧ ∃ k, k ≤ 99 ∧ B 6 w = nI k ∧ (W ≤ w → k = 0) := h.2.2.2.2.2.2.2.2.2.2.2.2.2.1
theorem RBB.ce (h : RBB G W q N B) : ∀ c, c < 48 → q (38 + c) = B 7 c ∧ q (86 + c) = B 8 c ∧ q (134 + c) = B 9 c ∧ q (182 + c) = B 10 c ∧ q (230 + c) = B 11 c := h.2.2.2.2.2.2.2.2.2.2.2.2.2.2.1
theorem RBB.cb (h : RBB G W q N B) : ∀ c, c < 48 → ∃ t s a v e, (t ≤ 9 ∧ t ≤ s) ∧ s ≤ 99 ∧ a ≤ s ∧ v ≤ 9 ∧ e ≤ 9 ∧ (t = 0 → s = 0) ∧ (W ≤ c / 6 ∨ G ≤ c % 6 → t = 0 ∧ v = 0 ∧ e = 0) ∧ B 7 c = nI t ∧ B 8 c = nI s ∧ B 9 c = nI a ∧ B 10 c = nI v ∧ B 11 c = nI e := h.2.2.2.2.2.2.2.2.2.2.2.2.2.2.2.1
theorem RBB.n1 (h : RBB G W q N B) : nmR (B 1) N 0 G := h.2.2.2.2.2.2.2.2.2.2.2.2.2.2.2.2.1
theorem RBB.n2 (h : RBB G W q N B) : nmR (B 2) N 6 W := h.2.2.2.2.2.2.2.2.2.2.2.2.2.2.2.2.2
end MRa
section MRb
variable {G W : Nat} {q q' : Nat → Int32} {N N' : Nat → Int64} {B B' : Bk}
theorem RBB_FB (h : RBB G W q N B) : FB G W q B := by
  refine ⟨h.q2, h.bj, h.ls, fun w hw => ⟨(h.ft w hw).1, (h.ft w hw).2.1, (h.mk w (by have := h.w8; omega)).1⟩, h.ce, fun c hc => ?_⟩
  obtain ⟨t, s, a, v, e, h1, h2, h3, h4, h5, h6, h7, h8⟩ := h.cb c hc
  exact ⟨t, s, a, v, e, h1.1, by omega, h3, h4, h5, h6, h8⟩
theorem RBB_line {x : Int32} (h : RBB G W q N B) : RBB G W q N (u2 B 0 2 x) := by
  have e : ∀ k, k ≠ 0 → u2 B 0 2 x k = B k := fun k hk => u2_row hk
  have e0 : ∀ j, j ≠ 2 → u2 B 0 2 x 0 j = B 0 j := fun j hj => by rw [u2_at, upd_ne hj]
  refine ⟨?_, ?_, ?_, ?_, ?_, ?_, ?_, ?_, ?_, ?_, ?_, ?_, ?_, ?_, ?_, ?_, ?_, ?_⟩
  · exact h.g6
  · exact h.w8
  · rw [e0 0 (by decide)]; exact h.b0
  · rw [e0 1 (by decide)]; exact h.b1
  · rw [e0 3 (by decide)]; exact h.bj
  · exact h.q0
  · exact h.q1
  · rw [e0 3 (by decide)]; exact h.q2
  · rw [e 7 (by decide)]; exact h.c3
  · rw [e 10 (by decide)]; exact h.c4
  · rw [e 11 (by decide)]; exact h.c5
  · rw [e 3 (by decide)]; exact h.ls
  · rw [e 4 (by decide), e 5 (by decide)]; exact h.ft
  · rw [e 6 (by decide)]; exact h.mk
  · rw [e 7 (by decide), e 8 (by decide), e 9 (by decide), e 10 (by decide), e 11 (by decide)]; exact h.ce
  · rw [e 7 (by decide), e 8 (by decide), e 9 (by decide), e 10 (by decide), e 11 (by decide)]; exact h.cb
  · rw [e 1 (by decide)]; exact h.n1
  · rw [e 2 (by decide)]; exact h.n2
theorem RBB_join (h : RBB G W q N B) : RBB G W (upd q 2 (nI 1)) N (u2 B 0 3 (nI 1)) := by
  have e : ∀ k, k ≠ 0 → u2 B 0 3 (nI 1) k = B k := fun k hk => u2_row hk
  have e0 : ∀ j, j ≠ 3 → u2 B 0 3 (nI 1) 0 j = B 0 j := fun j hj => by rw [u2_at, upd_ne hj]
  have e3 : u2 B 0 3 (nI 1) 0 3 = nI 1 := by rw [u2_at, upd_at]
  have f : ∀ j, j ≠ 2 → upd q 2 (nI 1) j = q j := fun j hj => upd_ne hj
  refine ⟨?_, ?_, ?_, ?_, ?_, ?_, ?_, ?_, ?_, ?_, ?_, ?_, ?_, ?_, ?_, ?_, ?_, ?_⟩
  · exact h.g6
  · exact h.w8
  · rw [e0 0 (by decide)]; exact h.b0
  · rw [e0 1 (by decide)]; exact h.b1
  · rw [e3]; exact Or.inr rfl
  · rw [f _ (by decide)]; exact h.q0
  · rw [f _ (by decide)]; exact h.q1
  · rw [e3, upd_at]
  · rw [f _ (by decide), e 7 (by decide)]; exact h.c3
  · rw [f _ (by decide), e 10 (by decide)]; exact h.c4
  · rw [f _ (by decide), e 11 (by decide)]; exact h.c5
  · intro g hg
    rw [f _ (by omega), e 3 (by decide)]; exact h.ls g hg
  · intro w hw
    rw [f _ (by omega), f _ (by omega), e 4 (by decide), e 5 (by decide)]; exact h.ft w hw
  · intro w hw
    rw [f _ (by omega), e 6 (by decide)]; exact h.mk w hw
  · intro c hc
    rw [f _ (by omega), f _ (by omega), f _ (by omega), f _ (by omega), f _ (by omega), e 7 (by decide), e 8 (by decide), e 9 (by decide), e 10 (by decide), e 11 (by decide)]; exact h.ce c hc
  · rw [e 7 (by decide), e 8 (by decide), e 9 (by decide), e 10 (by decide), e 11 (by decide)]; exact h.cb
  · rw [e 1 (by decide)]; exact h.n1
  · rw [e 2 (by decide)]; exact h.n2
theorem RBB_make {i k : Nat} (h : RBB G W q N B) (hi : i < W) (hk : k ≤ 99) : RBB G W (upd q (30 + i) (nI k)) N (u2 B 6 i (nI k)) := by
  have e : ∀ k', k' ≠ 6 → u2 B 6 i (nI k) k' = B k' := fun k hk => u2_row hk
  have f : ∀ j, j ≠ 30 + i → upd q (30 + i) (nI k) j = q j := fun j hj => upd_ne hj
  have w8 := h.w8
  refine ⟨?_, ?_, ?_, ?_, ?_, ?_, ?_, ?_, ?_, ?_, ?_, ?_, ?_, ?_, ?_, ?_, ?_, ?_⟩
  · exact h.g6
  · exact h.w8
  · rw [e 0 (by decide)]; exact h.b0
  · rw [e 0 (by decide)]; exact h.b1
  · rw [e 0 (by decide)]; exact h.bj
  · rw [f _ (by omega)]; exact h.q0
  · rw [f _ (by omega)]; exact h.q1
  · rw [f _ (by omega), e 0 (by decide)]; exact h.q2
  · rw [f _ (by omega), e 7 (by decide)]; exact h.c3
  · rw [f _ (by omega), e 10 (by decide)]; exact h.c4
  · rw [f _ (by omega), e 11 (by decide)]; exact h.c5
  · intro g hg
    have g6 := h.g6
    rw [f _ (by omega), e 3 (by decide)]; exact h.ls g hg
  · intro w hw
    rw [f _ (by omega), f _ (by omega), e 4 (by decide), e 5 (by decide)]; exact h.ft w hw
  · intro w hw
    by_cases hx : w = i
    · rw [hx, upd_at, u2_at, upd_at]
      exact ⟨rfl, k, hk, rfl, fun z => by omega⟩
    · rw [f _ (by omega), u2_at, upd_ne hx]; exact h.mk w hw
  · intro c hc
    rw [f _ (by omega), f _ (by omega), f _ (by omega), f _ (by omega), f _ (by omega), e 7 (by decide), e 8 (by decide), e 9 (by decide), e 10 (by decide), e 11 (by decide)]; exact h.ce c hc
  · rw [e 7 (by decide), e 8 (by decide), e 9 (by decide), e 10 (by decide), e 11 (by decide)]; exact h.cb
  · rw [e 1 (by decide)]; exact h.n1
  · rw [e 2 (by decide)]; exact h.n2
theorem RBB_good {c l : Nat} (h : RBB G W q N B) (hg : G < 6) (hc : nameN c) (hl : l ≤ 9) : RBB (G + 1) W (upd (upd q (8 + G) (nI l)) 0 (nI (G + 1))) (vp_updL N G (lN (cvN 6 c))) (u2 (u2 (u2 B 1 G (nI c)) 3 G (nI l)) 0 0 (nI (G + 1))) := by
  have e : ∀ k, k ≠ 0 → k ≠ 1 → k ≠ 3 → (u2 (u2 (u2 B 1 G (nI c)) 3 G (nI l)) 0 0 (nI (G + 1))) k = B k := fun k h0 h1 h3 => by rw [u2_row h0, u2_row h3, u2_row h1]
  have e0 : (u2 (u2 (u2 B 1 G (nI c)) 3 G (nI l)) 0 0 (nI (G + 1))) 0 = upd (B 0) 0 (nI (G + 1)) := by rw [u2_at, u2_row (by decide), u2_row (by decide)]
  have e1 : (u2 (u2 (u2 B 1 G (nI c)) 3 G (nI l)) 0 0 (nI (G + 1))) 1 = upd (B 1) G (nI c) := by rw [u2_row (by decide), u2_row (by decide), u2_at]
  have e3 : (u2 (u2 (u2 B 1 G (nI c)) 3 G (nI l)) 0 0 (nI (G + 1))) 3 = upd (B 3) G (nI l) := by rw [u2_row (by decide), u2_at, u2_row (by decide)]
  generalize (u2 (u2 (u2 B 1 G (nI c)) 3 G (nI l)) 0 0 (nI (G + 1))) = B' at e e0 e1 e3 ⊢
  have f0 : (upd (upd q (8 + G) (nI l)) 0 (nI (G + 1))) 0 = nI (G + 1) := upd_at
  have f8 : (upd (upd q (8 + G) (nI l)) 0 (nI (G + 1))) (8 + G) = nI l := by rw [upd_ne (by omega), upd_at]
  have f : ∀ j, j ≠ 0 → j ≠ 8 + G → (upd (upd q (8 + G) (nI l)) 0 (nI (G + 1))) j = q j := fun j h0 h8 => by rw [upd_ne h0, upd_ne h8]
  generalize (upd (upd q (8 + G) (nI l)) 0 (nI (G + 1))) = q' at f0 f8 f ⊢
  refine ⟨?_, ?_, ?_, ?_, ?_, ?_, ?_, ?_, ?_, ?_, ?_, ?_, ?_, ?_, ?_, ?_, ?_, ?_⟩
  · exact hg
  · exact h.w8
  · rw [e0, upd_at]
  · rw [e0, upd_ne (by decide)]; exact h.b1
  · rw [e0, upd_ne (by decide)]; exact h.bj
  · exact f0
  · rw [f _ (by omega) (by omega)]; exact h.q1
  · rw [f _ (by omega) (by omega), e0, upd_ne (by decide)]; exact h.q2
  · rw [f _ (by omega) (by omega), e 7 (by decide) (by decide) (by decide)]; exact h.c3
  · rw [f _ (by omega) (by omega), e 10 (by decide) (by decide) (by decide)]; exact h.c4
  · rw [f _ (by omega) (by omega), e 11 (by decide) (by decide) (by decide)]; exact h.c5
  · intro g hg2
    by_cases hx : g = G
    · rw [hx, f8, e3, upd_at]
      exact ⟨rfl, l, hl, rfl⟩
    · rw [f _ (by omega) (by omega), e3, upd_ne hx]; exact h.ls g (by omega)
  · intro w hw
    rw [f _ (by omega) (by omega), f _ (by omega) (by omega), e 4 (by decide) (by decide) (by decide), e 5 (by decide) (by decide) (by decide)]; exact h.ft w hw
  · intro w hw
    rw [f _ (by omega) (by omega), e 6 (by decide) (by decide) (by decide)]; exact h.mk w hw
  · intro c hc
    rw [f _ (by omega) (by omega), f _ (by omega) (by omega), f _ (by omega) (by omega), f _ (by omega) (by omega), f _ (by omega) (by omega), e 7 (by decide) (by decide) (by decide), e 8 (by decide) (by decide) (by decide), e 9 (by decide) (by decide) (by decide), e 10 (by decide) (by decide) (by decide), e 11 (by decide) (by decide) (by decide)]; exact h.ce c hc
  · intro c hc
    rw [e 7 (by decide) (by decide) (by decide), e 8 (by decide) (by decide) (by decide), e 9 (by decide) (by decide) (by decide), e 10 (by decide) (by decide) (by decide), e 11 (by decide) (by decide) (by decide)]
    obtain ⟨t, s, a, v, e, h1, h2, h3, h4, h5, h6, h7, h8⟩ := h.cb c hc
    exact ⟨t, s, a, v, e, h1, h2, h3, h4, h5, h6, fun z => h7 (by omega), h8⟩
  · rw [e1]
    have := nmR_new h.n1 hc
    rwa [Nat.zero_add] at this
  · rw [e 2 (by decide) (by decide) (by decide)]; exact nmR_off h.n2 (by omega)
theorem RBB_work {c a b : Nat} (h : RBB G W q N B) (hw8 : W < 8) (hc : nameN c) (ha : a ≤ 11) (hb : b ≤ 11)
    (e : ∀ k, k ≠ 0 → k ≠ 2 → k ≠ 4 → k ≠ 5 → B' k = B k) (e0 : B' 0 = upd (B 0) 1 (nI (W + 1))) (e2 : B' 2 = upd (B 2) W (nI c)) (e4 : ∀ j, j ≠ W → B' 4 j = B 4 j ∧ B' 5 j = B 5 j) (e4w : B' 4 W = nI a) (e5w : B' 5 W = nI b)
    (f : ∀ j, j ≠ 1 → j ≠ 14 + W → j ≠ 22 + W → q' j = q j) (f1 : q' 1 = nI (W + 1)) (f4 : q' (14 + W) = nI a) (f5 : q' (22 + W) = nI b) : RBB G (W + 1) q' (vp_updL N (6 + W) (lN (cvN 6 c))) B' := by
  have g6 := h.g6
  refine ⟨?_, ?_, ?_, ?_, ?_, ?_, ?_, ?_, ?_, ?_, ?_, ?_, ?_, ?_, ?_, ?_, ?_, ?_⟩
  · exact h.g6
  · exact hw8
  · rw [e0, upd_ne (by decide)]; exact h.b0
  · rw [e0, upd_at]
  · rw [e0, upd_ne (by decide)]; exact h.bj
  · rw [f _ (by omega) (by omega) (by omega)]; exact h.q0
  · exact f1
  · rw [f _ (by omega) (by omega) (by omega), e0, upd_ne (by decide)]; exact h.q2
  · rw [f _ (by omega) (by omega) (by omega), e 7 (by decide) (by decide) (by decide) (by decide)]; exact h.c3
  · rw [f _ (by omega) (by omega) (by omega), e 10 (by decide) (by decide) (by decide) (by decide)]; exact h.c4
  · rw [f _ (by omega) (by omega) (by omega), e 11 (by decide) (by decide) (by decide) (by decide)]; exact h.c5
  · intro g hg2
    rw [f _ (by omega) (by omega) (by omega), e 3 (by decide) (by decide) (by decide) (by decide)]; exact h.ls g hg2
  · intro w hw
    by_cases hx : w = W
    · rw [hx, f4, f5, e4w, e5w]
      exact ⟨rfl, rfl, a, b, ha, hb, rfl, rfl⟩
    · rw [f _ (by omega) (by omega) (by omega), f _ (by omega) (by omega) (by omega), (e4 w hx).1, (e4 w hx).2]; exact h.ft w (by omega)
  · intro w hw
    rw [f _ (by omega) (by omega) (by omega), e 6 (by decide) (by decide) (by decide) (by decide)]
    obtain ⟨h1, k, h2, h3, h4⟩ := h.mk w hw
    exact ⟨h1, k, h2, h3, fun z => h4 (by omega)⟩
  · intro c hc
    rw [f _ (by omega) (by omega) (by omega), f _ (by omega) (by omega) (by omega), f _ (by omega) (by omega) (by omega), f _ (by omega) (by omega) (by omega), f _ (by omega) (by omega) (by omega), e 7 (by decide) (by decide) (by decide) (by decide), e 8 (by decide) (by decide) (by decide) (by decide), e 9 (by decide) (by decide) (by decide) (by decide), e 10 (by decide) (by decide) (by decide) (by decide), e 11 (by decide) (by decide) (by decide) (by decide)]; exact h.ce c hc
  · intro c hc
    rw [e 7 (by decide) (by decide) (by decide) (by decide), e 8 (by decide) (by decide) (by decide) (by decide), e 9 (by decide) (by decide) (by decide) (by decide), e 10 (by decide) (by decide) (by decide) (by decide), e 11 (by decide) (by decide) (by decide) (by decide)]
    obtain ⟨t, s, a, v, e, h1, h2, h3, h4, h5, h6, h7, h8⟩ := h.cb c hc
    exact ⟨t, s, a, v, e, h1, h2, h3, h4, h5, h6, fun z => h7 (by omega), h8⟩
  · rw [e 1 (by decide) (by decide) (by decide) (by decide)]; exact nmR_off h.n1 (by omega)
  · rw [e2]; exact nmR_new h.n2 hc
theorem RBB_cell {c t s a v e : Nat} (h : RBB G W q N B) (hc : c < 48) (hw : c / 6 < W) (hg : c % 6 < G) (ht : t ≤ 9 ∧ t ≤ s) (hs : s ≤ 99) (ha : a ≤ s) (hv : v ≤ 9) (he : e ≤ 9) (hts : t = 0 → s = 0)
    (eB : ∀ k, k < 7 → B' k = B k) (e7 : B' 7 = upd (B 7) c (nI t)) (e8 : B' 8 = upd (B 8) c (nI s)) (e9 : B' 9 = upd (B 9) c (nI a)) (e10 : B' 10 = upd (B 10) c (nI v)) (e11 : B' 11 = upd (B 11) c (nI e))
    (f : ∀ j, j ≠ 3 → j ≠ 4 → j ≠ 5 → j ≠ 38 + c → j ≠ 86 + c → j ≠ 134 + c → j ≠ 182 + c → j ≠ 230 + c → q' j = q j)
    (f7 : q' (38 + c) = nI t) (f8 : q' (86 + c) = nI s) (f9 : q' (134 + c) = nI a) (f10 : q' (182 + c) = nI v) (f11 : q' (230 + c) = nI e)
    (c3 : q' 3 = nI (cntP (upd (B 7) c (nI t)) 48)) (c4 : q' 4 = nI (cntP (upd (B 10) c (nI v)) 48)) (c5 : q' 5 = nI (cntP (upd (B 11) c (nI e)) 48)) : RBB G W q' N B' := by
  have g6 := h.g6
  have w8 := h.w8
  have f' : ∀ j, j ≠ 3 → j ≠ 4 → j ≠ 5 → j < 38 → q' j = q j := fun j h3 h4 h5 hj => f j h3 h4 h5 (by omega) (by omega) (by omega) (by omega) (by omega)
  refine ⟨?_, ?_, ?_, ?_, ?_, ?_, ?_, ?_, ?_, ?_, ?_, ?_, ?_, ?_, ?_, ?_, ?_, ?_⟩
  · exact h.g6
  · exact h.w8
  · rw [eB 0 (by decide)]; exact h.b0
  · rw [eB 0 (by decide)]; exact h.b1
  · rw [eB 0 (by decide)]; exact h.bj
  · rw [f' _ (by omega) (by omega) (by omega) (by omega)]; exact h.q0
  · rw [f' _ (by omega) (by omega) (by omega) (by omega)]; exact h.q1
  · rw [f' _ (by omega) (by omega) (by omega) (by omega), eB 0 (by decide)]; exact h.q2
  · rw [e7]; exact c3
  · rw [e10]; exact c4
  · rw [e11]; exact c5
  · intro g hg2
    rw [f' _ (by omega) (by omega) (by omega) (by omega), eB 3 (by decide)]; exact h.ls g hg2
  · intro w hw
    rw [f' _ (by omega) (by omega) (by omega) (by omega), f' _ (by omega) (by omega) (by omega) (by omega), eB 4 (by decide), eB 5 (by decide)]; exact h.ft w hw
  · intro w hw
    rw [f' _ (by omega) (by omega) (by omega) (by omega), eB 6 (by decide)]; exact h.mk w hw
  · intro d hd
    by_cases hx : d = c
    · rw [hx, f7, f8, f9, f10, f11, e7, e8, e9, e10, e11, upd_at, upd_at, upd_at, upd_at, upd_at]
      exact ⟨rfl, rfl, rfl, rfl, rfl⟩
    · have ff : ∀ b, (b = 38 ∨ b = 86 ∨ b = 134 ∨ b = 182 ∨ b = 230) → q' (b + d) = q (b + d) := fun b hb => f _ (by omega) (by omega) (by omega) (by omega) (by omega) (by omega) (by omega) (by omega)
      rw [ff 38 (by omega), ff 86 (by omega), ff 134 (by omega), ff 182 (by omega), ff 230 (by omega), e7, e8, e9, e10, e11, upd_ne hx, upd_ne hx, upd_ne hx, upd_ne hx, upd_ne hx]
      exact h.ce d hd
  · intro d hd
    rw [e7, e8, e9, e10, e11]
    by_cases hx : d = c
    · rw [hx, upd_at, upd_at, upd_at, upd_at, upd_at]
      exact ⟨t, s, a, v, e, ht, hs, ha, hv, he, hts, fun z => by omega, rfl, rfl, rfl, rfl, rfl⟩
    · rw [upd_ne hx, upd_ne hx, upd_ne hx, upd_ne hx, upd_ne hx]
      exact h.cb d hd
  · rw [eB 1 (by decide)]; exact h.n1
  · rw [eB 2 (by decide)]; exact h.n2
theorem lt0 {v : Nat} (h : 1 ≤ v) (h2 : v < 2 ^ 31) : (0 : Int32) < nI v := (nI_ltI (a := 0) (by decide) h2).mpr h
theorem RBB_gives {i g v : Nat} (h : RBB G W q N B) (hi : i < W) (hg : g < G) (h0 : ¬ 0 < B 10 (i * 6 + g)) (hv1 : 1 ≤ v) (hv : v ≤ 9) : RBB G W (upd (upd q (182 + (i * 6 + g)) (nI v)) 4 (q 4 + nI 1)) N (u2 B 10 (i * 6 + g) (nI v)) := by
  have g6 := h.g6
  have w8 := h.w8
  generalize hcc : i * 6 + g = c at h0 ⊢
  have hc : c < 48 := by omega
  obtain ⟨t, s, a, v0, e, h1, h2, h3, h4, h5, h6, h7, k7, k8, k9, k10, k11⟩ := h.cb c hc
  have ce := h.ce c hc
  refine RBB_cell h hc (by omega) (by omega) h1 h2 h3 hv h5 h6 (fun k hk => u2_row (by omega)) ?_ ?_ ?_ u2_at ?_ (fun j a3 a4 a5 b1 b2 b3 b4 b5 => by rw [upd_ne a4, upd_ne b4]) ?_ ?_ ?_ ?_ ?_ ?_ ?_ ?_
  · rw [u2_row (by decide), ← k7, upd_self]
  · rw [u2_row (by decide), ← k8, upd_self]
  · rw [u2_row (by decide), ← k9, upd_self]
  · rw [u2_row (by decide), ← k11, upd_self]
  · rw [upd_ne (by omega), upd_ne (by omega), ce.1, k7]
  · rw [upd_ne (by omega), upd_ne (by omega), ce.2.1, k8]
  · rw [upd_ne (by omega), upd_ne (by omega), ce.2.2.1, k9]
  · rw [upd_ne (by omega), upd_at]
  · rw [upd_ne (by omega), upd_ne (by omega), ce.2.2.2.2, k11]
  · rw [upd_ne (by omega), upd_ne (by omega), ← k7, upd_self]; exact h.c3
  · rw [upd_at, h.c4, nI_add, cnt_up h0 (lt0 hv1 (by omega)) 48 hc]
  · rw [upd_ne (by omega), upd_ne (by omega), ← k11, upd_self]; exact h.c5
theorem RBB_feeds {i g v : Nat} (h : RBB G W q N B) (hi : i < W) (hg : g < G) (h0 : ¬ 0 < B 11 (i * 6 + g)) (hv1 : 1 ≤ v) (hv : v ≤ 9) : RBB G W (upd (upd q (230 + (i * 6 + g)) (nI v)) 5 (q 5 + nI 1)) N (u2 B 11 (i * 6 + g) (nI v)) := by
  have g6 := h.g6
  have w8 := h.w8
  generalize hcc : i * 6 + g = c at h0 ⊢
  have hc : c < 48 := by omega
  obtain ⟨t, s, a, v0, e, h1, h2, h3, h4, h5, h6, h7, k7, k8, k9, k10, k11⟩ := h.cb c hc
  have ce := h.ce c hc
  refine RBB_cell h hc (by omega) (by omega) h1 h2 h3 h4 hv h6 (fun k hk => u2_row (by omega)) ?_ ?_ ?_ ?_ u2_at (fun j a3 a4 a5 b1 b2 b3 b4 b5 => by rw [upd_ne a5, upd_ne b5]) ?_ ?_ ?_ ?_ ?_ ?_ ?_ ?_
  · rw [u2_row (by decide), ← k7, upd_self]
  · rw [u2_row (by decide), ← k8, upd_self]
  · rw [u2_row (by decide), ← k9, upd_self]
  · rw [u2_row (by decide), ← k10, upd_self]
  · rw [upd_ne (by omega), upd_ne (by omega), ce.1, k7]
  · rw [upd_ne (by omega), upd_ne (by omega), ce.2.1, k8]
  · rw [upd_ne (by omega), upd_ne (by omega), ce.2.2.1, k9]
  · rw [upd_ne (by omega), upd_ne (by omega), ce.2.2.2.1, k10]
  · rw [upd_ne (by omega), upd_at]
  · rw [upd_ne (by omega), upd_ne (by omega), ← k7, upd_self]; exact h.c3
  · rw [upd_ne (by omega), upd_ne (by omega), ← k10, upd_self]; exact h.c4
  · rw [upd_at, h.c5, nI_add, cnt_up h0 (lt0 hv1 (by omega)) 48 hc]
theorem RBB_takes {i g t s a : Nat} (h : RBB G W q N B) (hi : i < W) (hg : g < G) (h0 : ¬ 0 < B 7 (i * 6 + g)) (ht1 : 1 ≤ t) (ht : t ≤ 9) (hts : t ≤ s) (hs : s ≤ 99) (ha : a ≤ s) : RBB G W (upd (upd (upd (upd q (38 + (i * 6 + g)) (nI t)) (86 + (i * 6 + g)) (nI s)) (134 + (i * 6 + g)) (nI a)) 3 (q 3 + nI 1)) N (u2 (u2 (u2 B 7 (i * 6 + g) (nI t)) 8 (i * 6 + g) (nI s)) 9 (i * 6 + g) (nI a)) := by
  have g6 := h.g6
  have w8 := h.w8
  generalize hcc : i * 6 + g = c at h0 ⊢
  have hc : c < 48 := by omega
  obtain ⟨t0, s0, a0, v, e, h1, h2, h3, h4, h5, h6, h7, k7, k8, k9, k10, k11⟩ := h.cb c hc
  have ce := h.ce c hc
  refine RBB_cell h hc (by omega) (by omega) ⟨ht, hts⟩ hs ha h4 h5 (fun z => by omega) (fun k hk => by rw [u2_row (by omega), u2_row (by omega), u2_row (by omega)]) ?_ ?_ ?_ ?_ ?_ (fun j a3 a4 a5 b1 b2 b3 b4 b5 => by rw [upd_ne a3, upd_ne b3, upd_ne b2, upd_ne b1]) ?_ ?_ ?_ ?_ ?_ ?_ ?_ ?_
  · rw [u2_row (by decide), u2_row (by decide), u2_at]
  · rw [u2_row (by decide), u2_at, u2_row (by decide)]
  · rw [u2_at, u2_row (by decide), u2_row (by decide)]
  · rw [u2_row (by decide), u2_row (by decide), u2_row (by decide), ← k10, upd_self]
  · rw [u2_row (by decide), u2_row (by decide), u2_row (by decide), ← k11, upd_self]
  · rw [upd_ne (by omega), upd_ne (by omega), upd_ne (by omega), upd_at]
  · rw [upd_ne (by omega), upd_ne (by omega), upd_at]
  · rw [upd_ne (by omega), upd_at]
  · rw [upd_ne (by omega), upd_ne (by omega), upd_ne (by omega), upd_ne (by omega), ce.2.2.2.1, k10]
  · rw [upd_ne (by omega), upd_ne (by omega), upd_ne (by omega), upd_ne (by omega), ce.2.2.2.2, k11]
  · rw [upd_at, h.c3, nI_add, cnt_up h0 (lt0 ht1 (by omega)) 48 hc]
  · rw [upd_ne (by omega), upd_ne (by omega), upd_ne (by omega), upd_ne (by omega), ← k10, upd_self]; exact h.c4
  · rw [upd_ne (by omega), upd_ne (by omega), upd_ne (by omega), upd_ne (by omega), ← k11, upd_self]; exact h.c5
end MRb
