/-! the best of what was tried: (whether there is one, which, how much) -/
def bsS (b v : Nat) (s : Nat × Nat × Nat) : Nat × Nat × Nat := if s.1 = 0 ∨ s.2.2 < v then (1, b, v) else s
def bsB (s : Nat × Nat × Nat) : Int32 := if s.1 = 0 then -1 else nI s.2.1
def bsM (s : Nat × Nat × Nat) : Int32 := if s.1 = 0 then -1 else nI s.2.2
def bsN (s : Nat × Nat × Nat) : Int32 := if s.1 = 0 then nI 0 else nI s.2.2
def bsD (s : Nat × Nat × Nat) : Int32 := if s.1 = 0 then nI 0 else nI s.2.1
def bsOk (s : Nat × Nat × Nat) : Prop := s.2.1 ≤ 100 ∧ s.2.2 ≤ 158400
def bsR (tv : Nat → Nat) : Nat → Nat → Nat × Nat × Nat → Nat × Nat × Nat
  | 0, _, s => s
  | n + 1, w, s => bsR tv n (w + 1) (bsS w (tv w) s)
def bsG (p tv : Nat → Nat → Nat) (w : Nat) : Nat → Nat → Nat × Nat × Nat → Nat × Nat × Nat
  | 0, _, s => s
  | i + 1, g, s => bsG p tv w i (g + 1) (if p w g = 0 then s else bsS (10 * w + g) (tv w g) s)
def bsW (p tv : Nat → Nat → Nat) (G : Nat) : Nat → Nat → Nat × Nat × Nat → Nat × Nat × Nat
  | 0, _, s => s
  | n + 1, w, s => bsW p tv G n (w + 1) (bsG p tv w G 0 s)
theorem bsS_ok {b v : Nat} {s : Nat × Nat × Nat} (h : bsOk s) (hb : b ≤ 100) (hv : v ≤ 158400) : bsOk (bsS b v s) := by
  unfold bsS
  by_cases hc : s.1 = 0 ∨ s.2.2 < v
  · rw [if_pos hc]; exact ⟨hb, hv⟩
  · rw [if_neg hc]; exact h
theorem bs_0 : bsOk (0, 0, 0) := ⟨Nat.zero_le _, Nat.zero_le _⟩
theorem bsB_0 : bsB (0, 0, 0) = -1 := if_pos rfl
theorem bsM_0 : bsM (0, 0, 0) = -1 := if_pos rfl
theorem bsN_0 : bsN (0, 0, 0) = nI 0 := if_pos rfl
theorem bsD_0 : bsD (0, 0, 0) = nI 0 := if_pos rfl
theorem m1_lt {v : Nat} (hv : v < 2 ^ 31) : ¬ nI v ≤ -1 := fun h => by
  rw [Int32.le_iff_toInt_le, nI_toInt hv] at h
  have : (-1 : Int32).toInt = -1 := by decide
  omega
/-- class: not more than the most -/
theorem bs_le {v : Nat} {s : Nat × Nat × Nat} (hs : bsOk s) (hv : v ≤ 158400) : (nI v ≤ bsM s) = ¬ (s.1 = 0 ∨ s.2.2 < v) := by
  have h2 := hs.2
  unfold bsM
  by_cases h0 : s.1 = 0
  · rw [if_pos h0]
    exact propext ⟨fun z => absurd z (m1_lt (by omega)), fun z => absurd (Or.inl h0) z⟩
  · rw [if_neg h0, nI_lq (by omega) (by omega)]
    exact propext ⟨fun z c => by omega, fun z => by omega⟩
theorem bs_t {b v : Nat} {s : Nat × Nat × Nat} (h : s.1 = 0 ∨ s.2.2 < v) : bsS b v s = (1, b, v) := if_pos h
theorem bs_f {b v : Nat} {s : Nat × Nat × Nat} (h : ¬ (s.1 = 0 ∨ s.2.2 < v)) : bsS b v s = s := if_neg h
theorem bsB_1 {b v : Nat} : bsB (1, b, v) = nI b := rfl
theorem bsM_1 {b v : Nat} : bsM (1, b, v) = nI v := rfl
theorem bsN_1 {b v : Nat} : bsN (1, b, v) = nI v := rfl
theorem bsD_1 {b v : Nat} : bsD (1, b, v) = nI b := rfl
/-- reference: is there one? -/
theorem bs_m1 {s : Nat × Nat × Nat} (hs : bsOk s) : (bsB s = -1) = (s.1 = 0) := by
  have h1 := hs.1
  unfold bsB
  by_cases h0 : s.1 = 0
  · rw [if_pos h0]; exact propext ⟨fun _ => h0, fun _ => rfl⟩
  · rw [if_neg h0, nI_m1 (by omega)]; exact propext ⟨False.elim, fun z => absurd z h0⟩
theorem bs_gt {v : Nat} {s : Nat × Nat × Nat} (hs : bsOk s) (h0 : ¬ s.1 = 0) (hv : v ≤ 158400) : (bsN s < nI v) = (s.2.2 < v) := by
  have h2 := hs.2
  unfold bsN
  rw [if_neg h0, nI_ltq (by omega) (by omega)]
theorem bs_gtM {v : Nat} {s : Nat × Nat × Nat} (hs : bsOk s) (hv : v ≤ 158400) : (bsM s < nI v) = (s.1 = 0 ∨ s.2.2 < v) := by
  have h2 := hs.2
  unfold bsM
  by_cases h0 : s.1 = 0
  · rw [if_pos h0]
    exact propext ⟨fun _ => Or.inl h0, fun _ => Int32.not_le.mp (m1_lt (by omega))⟩
  · rw [if_neg h0, nI_ltq (by omega) (by omega)]
    exact propext ⟨fun z => Or.inr z, fun z => by omega⟩
section MBs
variable {B B' R R' : Bk} {G W n : Nat} {f f' fr : Nat → Int32}
theorem tot_small (hF : FB G W f B) (g6 : G ≤ 6) (w8 : W ≤ 8) (h6 : ∀ w, w < W → ∃ k, k ≤ 99 ∧ B 6 w = nI k) (hn : n ≤ 200) : ∃ k, k ≤ 158400 ∧ totF W B (runC G W B fr R n) = nI k := tot_nn w8 hn (run_rel (V := fun _ _ => nI 0) hF g6 w8 n (by omega)) h6
theorem tot_eq (hF : FB G W f B) (g6 : G ≤ 6) (w8 : W ≤ 8) (hB : eqB B B') (hn : n ≤ 200) : totF W B' (runC G W B' fr R' n) = totF W B (runC G W B fr R n) := by
  have h1 := made_rel w8 (run_rel (V := fun _ _ => nI 0) (R := R) (fr := fr) hF g6 w8 n (by omega))
  have h2 := made_rel w8 (run_rel (V := fun _ _ => nI 0) (R := R') (fr := fr) (FB_eq hF g6 w8 hB (fun _ _ => rfl)) g6 w8 n (by omega))
  rw [← h1, ← h2]
theorem FB_5 {w : Nat} {v : Int32} (h : FB G W f B) (g6 : G ≤ 6) (w8 : W ≤ 8) (hw : w < W) : FB G W (upd f (22 + w) v) (u2 B 5 w v) := by
  obtain ⟨h1, h2, h3, h4, h5, h6⟩ := h
  have ff : ∀ j, j ≠ 22 + w → upd f (22 + w) v j = f j := fun j hj => upd_ne hj
  have r : ∀ k, k ≠ 5 → u2 B 5 w v k = B k := fun k hk => u2_row hk
  refine ⟨by rw [ff _ (by omega), r 0 (by decide)]; exact h1, by rw [r 0 (by decide)]; exact h2, fun g hg => ?_, fun w' hw' => ?_, fun d hd => ?_, fun d hd => ?_⟩
  · rw [ff _ (by omega), r 3 (by decide)]; exact h3 g hg
  · rw [ff _ (by omega), ff (30 + w') (by omega), r 4 (by decide), r 6 (by decide)]
    have a := h4 w' hw'
    refine ⟨a.1, ?_, a.2.2⟩
    by_cases hx : w' = w
    · rw [hx, upd_at, u2_at, upd_at]
    · rw [ff _ (by omega), u2_at, upd_ne hx]; exact a.2.1
  · rw [ff _ (by omega), ff _ (by omega), ff _ (by omega), ff _ (by omega), ff _ (by omega), r 7 (by decide), r 8 (by decide), r 9 (by decide), r 10 (by decide), r 11 (by decide)]
    exact h5 d hd
  · rw [r 7 (by decide), r 8 (by decide), r 9 (by decide), r 10 (by decide), r 11 (by decide)]
    exact h6 d hd
theorem FB_8 {c s' : Nat} (h : FB G W f B) (g6 : G ≤ 6) (w8 : W ≤ 8) (hc : c < 48) (hs : s' ≤ 200) (h9 : ∃ a, a ≤ s' ∧ B 9 c = nI a) (h7 : ¬ B 7 c = nI 0) : FB G W (upd f (86 + c) (nI s')) (u2 B 8 c (nI s')) := by
  obtain ⟨h1, h2, h3, h4, h5, h6⟩ := h
  have ff : ∀ j, j ≠ 86 + c → upd f (86 + c) (nI s') j = f j := fun j hj => upd_ne hj
  have r : ∀ k, k ≠ 8 → u2 B 8 c (nI s') k = B k := fun k hk => u2_row hk
  refine ⟨by rw [ff _ (by omega), r 0 (by decide)]; exact h1, by rw [r 0 (by decide)]; exact h2, fun g hg => ?_, fun w' hw' => ?_, fun d hd => ?_, fun d hd => ?_⟩
  · rw [ff _ (by omega), r 3 (by decide)]; exact h3 g hg
  · rw [ff _ (by omega), ff _ (by omega), ff _ (by omega), r 4 (by decide), r 5 (by decide), r 6 (by decide)]; exact h4 w' hw'
  · have a := h5 d hd
    rw [ff (38 + d) (by omega), ff (134 + d) (by omega), ff (182 + d) (by omega), ff (230 + d) (by omega), r 7 (by decide), r 9 (by decide), r 10 (by decide), r 11 (by decide)]
    refine ⟨a.1, ?_, a.2.2⟩
    by_cases hx : d = c
    · rw [hx, upd_at, u2_at, upd_at]
    · rw [ff _ (by omega), u2_at, upd_ne hx]; exact a.2.1
  · obtain ⟨t, s, a, v, e, k1, k2, k3, k4, k5, k6, k7, k8, k9, k10, k11⟩ := h6 d hd
    rw [r 7 (by decide), r 9 (by decide), r 10 (by decide), r 11 (by decide)]
    by_cases hx : d = c
    · obtain ⟨a', a1, a2⟩ := h9
      subst hx
      refine ⟨t, s', a', v, e, k1, hs, a1, k4, k5, fun z => ?_, k7, by rw [u2_at, upd_at], a2, k10, k11⟩
      rw [z] at k7
      exact absurd k7 h7
    · exact ⟨t, s, a, v, e, k1, k2, k3, k4, k5, k6, k7, by rw [u2_at, upd_ne hx]; exact k8, k9, k10, k11⟩
theorem runC_seg {s : Int32} {a : Nat} : ∀ n, (∀ k, a ≤ k → k < a + n → fr k = s) → fo n (fun _ => passF G W B s) (runC G W B fr R a) = runC G W B fr R (a + n) := by
  intro n
  induction n with
  | zero => intro _; rfl
  | succ n ih =>
    intro h
    rw [fo_s, ih (fun k h1 h2 => h k h1 (by omega))]
    show _ = runC G W B fr R (a + n + 1)
    rw [runC_s, h (a + n) (by omega) (by omega)]
end MBs
section MKr
variable {X : mC} {h x m : Nat} {μ : Mem} {K : MV → Mem → Prop} {Q B P : Bk} {G W n : Nat}
/-- behind layRule and one number of the rule told otherwise -/
theorem d_runU {j : Nat} {v : Int32} {q : Nat → Int32} (hn : n ≤ 200) (g6 : G ≤ 6) (w8 : W ≤ 8) (hj : 2 ≤ j) (hF : FB G W (upd (layF Q 10) j v) B) (hq : Q 2 = q) (q0 : q 0 = nI G) (q1 : q 1 = nI W) (hP : PL G W P q) (hK : ∀ Q', frK Q Q' → K (.inl (totF W B (runC G W B (fun _ => nI 1 <<< (nI W &&& 31) - nI 1) (fun _ _ => nI 0) n))) (sb μ m 21 Q')) : mMet X (h + 5) m_X9_run [.inr (.inr (8, 0, m)), .inl (nI n)] (sb μ m 21 (u2 (layF Q) 10 j v)) K := by
  subst hq
  refine c_runG (B := B) (P := P) (G := G) (W := W) (fr := fun _ => nI 1 <<< (nI W &&& 31) - nI 1) hn (by rw [u2_at, upd_ne (by omega), lay_10 (by omega)]; exact q0) g6 (by rw [u2_at, upd_ne (by omega), lay_10 (by omega)]; exact q1) w8 (by rw [u2_at]; exact hF) (by rw [u2_row (by decide), lay_k (by decide) (by decide)]; exact hP) (by rw [u2_row (by decide)]; exact lay_f.2.2) (fun k' hk' w' hw' => ?_) (fun Q2 f2 => hK Q2 (frK_t (frK_t frK_lay ⟨fun k h0 hk => u2_row (by omega), fun j hj => by rw [u2_row (by decide)]⟩) f2))
  rw [u2_row (by decide), lay_f.1, lay_f.2.1]
  exact bit_free w8 hw' (by omega)
end MKr
