section MPz
variable {G W N n : Nat} {V R B : Bk} {f : Nat → Int32}
theorem cpy_in {f g : Nat → Int32} {n k : Nat} (h : k < n) : va_cpy f g 0 0 n k = f k := by
  unfold va_cpy
  rw [if_pos ⟨Nat.zero_le k, by omega⟩, Nat.zero_add, Nat.sub_zero]
theorem fill_in {n k : Nat} {x : Int32} {f : Nat → Int32} (h : k < n) : fillR n x f k = x := if_pos h
theorem startF_1 {c : Nat} (h : c < 48) : startF B R 1 c = B 9 c := by
  unfold startF
  rw [up_at, cpy_in h]
theorem startF_k {k : Nat} (h : k ≠ 1) : startF B R k = emptyF R k := by
  unfold startF
  rw [up_row h]
theorem emptyF_at : emptyF R 0 0 = nI 0 ∧ (∀ c, c < 48 → emptyF R 1 c = nI 0 ∧ emptyF R 2 c = nI 0 ∧ emptyF R 3 c = nI 0 ∧ emptyF R 4 c = nI 0) ∧ (∀ g, g < 6 → emptyF R 5 g = nI 0 ∧ emptyF R 6 g = nI 0 ∧ emptyF R 7 g = nI 0) ∧ (∀ w, w < 8 → emptyF R 8 w = nI 0 ∧ emptyF R 9 w = -1 ∧ emptyF R 10 w = nI 0) ∧ ∀ j, j < 36 → emptyF R 11 j = nI 0 := by
  unfold emptyF
  refine ⟨?_, fun c hc => ⟨?_, ?_, ?_, ?_⟩, fun g hg => ⟨?_, ?_, ?_⟩, fun w hw => ⟨?_, ?_, ?_⟩, fun j hj => ?_⟩ <;> simp (disch := omega) only [up_row, up_at, u2_at, upd_at, fill_in]
theorem start_rel (hF : FB G W f B) (hG6 : G ≤ 6) (hW8 : W ≤ 8) : HB G W 0 0 B (startV f V) (startF B R) := by
  obtain ⟨s1, s2, s3, s4⟩ := start_at (f := f) (V := V)
  obtain ⟨m0, m1, m5, m8, m11⟩ := emptyF_at (R := R)
  have zz : ∀ k j o, k ≠ 1 → k ≠ 9 → k ≠ 18 → dk o = (k, j) → o < 296 → startV f V k j = nI 0 := fun k j o h1 h2 h3 h4 h5 => by
    rw [s4 k h1 h2 h3]; exact zero_k h4 h5
  clear s4
  generalize startV f V = S at s1 s2 s3 zz ⊢
  refine ⟨fun k j hk hj => ?_, fun g hg => ?_, fun g hg hg6 => ?_, ?_, ?_, ?_, s3, fun w' hw hw8 => ?_, fun w' hw => ?_⟩
  · have hk8 : k = 1 ∨ k = 2 ∨ k = 3 ∨ k = 4 ∨ k = 8 ∨ k = 9 ∨ k = 10 ∨ k = 11 := by omega
    rcases hk8 with rfl | rfl | rfl | rfl | rfl | rfl | rfl | rfl
    · have hj : j < 48 := hj
      rw [s1 j hj, startF_1 hj]; exact ((hF.2.2.2.2.1 j hj).2.2.1)
    · have hj : j < 48 := hj
      rw [zz 2 j (50 + j) (by decide) (by decide) (by decide) (dk_mark hj) (by omega), startF_k (by decide)]; exact (m1 j hj).2.1.symm
    · have hj : j < 48 := hj
      rw [zz 3 j (98 + j) (by decide) (by decide) (by decide) (dk_comes hj) (by omega), startF_k (by decide)]; exact (m1 j hj).2.2.1.symm
    · have hj : j < 48 := hj
      rw [zz 4 j (146 + j) (by decide) (by decide) (by decide) (dk_lacks hj) (by omega), startF_k (by decide)]; exact (m1 j hj).2.2.2.symm
    · have hj : j < 8 := hj
      rw [zz 8 j (212 + j) (by decide) (by decide) (by decide) (dk_went hj) (by omega), startF_k (by decide)]; exact (m8 j hj).1.symm
    · have hj : j < 8 := hj
      rw [s2 j hj, startF_k (by decide)]; exact (m8 j hj).2.1.symm
    · have hj : j < 8 := hj
      rw [zz 10 j (236 + j) (by decide) (by decide) (by decide) (dk_found hj) (by omega), startF_k (by decide)]; exact (m8 j hj).2.2.symm
    · have hj : j < 36 := hj
      rw [zz 11 j (260 + j) (by decide) (by decide) (by decide) (by rw [dkI_11 (by omega), show 260 + j - 260 = j by omega]) (by omega), startF_k (by decide)]; exact (m11 j hj).symm
  · rw [startF_k (by decide), startF_k (by decide), startF_k (by decide), zz 15 g (194 + g) (by decide) (by decide) (by decide) (dk_way (by omega)) (by omega), zz 16 g (200 + g) (by decide) (by decide) (by decide) (dk_wmark (by omega)) (by omega), zz 17 g (206 + g) (by decide) (by decide) (by decide) (dk_wfrom (by omega)) (by omega)]
    obtain ⟨a, b, c⟩ := m5 g (by omega)
    exact ⟨a.symm, b.symm, c.symm⟩
  · rw [startF_k (by decide), zz 15 g (194 + g) (by decide) (by decide) (by decide) (dk_way (by omega)) (by omega)]
    exact ⟨(m5 g hg6).1, rfl⟩
  · refine ⟨fun g hg => ⟨0, by omega, by rw [startF_k (by decide)]; exact (m5 g (by omega)).1⟩, fun c hc => ?_⟩
    obtain ⟨t, s, a, v, e, ht, hs, ha, hv, he, hts, b7, b8, b9, b10, b11⟩ := hF.2.2.2.2.2 c hc
    exact ⟨a, s, ha, hs, by rw [startF_1 hc]; exact b9, b8, fun _ => by rw [startF_k (by decide)]; exact (m1 c hc).2.1⟩
  · rw [startF_k (by decide)]; exact m0
  · exact zz 0 0 1 (by decide) (by decide) (by decide) rfl (by decide)
  · exact zz 13 w' (228 + w') (by decide) (by decide) (by decide) (dk_made hw8) (by omega)
  · by_cases hw8 : w' < 8
    · refine ⟨?_, 0, by omega, ?_, ?_, ?_, Or.inl ?_⟩
      · rw [zz 13 w' (228 + w') (by decide) (by decide) (by decide) (dk_made hw8) (by omega), startF_k (by decide), (m8 w' hw8).1]
        exact (Int32.zero_mul).symm
      · rw [startF_k (by decide)]; exact (m8 w' hw8).1
      · exact zz 12 w' (220 + w') (by decide) (by decide) (by decide) (dk_stood hw8) (by omega)
      · rw [zz 14 w' (252 + w') (by decide) (by decide) (by decide) (dk_now hw8) (by omega), startF_k (show (8 : Nat) ≠ 1 by decide), (m8 w' hw8).1]
        exact (bI_f (fun z => absurd z.1 (by decide))).symm
      · rw [startF_k (by decide)]; exact (m8 w' hw8).2.1
    · omega
/-- the class's RUN of n HOURS, with who is free in each -/
def runC (G W : Nat) (B : Bk) (fr : Nat → Int32) (R : Bk) (n : Nat) : Bk := fo n (fun k => passF G W B (fr k)) (startF B R)
theorem run_rel {fr : Nat → Int32} (hF : FB G W f B) (hG6 : G ≤ 6) (hW8 : W ≤ 8) : ∀ n, n ≤ 2000 → HB G W (864 * n) n B (runV G W f fr n V) (runC G W B fr R n) := by
  intro n
  induction n with
  | zero =>
    intro _
    have e1 : runV G W f fr 0 V = startV f V := fo_0
    have e2 : runC G W B fr R 0 = startF B R := fo_0
    rw [e1, e2]
    exact start_rel hF hG6 hW8
  | succ n ih =>
    intro hn
    have h1 := ih (by omega)
    have e1 : runV G W f fr (n + 1) V = hourV G W f (fr n) (nI n) (runV G W f fr n V) := fo_s
    have e2 : runC G W B fr R (n + 1) = passF G W B (fr n) (runC G W B fr R n) := fo_s
    rw [e1, e2, show 864 * (n + 1) = 864 * n + 864 by omega]
    exact hour_rel hF (by omega) hG6 hW8 (by omega) h1
theorem made_rel (hW8 : W ≤ 8) (hH : HB G W N n B V R) : madeV V = totF W B R := by
  have h8 := hH.2.2.2.2.2.2.2.1
  have hw := hH.2.2.2.2.2.2.2.2
  have k1 : ∀ i, i ≤ W → fo i (fun w s => s + V 13 w) (nI 0) = fo i (fun w s => s + R 8 w * B 6 w) (nI 0) := by
    intro i
    induction i with
    | zero => intro _; rfl
    | succ i ih =>
      intro hi
      rw [fo_s, fo_s, ih (by omega), (hw i (by omega)).1]
  have k2 : ∀ d, W + d ≤ 8 → fo (W + d) (fun w s => s + V 13 w) (nI 0) = fo W (fun w s => s + R 8 w * B 6 w) (nI 0) := by
    intro d
    induction d with
    | zero => intro _; exact k1 W (Nat.le_refl W)
    | succ d ih =>
      intro hd
      rw [show W + (d + 1) = W + d + 1 by omega, fo_s, ih (by omega), h8 (W + d) (by omega) (by omega)]
      exact Int32.add_zero _
  unfold madeV totF
  have := k2 (8 - W) (by omega)
  rw [show W + (8 - W) = 8 by omega] at this
  exact this
end MPz
