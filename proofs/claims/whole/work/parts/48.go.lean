/-! the reference's next TOKEN -/
def gr (q : Nat → Int32) (a b c d e : Int32) : Nat → Int32 := fun j => if j = 5 then a else if j = 6 then b else if j = 7 then c else if j = 8 then d else if j = 9 then e else q j
def gq (Q : Bk) (a b c d e : Int32) : Bk := va_up Q 0 (gr (Q 0) a b c d e)
section MGo
variable {Q : Bk} {a b c d e x : Int32}
theorem gr_o {q : Nat → Int32} {j : Nat} (h : j < 5 ∨ 9 < j) : gr q a b c d e j = q j := by
  unfold gr
  rw [if_neg (by omega), if_neg (by omega), if_neg (by omega), if_neg (by omega), if_neg (by omega)]
theorem gq_k {k : Nat} (h : k ≠ 0) : gq Q a b c d e k = Q k := up_row h
theorem gq_o {j : Nat} (h : j < 5 ∨ 9 < j) : gq Q a b c d e 0 j = Q 0 j := by unfold gq; rw [up_at]; exact gr_o h
theorem gq_5 : gq Q a b c d e 0 5 = a := by unfold gq; rw [up_at]; rfl
theorem gq_6 : gq Q a b c d e 0 6 = b := by unfold gq; rw [up_at]; rfl
theorem gq_7 : gq Q a b c d e 0 7 = c := by unfold gq; rw [up_at]; rfl
theorem gq_8 : gq Q a b c d e 0 8 = d := by unfold gq; rw [up_at]; rfl
theorem gq_9 : gq Q a b c d e 0 9 = e := by unfold gq; rw [up_at]; rfl
theorem gr_up {q : Nat → Int32} {j : Nat} {a' b' c' d' e' : Int32} (h : ∀ i, i ≠ j → gr q a b c d e i = gr q a' b' c' d' e' i) (h2 : gr q a' b' c' d' e' j = x) : upd (gr q a b c d e) j x = gr q a' b' c' d' e' := by
  funext i
  by_cases hi : i = j
  · subst hi; rw [upd_at, h2]
  · rw [upd_ne hi]; exact h i hi
theorem gu_5 : u2 (gq Q a b c d e) 0 5 x = gq Q x b c d e := by
  unfold gq
  rw [u2_vup]
  exact congrArg (va_up Q 0) (gr_up (fun i hi => by unfold gr; simp only [if_neg hi]) rfl)
theorem gu_6 : u2 (gq Q a b c d e) 0 6 x = gq Q a x c d e := by
  unfold gq
  rw [u2_vup]
  exact congrArg (va_up Q 0) (gr_up (fun i hi => by unfold gr; simp only [if_neg hi]) rfl)
theorem gu_7 : u2 (gq Q a b c d e) 0 7 x = gq Q a b x d e := by
  unfold gq
  rw [u2_vup]
  exact congrArg (va_up Q 0) (gr_up (fun i hi => by unfold gr; simp only [if_neg hi]) rfl)
theorem gu_8 : u2 (gq Q a b c d e) 0 8 x = gq Q a b c x e := by
  unfold gq
  rw [u2_vup]
  exact congrArg (va_up Q 0) (gr_up (fun i hi => by unfold gr; simp only [if_neg hi]) rfl)
theorem gu_9 : u2 (gq Q a b c d e) 0 9 x = gq Q a b c d x := by
  unfold gq
  rw [u2_vup]
  exact congrArg (va_up Q 0) (gr_up (fun i hi => by unfold gr; simp only [if_neg hi]) rfl)
theorem gq_self : gq Q (Q 0 5) (Q 0 6) (Q 0 7) (Q 0 8) (Q 0 9) = Q := by
  unfold gq
  have : gr (Q 0) (Q 0 5) (Q 0 6) (Q 0 7) (Q 0 8) (Q 0 9) = Q 0 := by
    funext j
    unfold gr
    by_cases h5 : j = 5
    · rw [if_pos h5, h5]
    · rw [if_neg h5]
      by_cases h6 : j = 6
      · rw [if_pos h6, h6]
      · rw [if_neg h6]
        by_cases h7 : j = 7
        · rw [if_pos h7, h7]
        · rw [if_neg h7]
          by_cases h8 : j = 8
          · rw [if_pos h8, h8]
          · rw [if_neg h8]
            by_cases h9 : j = 9
            · rw [if_pos h9, h9]
            · rw [if_neg h9]
  rw [this]
  exact vup_id
end MGo
section MGp
variable {μ : Mem} {i j n k l : Nat} {R : Bk} {x y : Int64}
theorem upL_sb : upL (sb μ i n R) j k x = sb (upL μ j k x) i n R := rfl
theorem upL_at : (upL μ j k x).2 j k = x := by
  unfold upL
  show va_up μ.2 j (vp_updL (μ.2 j) k x) j k = x
  rw [up_at]
  unfold vp_updL
  rw [if_pos rfl]
theorem upL_up : upL (upL μ j k x) j k y = upL μ j k y := by
  unfold upL
  refine Prod.ext rfl (funext fun a => ?_)
  show va_up (va_up μ.2 j (vp_updL (μ.2 j) k x)) j (vp_updL (va_up μ.2 j (vp_updL (μ.2 j) k x) j) k y) a = va_up μ.2 j (vp_updL (μ.2 j) k y) a
  by_cases h : a = j
  · subst h
    rw [up_at, up_at, up_at]
    funext z
    unfold vp_updL
    by_cases hz : z = k
    · rw [if_pos hz, if_pos hz]
    · rw [if_neg hz, if_neg hz, if_neg hz]
  · rw [up_row h, up_row h, up_row h]
theorem upL_self : upL μ j k (μ.2 j k) = μ := by
  unfold upL
  refine Prod.ext rfl (funext fun a => ?_)
  show va_up μ.2 j (vp_updL (μ.2 j) k (μ.2 j k)) a = μ.2 a
  by_cases h : a = j
  · subst h
    rw [up_at]
    funext z
    unfold vp_updL
    by_cases hz : z = k
    · rw [if_pos hz, hz]
    · rw [if_neg hz]
  · rw [up_row h]
end MGp
/-- letters and digits, on both sides -/
def SI (I : Nat) (f : Nat → Int32) (s : Tk) (w : Int64) (num good : Int32) : Prop :=
  s.2.1 + s.2.2.1 + I = s.1 ∧ good = bI (((nI 97 ≤ f I ∧ f I ≤ nI 122) ∧ s.2.2.1 = 0) ∨ ((¬ (nI 97 ≤ f I ∧ f I ≤ nI 122)) ∧ s.2.1 = 0))
  ∧ (s.2.2.1 = 0 → s.2.1 ≤ 6 → ∃ n, wlN s.2.1 n ∧ s.2.2.2.1 = nI n ∧ w = lN (cvN 6 n)) ∧ (s.2.1 = 0 → s.2.2.1 ≤ 3 → num = s.2.2.2.2)
  ∧ (I < s.1 → (nI 97 ≤ f I ∧ f I ≤ nI 122) → 1 ≤ s.2.1) ∧ (I < s.1 → ¬ (nI 97 ≤ f I ∧ f I ≤ nI 122) → 1 ≤ s.2.2.1)
theorem letN {x : Int32} (h1 : nI 97 ≤ x) (h2 : x ≤ nI 122) : ∃ c, 97 ≤ c ∧ c ≤ 122 ∧ x = nI c := by
  have a1 : (97 : Int) ≤ x.toInt := by
    have := Int32.le_iff_toInt_le.mp h1
    rwa [nI_toInt (by decide)] at this
  have a2 : x.toInt ≤ (122 : Int) := by
    have := Int32.le_iff_toInt_le.mp h2
    rwa [nI_toInt (by decide)] at this
  refine ⟨x.toInt.toNat, by omega, by omega, nI_ofInt (by omega) (by omega)⟩
theorem fa_or (a b : Nat) : nI a ||| nI b = nI (a ||| b) := by
  apply Int32.toBitVec_inj.1
  show BitVec.ofNat 32 a ||| BitVec.ofNat 32 b = BitVec.ofNat 32 (a ||| b)
  apply BitVec.eq_of_getLsbD_eq
  intro i hi
  simp [hi]
theorem fa_or_sum {a k : Nat} (b : Nat) (h : a < 2 ^ k) : nI (2 ^ k * b) ||| nI a = nI (2 ^ k * b + a) := by rw [fa_or, Nat.two_pow_add_eq_or_of_lt h]
theorem or_add {n c : Nat} (hn : n < 2 ^ 25) (hc : c < 32) : nI n <<< (nI 5 &&& 31) ||| nI c = nI (32 * n + c) := by
  rw [pk_shlN (n := n) (nI 5 &&& 31) 5 (by decide) (by omega), Nat.mul_comm n (2 ^ 5)]
  exact fa_or_sum (k := 5) n hc
theorem nL_step {n c : Nat} (hc : c < 2 ^ 31) (h96 : 96 ≤ c) : 27 * lN n + (nI c).toInt64 - 96 = lN (27 * n + (c - 96)) := by
  rw [nI_l hc]
  have e1 : (27 : Int64) * lN n = lN (27 * n) := lN_mul 27 n
  have e2 : (96 : Int64) = lN 96 := rfl
  rw [e1, lN_add, e2, lN_sub (by omega)]
  congr 1
  omega
abbrev isLt (x : Int32) : Prop := nI 97 ≤ x ∧ x ≤ nI 122
theorem SI_s {I : Nat} {f : Nat → Int32} {s : Tk} {w : Int64} {num good : Int32} (hs : SI I f s w num good) (ha : alnum (f s.1)) (hI : s.1 ≤ 1000) : SI I f (rtS f s) (if s.1 - I < 6 then 27 * w + (f s.1).toInt64 - 96 else w) (if s.1 - I < 3 then nI 10 * num + f s.1 - nI 48 else num) (bI (¬ good = 0 ∧ (isLt (f s.1) ↔ isLt (f I)))) := by
  obtain ⟨h1, h2, h3, h4, h5, h6⟩ := hs
  by_cases hl : isLt (f s.1)
  · rw [rtS_t hl.1]
    obtain ⟨c, hc1, hc2, ec⟩ := letN hl.1 hl.2
    refine ⟨by show s.2.1 + 1 + s.2.2.1 + I = s.1 + 1; omega, ?_, fun hd hk => ?_, fun hk => ?_, fun _ _ => by show 1 ≤ s.2.1 + 1; omega, fun _ hn => ?_⟩
    · show _ = bI ((isLt (f I) ∧ s.2.2.1 = 0) ∨ ((¬ isLt (f I)) ∧ s.2.1 + 1 = 0))
      by_cases hg : isLt (f I) ∧ s.2.2.1 = 0
      · rw [bI_t (Or.inl hg), bI_t ⟨by rw [h2, bI_t (Or.inl hg)]; decide, ⟨fun _ => hg.1, fun _ => hl⟩⟩]
      · rw [bI_f (c := (isLt (f I) ∧ s.2.2.1 = 0) ∨ ((¬ isLt (f I)) ∧ s.2.1 + 1 = 0)) (fun z => z.elim hg (fun q => absurd q.2 (by omega))), bI_f]
        intro z
        have hlt := z.2.mp hl
        refine z.1 ?_
        rw [h2, bI_f (fun q => q.elim hg (fun r => r.1 hlt))]
        rfl
    · have hd : s.2.2.1 = 0 := hd
      have hk : s.2.1 + 1 ≤ 6 := hk
      obtain ⟨n, n1, n2, n3⟩ := h3 hd (by omega)
      have ws := wl_s (c := c - 96) n1 (by omega) (by omega)
      have nlt := wl_lt _ _ n1
      have n25 : n < 2 ^ 25 := by
        have : 32 ^ s.2.1 ≤ 32 ^ 5 := Nat.pow_le_pow_right (by decide) (by omega)
        omega
      refine ⟨32 * n + (c - 96), ws.1, ?_, ?_⟩
      · show s.2.2.2.1 <<< (nI 5 &&& 31) ||| (f s.1 - nI 96) = _
        rw [n2, ec, nI_subq (by omega), or_add n25 (by omega)]
      · rw [if_pos (by omega), n3, ec, nL_step (by omega) (by omega)]
        have c6 := wl_cv _ _ ws.1 (6 - (s.2.1 + 1))
        rw [show s.2.1 + 1 + (6 - (s.2.1 + 1)) = 6 by omega] at c6
        have c5 := wl_cv _ _ n1 (6 - s.2.1)
        rw [show s.2.1 + (6 - s.2.1) = 6 by omega] at c5
        rw [c6, ws.2, c5]
    · exact absurd hk (by show ¬ s.2.1 + 1 = 0; omega)
    · show 1 ≤ s.2.2.1
      by_cases hIs : I < s.1
      · exact h6 hIs hn
      · exact absurd hl (by rw [show s.1 = I by omega]; exact hn)
  · have hlt : ¬ nI 97 ≤ f s.1 := fun z => by
      rcases ha with q | q
      · exact hl q
      · exact absurd (Int32.le_trans z q.2) (by decide)
    rw [rtS_f hlt]
    refine ⟨by show s.2.1 + (s.2.2.1 + 1) + I = s.1 + 1; omega, ?_, fun hk => ?_, fun hk hd => ?_, fun _ hn => ?_, fun _ _ => by show 1 ≤ s.2.2.1 + 1; omega⟩
    · show _ = bI ((isLt (f I) ∧ s.2.2.1 + 1 = 0) ∨ ((¬ isLt (f I)) ∧ s.2.1 = 0))
      by_cases hg : (¬ isLt (f I)) ∧ s.2.1 = 0
      · rw [bI_t (Or.inr hg), bI_t ⟨by rw [h2, bI_t (Or.inr hg)]; decide, ⟨fun z => absurd z hl, fun z => absurd z hg.1⟩⟩]
      · rw [bI_f (c := (isLt (f I) ∧ s.2.2.1 + 1 = 0) ∨ ((¬ isLt (f I)) ∧ s.2.1 = 0)) (fun z => z.elim (fun q => absurd q.2 (by omega)) hg), bI_f]
        intro z
        have hni : ¬ isLt (f I) := fun q => hl (z.2.mpr q)
        refine z.1 ?_
        rw [h2, bI_f (fun q => q.elim (fun r => hni r.1) hg)]
        rfl
    · exact absurd hk (by show ¬ s.2.2.1 + 1 = 0; omega)
    · have hk : s.2.1 = 0 := hk
      have hd : s.2.2.1 + 1 ≤ 3 := hd
      rw [if_pos (by omega), h4 hk (by omega)]
      show nI 10 * s.2.2.2.2 + f s.1 - nI 48 = s.2.2.2.2 * nI 10 + f s.1 - nI 48
      rw [Int32.mul_comm]
    · show 1 ≤ s.2.1
      by_cases hIs : I < s.1
      · exact h5 hIs hn
      · exact absurd hn (by rw [← show s.1 = I by omega]; exact hl)
abbrev isSg (v : Int32) : Prop := v = nI 59 ∨ v = nI 60 ∨ v = nI 61 ∨ v = nI 62 ∨ v = nI 40 ∨ v = nI 41
/-- what the reference holds of a TOKEN, by what the class holds of it -/
def GP (T : Bk) (a b c d e : Int32) (w : Int64) : Prop :=
  a = T 0 4 ∧ b = T 0 6 ∧ c = (if T 0 5 = nI 4 ∧ ¬ isSg (T 0 7) then nI 1 else T 0 5) ∧ (T 0 5 = nI 3 → d = T 0 7) ∧ (T 0 5 = nI 2 → ∃ n, nameN n ∧ T 0 7 = nI n ∧ w = lN (cvN 6 n)) ∧ (T 0 5 = nI 4 → e = T 0 7)
theorem GP_lim {T : Bk} {d e : Int32} {w : Int64} (h1 : T 0 3 ≤ nI (advI T)) (h2 : T 0 3 < T 0 2) : GP (advF T) (nI (advI T)) (T 0 3) (nI 1) d e w := by
  have e1 : advF T = u2 (u2 (u2 (u2 (u2 T 0 7 (nI 0)) 0 8 (-1)) 0 5 (nI 1)) 0 6 (T 0 3)) 0 4 (nI (advI T)) := if_pos ⟨h1, h2⟩
  have k5 : advF T 0 5 = nI 1 := by rw [e1]; simp (disch := omega) only [u2_at, upd_at, upd_ne]
  refine ⟨by rw [e1]; simp (disch := omega) only [u2_at, upd_at, upd_ne], by rw [e1]; simp (disch := omega) only [u2_at, upd_at, upd_ne], ?_, ?_, ?_, ?_⟩
  · rw [k5, if_neg (fun z => absurd z.1 (by decide))]
  · intro z; rw [k5] at z; exact absurd z (by decide)
  · intro z; rw [k5] at z; exact absurd z (by decide)
  · intro z; rw [k5] at z; exact absurd z (by decide)
theorem GP_end {T : Bk} {d e : Int32} {w : Int64} {L : Nat} (h1 : ¬ (T 0 3 ≤ nI (advI T) ∧ T 0 3 < T 0 2)) (h2 : T 0 2 = nI L) (hL : L ≤ 940) (h3 : advI T = L) : GP (advF T) (nI L) (nI L) (nI 0) d e w := by
  have e1 : advF T = u2 (u2 (u2 (u2 (u2 T 0 7 (nI 0)) 0 8 (-1)) 0 6 (nI (advI T))) 0 5 (nI 0)) 0 4 (T 0 2) := by
    unfold advF
    rw [if_neg h1, if_pos (by rw [h2, cl_nI (by omega)]; omega)]
  have k5 : advF T 0 5 = nI 0 := by rw [e1]; simp (disch := omega) only [u2_at, upd_at, upd_ne]
  refine ⟨by rw [e1]; simp (disch := omega) only [u2_at, upd_at, upd_ne]; exact h2.symm, by rw [e1]; simp (disch := omega) only [u2_at, upd_at, upd_ne]; rw [h3], ?_, ?_, ?_, ?_⟩
  · rw [k5, if_neg (fun z => absurd z.1 (by decide))]
  · intro z; rw [k5] at z; exact absurd z (by decide)
  · intro z; rw [k5] at z; exact absurd z (by decide)
  · intro z; rw [k5] at z; exact absurd z (by decide)
theorem adv_tok {T : Bk} {L : Nat} (h1 : ¬ (T 0 3 ≤ nI (advI T) ∧ T 0 3 < T 0 2)) (h2 : T 0 2 = nI L) (hL : L ≤ 940) (h3 : advI T < L) : ∀ j, j ≠ 8 → advF T 0 j = tok1 (u2 (u2 (u2 T 0 7 (nI 0)) 0 8 (-1)) 0 6 (nI (advI T))) (advI T) (rtF (T 1) (L - advI T) (advI T, 0, 0, nI 0, nI 0)) 0 j := by
  intro j hj
  have e1 : advF T = tokF L (advI T) (u2 (u2 (u2 T 0 7 (nI 0)) 0 8 (-1)) 0 6 (nI (advI T))) := by
    unfold advF
    rw [if_neg h1, h2, cl_nI (by omega), if_neg (by omega)]
  have e2 : (u2 (u2 (u2 T 0 7 (nI 0)) 0 8 (-1)) 0 6 (nI (advI T))) 1 = T 1 := by rw [u2_row (by decide), u2_row (by decide), u2_row (by decide)]
  rw [e1]
  unfold tokF kwsF
  rw [e2]
  generalize tok1 (u2 (u2 (u2 T 0 7 (nI 0)) 0 8 (-1)) 0 6 (nI (advI T))) (advI T) (rtF (T 1) (L - advI T) (advI T, 0, 0, nI 0, nI 0)) = T1
  by_cases hc : T1 0 5 = nI 2
  · rw [if_pos hc, kwF_at hj]
  · rw [if_neg hc]
theorem GP_sign {T : Bk} {d : Int32} {w : Int64} {L : Nat} (h1 : ¬ (T 0 3 ≤ nI (advI T) ∧ T 0 3 < T 0 2)) (h2 : T 0 2 = nI L) (hL : L ≤ 940) (h3 : advI T < L) (ha : ¬ alnum (T 1 (advI T))) : GP (advF T) (nI (advI T + 1)) (nI (advI T)) (if isSg (T 1 (advI T)) then nI 4 else nI 1) d (T 1 (advI T)) w := by
  have e := adv_tok h1 h2 hL h3
  have eS : rtF (T 1) (L - advI T) (advI T, 0, 0, nI 0, nI 0) = (advI T, 0, 0, nI 0, nI 0) := by
    rw [show L - advI T = (L - advI T - 1) + 1 by omega]
    exact if_neg ha
  rw [eS] at e
  have et : tok1 (u2 (u2 (u2 T 0 7 (nI 0)) 0 8 (-1)) 0 6 (nI (advI T))) (advI T) (advI T, 0, 0, nI 0, nI 0) = u2 (u2 (u2 (u2 (u2 (u2 (u2 (u2 T 0 7 (nI 0)) 0 8 (-1)) 0 6 (nI (advI T))) 0 5 (nI 1)) 0 4 (nI (advI T))) 0 5 (nI 4)) 0 7 (T 1 (advI T))) 0 4 (nI (advI T + 1)) := by
    unfold tok1
    dsimp only
    rw [if_pos (show 0 + 0 = 0 from rfl), u2_row (show (1 : Nat) ≠ 0 by decide), u2_row (show (1 : Nat) ≠ 0 by decide), u2_row (show (1 : Nat) ≠ 0 by decide)]
  rw [et] at e
  have k4 : advF T 0 4 = nI (advI T + 1) := by rw [e 4 (by decide)]; simp (disch := omega) only [u2_at, upd_at, upd_ne]
  have k5 : advF T 0 5 = nI 4 := by rw [e 5 (by decide)]; simp (disch := omega) only [u2_at, upd_at, upd_ne]
  have k6 : advF T 0 6 = nI (advI T) := by rw [e 6 (by decide)]; simp (disch := omega) only [u2_at, upd_at, upd_ne]
  have k7 : advF T 0 7 = T 1 (advI T) := by rw [e 7 (by decide)]; simp (disch := omega) only [u2_at, upd_at, upd_ne]
  refine ⟨k4.symm, k6.symm, ?_, ?_, ?_, fun _ => k7.symm⟩
  · rw [k5, k7]
    by_cases hs : isSg (T 1 (advI T))
    · rw [if_pos hs, if_neg (fun z => z.2 hs)]
    · rw [if_neg hs, if_pos ⟨rfl, hs⟩]
  · intro z; rw [k5] at z; exact absurd z (by decide)
  · intro z; rw [k5] at z; exact absurd z (by decide)
theorem GP_word {T : Bk} {e0 num good : Int32} {w : Int64} {L : Nat} (h1 : ¬ (T 0 3 ≤ nI (advI T) ∧ T 0 3 < T 0 2)) (h2 : T 0 2 = nI L) (hL : L ≤ 940) (h3 : advI T < L) (hs : SI (advI T) (T 1) (rtF (T 1) (L - advI T) (advI T, 0, 0, nI 0, nI 0)) w num good) (hI : advI T < (rtF (T 1) (L - advI T) (advI T, 0, 0, nI 0, nI 0)).1) : GP (advF T) (nI (rtF (T 1) (L - advI T) (advI T, 0, 0, nI 0, nI 0)).1) (nI (advI T)) (if good = 0 then nI 1 else if isLt (T 1 (advI T)) then (if 6 < (rtF (T 1) (L - advI T) (advI T, 0, 0, nI 0, nI 0)).1 - advI T then nI 1 else nI 2) else (if 3 < (rtF (T 1) (L - advI T) (advI T, 0, 0, nI 0, nI 0)).1 - advI T then nI 1 else nI 3)) num e0 w := by
  have e := adv_tok h1 h2 hL h3
  generalize rtF (T 1) (L - advI T) (advI T, 0, 0, nI 0, nI 0) = S at e hs hI ⊢
  obtain ⟨s1, s2, s3, s4, s5, s6⟩ := hs
  have k6 : advF T 0 6 = nI (advI T) := by rw [e 6 (by decide), tok1_at (by decide) (by decide) (by decide), u2_at, upd_at]
  have nz : ¬ S.2.1 + S.2.2.1 = 0 := by omega
  by_cases hw : S.2.2.1 = 0 ∧ S.2.1 ≤ 6
  · have et : tok1 (u2 (u2 (u2 T 0 7 (nI 0)) 0 8 (-1)) 0 6 (nI (advI T))) (advI T) S = u2 (u2 (u2 (u2 (u2 (u2 (u2 T 0 7 (nI 0)) 0 8 (-1)) 0 6 (nI (advI T))) 0 5 (nI 1)) 0 4 (nI S.1)) 0 5 (nI 2)) 0 7 S.2.2.2.1 := by
      unfold tok1
      rw [if_neg nz, if_pos hw]
    rw [et] at e
    have k4 : advF T 0 4 = nI S.1 := by rw [e 4 (by decide)]; simp (disch := omega) only [u2_at, upd_at, upd_ne]
    have k5 : advF T 0 5 = nI 2 := by rw [e 5 (by decide)]; simp (disch := omega) only [u2_at, upd_at, upd_ne]
    have k7 : advF T 0 7 = S.2.2.2.1 := by rw [e 7 (by decide)]; simp (disch := omega) only [u2_at, upd_at, upd_ne]
    have lt : isLt (T 1 (advI T)) := Classical.byContradiction fun hn => by have := s6 hI hn; omega
    have hg : ¬ good = 0 := by rw [s2, bI_t (Or.inl ⟨lt, hw.1⟩)]; decide
    refine ⟨k4.symm, k6.symm, ?_, ?_, fun _ => ?_, ?_⟩
    · rw [if_neg hg, if_pos lt, if_neg (by omega), k5, if_neg (fun z => absurd z.1 (by decide))]
    · intro z; rw [k5] at z; exact absurd z (by decide)
    · obtain ⟨n, n1, n2, n3⟩ := s3 hw.1 hw.2
      exact ⟨n, ⟨S.2.1, by omega, hw.2, n1⟩, k7.trans n2, n3⟩
    · intro z; rw [k5] at z; exact absurd z (by decide)
  · by_cases hd : S.2.1 = 0 ∧ S.2.2.1 ≤ 3
    · have et : tok1 (u2 (u2 (u2 T 0 7 (nI 0)) 0 8 (-1)) 0 6 (nI (advI T))) (advI T) S = u2 (u2 (u2 (u2 (u2 (u2 (u2 T 0 7 (nI 0)) 0 8 (-1)) 0 6 (nI (advI T))) 0 5 (nI 1)) 0 4 (nI S.1)) 0 5 (nI 3)) 0 7 S.2.2.2.2 := by
        unfold tok1
        rw [if_neg nz, if_neg hw, if_pos hd]
      rw [et] at e
      have k4 : advF T 0 4 = nI S.1 := by rw [e 4 (by decide)]; simp (disch := omega) only [u2_at, upd_at, upd_ne]
      have k5 : advF T 0 5 = nI 3 := by rw [e 5 (by decide)]; simp (disch := omega) only [u2_at, upd_at, upd_ne]
      have k7 : advF T 0 7 = S.2.2.2.2 := by rw [e 7 (by decide)]; simp (disch := omega) only [u2_at, upd_at, upd_ne]
      have lt : ¬ isLt (T 1 (advI T)) := fun hn => by have := s5 hI hn; omega
      have hg : ¬ good = 0 := by rw [s2, bI_t (Or.inr ⟨lt, hd.1⟩)]; decide
      refine ⟨k4.symm, k6.symm, ?_, fun _ => ?_, ?_, ?_⟩
      · rw [if_neg hg, if_neg lt, if_neg (by omega), k5, if_neg (fun z => absurd z.1 (by decide))]
      · rw [k7]; exact s4 hd.1 hd.2
      · intro z; rw [k5] at z; exact absurd z (by decide)
      · intro z; rw [k5] at z; exact absurd z (by decide)
    · have et : tok1 (u2 (u2 (u2 T 0 7 (nI 0)) 0 8 (-1)) 0 6 (nI (advI T))) (advI T) S = u2 (u2 (u2 (u2 (u2 T 0 7 (nI 0)) 0 8 (-1)) 0 6 (nI (advI T))) 0 5 (nI 1)) 0 4 (nI S.1) := by
        unfold tok1
        rw [if_neg nz, if_neg hw, if_neg hd]
      rw [et] at e
      have k4 : advF T 0 4 = nI S.1 := by rw [e 4 (by decide)]; simp (disch := omega) only [u2_at, upd_at, upd_ne]
      have k5 : advF T 0 5 = nI 1 := by rw [e 5 (by decide)]; simp (disch := omega) only [u2_at, upd_at, upd_ne]
      refine ⟨k4.symm, k6.symm, ?_, ?_, ?_, ?_⟩
      · rw [k5, if_neg (show ¬ ((nI 1 : Int32) = nI 4 ∧ ¬ isSg (advF T 0 7)) from fun z => absurd z.1 (by decide))]
        by_cases hg : good = 0
        · rw [if_pos hg]
        · rw [if_neg hg]
          rw [s2, bI_0] at hg
          have hg2 := Classical.not_not.mp hg
          by_cases lt : isLt (T 1 (advI T))
          · rw [if_pos lt]
            have h0 : S.2.2.1 = 0 := hg2.elim (fun q => q.2) (fun q => absurd lt q.1)
            rw [if_pos (by omega)]
          · rw [if_neg lt]
            have h0 : S.2.1 = 0 := hg2.elim (fun q => absurd q.1 lt) (fun q => q.2)
            rw [if_pos (by omega)]
      · intro z; rw [k5] at z; exact absurd z (by decide)
      · intro z; rw [k5] at z; exact absurd z (by decide)
      · intro z; rw [k5] at z; exact absurd z (by decide)
section MGr
variable {X : mC} {h m : Nat} {K : MV → Mem → Prop} {μ : Mem} {Q T : Bk}
theorem c_tapeAt {i L : Nat} (hi : i ≤ L) (hL : L ≤ 940) (h3 : μ.1 m 3 = nI L) (hK : K (.inl (if i < L then μ.1 (m + 1) i else nI 0)) μ) : mMet X (h + 1) m_X9_tapeAt [.inr (.inr (8, 0, m)), .inl (nI i)] μ K := by
  (refine vc_met2 P0_ok ok_X9_tapeAt cm_X9_tapeAt [] 6 t_X9_tapeAt_0 (Nat.le_of_ble_eq_true rfl) ?_; simp only [mArg_nil, mArg_I, mArg_L, mArg_A, Nat.reduceAdd])
  by_cases hc : i < L
  · rw [if_pos hc] at hK
    simp only [↓w_X9_tapeAt_0, ↓w_X9_tapeAt_17, ↓w_X9_tapeAt_18, ↓v_X9_tapeAt_17, ↓v_X9_tapeAt_18, ↓b_aload_n, ↓b_getA, ↓b_getI, ↓b_goto, ↓b_iaload, ↓b_ic_ge, ↓b_iconst, ↓b_iload_n, ↓b_iret, ↓ldI_hit, ↓ldI_skip, ↓ldL_hit, ↓ldL_skip, ↓ldA_hit, ↓ldA_skip, ↓ldelK_nil, ↓ldelK_hit, ↓ldelK_skipI, ↓ldelK_skipA, ↓ldelK_skipL, lget_hit, lget_skip, ldel_nil, ldel_hit, ldel_skipI, ldel_skipA, ldel_skipL, ldel2_nil, ldel2_hit, ldel2_hit2, ldel2_skipI, ldel2_skipA, ldel2_skipL, vc_0, mCall_P0, mCat_nil, mCat_I, mCat_L, mCat_A, mRcv_A, mArg_nil, mArg_I, mArg_L, mArg_A, tsg, swt_nil, swt_cons, lkw_nil, lkw_cons, ↓reduceIte, Nat.reduceAdd, Nat.reduceEqDiff, Nat.reduceLeDiff, Nat.reduceMul, true_and, and_true, and_self, List.mem_cons, List.not_mem_nil, or_false, or_self, false_or, true_implies, false_implies, not_true_eq_false, not_false_eq_true, nI00, nI10, nI01, nI11, forall_const, implies_true]
    simp (disch := omega) only [ixq, ixz, sb_in, sb_in0, upI_sb, upI_sb0, sb_out, nI_add, nI_mul, nI_subq, Nat.zero_add, forall_eq, u2_at, u2_row, upd_at, upd_ne, nI0b, nI1b, nI00, nI10, nI01, nI11, true_implies, false_implies, not_true_eq_false, not_false_eq_true, and_true, true_and, implies_true, h3, nI_lq]
    exact ⟨fun hz => absurd hz (by omega), fun _ => hK⟩
  · rw [if_neg hc] at hK
    simp only [↓w_X9_tapeAt_0, ↓w_X9_tapeAt_17, ↓w_X9_tapeAt_18, ↓v_X9_tapeAt_17, ↓v_X9_tapeAt_18, ↓b_aload_n, ↓b_getA, ↓b_getI, ↓b_goto, ↓b_iaload, ↓b_ic_ge, ↓b_iconst, ↓b_iload_n, ↓b_iret, ↓ldI_hit, ↓ldI_skip, ↓ldL_hit, ↓ldL_skip, ↓ldA_hit, ↓ldA_skip, ↓ldelK_nil, ↓ldelK_hit, ↓ldelK_skipI, ↓ldelK_skipA, ↓ldelK_skipL, lget_hit, lget_skip, ldel_nil, ldel_hit, ldel_skipI, ldel_skipA, ldel_skipL, ldel2_nil, ldel2_hit, ldel2_hit2, ldel2_skipI, ldel2_skipA, ldel2_skipL, vc_0, mCall_P0, mCat_nil, mCat_I, mCat_L, mCat_A, mRcv_A, mArg_nil, mArg_I, mArg_L, mArg_A, tsg, swt_nil, swt_cons, lkw_nil, lkw_cons, ↓reduceIte, Nat.reduceAdd, Nat.reduceEqDiff, Nat.reduceLeDiff, Nat.reduceMul, true_and, and_true, and_self, List.mem_cons, List.not_mem_nil, or_false, or_self, false_or, true_implies, false_implies, not_true_eq_false, not_false_eq_true, nI00, nI10, nI01, nI11, forall_const, implies_true]
    rw [h3, nI_lq (by omega) (by omega)]
    exact ⟨fun _ => hK, fun hz => absurd hz (by omega)⟩
end MGr
