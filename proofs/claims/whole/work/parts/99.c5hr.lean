/-! HOURS of a trial RUN, on both sides -/
section MP9
variable {G W : Nat} {B R : Bk} {free : Int32}
def k89 (A R : Bk) : Prop := A 0 = R 0 ∧ A 8 = R 8 ∧ A 9 = R 9
theorem k89_r : k89 R R := ⟨rfl, rfl, rfl⟩
theorem k89_t {A C : Bk} (h : k89 A R) (h2 : k89 C A) : k89 C R := ⟨h2.1.trans h.1, h2.2.1.trans h.2.1, h2.2.2.trans h.2.2⟩
theorem k89_k {A : Bk} (h : KR G A R) : k89 A R := ⟨h.1, h.2.1, h.2.2.1⟩
theorem k89_i {A C : Bk} {c : Prop} [Decidable c] (h1 : k89 A R) (h2 : k89 C R) : k89 (if c then A else C) R := by
  by_cases h : c
  · rw [if_pos h]; exact h1
  · rw [if_neg h]; exact h2
theorem goF_89 {w : Nat} : goF G B w R 0 = R 0 ∧ goF G B w R 8 = upd (R 8) w (R 8 w + nI 1) ∧ goF G B w R 9 = upd (R 9) w (R 0 0) := by
  have h1 := fo_inv (P := fun _ (p : Bk × Int32) => k89 p.1 R) (fa := useF B w) (a := (R, nI 0)) G k89_r (fun i p hi hp => k89_t hp (k89_k (use_kr (G := G) (B := B) (w := w) (g := i) (p := p))))
  have h2 := fo_inv (P := fun _ (p : Bk) => k89 p R) (fa := giveF B w (fo G (useF B w) (R, nI 0)).2) (a := u2 (fo G (useF B w) (R, nI 0)).1 10 w ((fo G (useF B w) (R, nI 0)).1 10 w ||| (fo G (useF B w) (R, nI 0)).2)) G ⟨by rw [u2_row (by decide)]; exact h1.1, by rw [u2_row (by decide)]; exact h1.2.1, by rw [u2_row (by decide)]; exact h1.2.2⟩ (fun i p hi hp => k89_t hp (k89_k (give_kr hi)))
  unfold goF
  generalize fo G (giveF B w (fo G (useF B w) (R, nI 0)).2) (u2 (fo G (useF B w) (R, nI 0)).1 10 w ((fo G (useF B w) (R, nI 0)).1 10 w ||| (fo G (useF B w) (R, nI 0)).2)) = A at h2 ⊢
  obtain ⟨a0, a8, a9⟩ := h2
  refine ⟨?_, ?_, ?_⟩
  · rw [u2_row (by decide), u2_row (by decide)]; exact a0
  · rw [u2_row (by decide), u2_at, a8]
  · rw [u2_at, u2_row (by decide), a9, a0]
def go89 (A R : Bk) (w : Nat) : Prop := A 0 = R 0 ∧ ∃ c : Prop, (c → A 8 = upd (R 8) w (R 8 w + nI 1) ∧ A 9 = upd (R 9) w (R 0 0)) ∧ (¬ c → A 8 = R 8 ∧ A 9 = R 9)
theorem workF_89 {w : Nat} {hod : Int32} : go89 (workF G W B free hod w R) R w := by
  unfold workF
  dsimp only
  have c := fo_inv (P := fun _ (p : Bk) => k89 p R) (fa := comeF B w) (a := R) G k89_r (fun i p hi hp => k89_t hp (k89_k (fill_kr hi)))
  generalize fo G (comeF B w) R = C at c ⊢
  have s := fo_inv (P := fun _ (p : Bk × Int32) => k89 p.1 R) (fa := hasF B w) (a := (C, nI 1)) G c (fun i p hi hp => k89_t hp (k89_k (has_kr (G := G) (B := B) (w := w) (g := i) (p := p))))
  generalize fo G (hasF B w) (C, nI 1) = p at s ⊢
  have lo : ∀ A : Bk, go89 A R w → go89 (if w + 1 < W then fo G (loseF B) A else A) R w := fun A hA => by
    have l := fo_inv (P := fun _ (p : Bk) => k89 p A) (fa := loseF B) (a := A) G k89_r (fun i p hi hp => k89_t hp (k89_k (lose_kr hi)))
    have z : k89 (if w + 1 < W then fo G (loseF B) A else A) A := k89_i l k89_r
    obtain ⟨h0, c, h1, h2⟩ := hA
    exact ⟨z.1.trans h0, c, fun hc => ⟨z.2.1.trans (h1 hc).1, z.2.2.trans (h1 hc).2⟩, fun hc => ⟨z.2.1.trans (h2 hc).1, z.2.2.trans (h2 hc).2⟩⟩
  refine lo _ ?_
  have st : ∀ A : Bk, k89 A R → go89 A R w := fun A hA => ⟨hA.1, False, fun z => z.elim, fun _ => hA.2⟩
  by_cases h1 : B 4 w ≤ hod ∧ hod ≤ B 5 w ∧ free >>> (nI w &&& 31) &&& nI 1 = nI 1
  · rw [if_pos h1]
    by_cases h2 : p.2 = 0
    · rw [if_pos h2]; exact st _ s
    · rw [if_neg h2]
      have g := goF_89 (G := G) (B := B) (w := w) (R := p.1)
      exact ⟨g.1.trans s.1, True, fun _ => ⟨by rw [g.2.1, s.2.1], by rw [g.2.2, s.2.2, s.1]⟩, fun z => absurd trivial z⟩
  · rw [if_neg h1]; exact st _ c
/-- a WORK goes in an HOUR, or not -/
theorem pass_89 : ∀ w, (passF G W B free R 8 w = R 8 w ∧ passF G W B free R 9 w = R 9 w) ∨ (passF G W B free R 8 w = R 8 w + nI 1 ∧ passF G W B free R 9 w = R 0 0) := by
  unfold passF
  have l : k89 (if B 0 3 = 0 then R else fo G (loseF B) R) R := k89_i k89_r (fo_inv (P := fun _ (p : Bk) => k89 p R) (fa := loseF B) (a := R) G k89_r (fun i p hi hp => k89_t hp (k89_k (lose_kr hi))))
  generalize (if B 0 3 = 0 then R else fo G (loseF B) R) = A at l ⊢
  have w1 := fo_inv (P := fun i (p : Bk) => p 0 = R 0 ∧ ∀ w, (w < i → (p 8 w = R 8 w ∧ p 9 w = R 9 w) ∨ (p 8 w = R 8 w + nI 1 ∧ p 9 w = R 0 0)) ∧ (i ≤ w → p 8 w = R 8 w ∧ p 9 w = R 9 w)) (fa := workF G W B free (R 0 0 - R 0 0 / nI 12 * nI 12)) (a := A) W ⟨l.1, fun w => ⟨fun z => absurd z (Nat.not_lt_zero w), fun _ => ⟨by rw [l.2.1], by rw [l.2.2]⟩⟩⟩ (fun i p hi hp => by
    obtain ⟨p0, pw⟩ := hp
    obtain ⟨a0, c, c1, c2⟩ := workF_89 (G := G) (W := W) (B := B) (R := p) (free := free) (w := i) (hod := R 0 0 - R 0 0 / nI 12 * nI 12)
    refine ⟨a0.trans p0, fun w => ⟨fun hw => ?_, fun hw => ?_⟩⟩
    · by_cases hx : w = i
      · subst hx
        have q := (pw w).2 (Nat.le_refl w)
        by_cases hc : c
        · refine Or.inr ⟨?_, ?_⟩
          · rw [(c1 hc).1, upd_at, q.1]
          · rw [(c1 hc).2, upd_at, p0]
        · refine Or.inl ⟨?_, ?_⟩
          · rw [(c2 hc).1]; exact q.1
          · rw [(c2 hc).2]; exact q.2
      · have q := (pw w).1 (by omega)
        by_cases hc : c
        · rw [(c1 hc).1, (c1 hc).2, upd_ne hx, upd_ne hx]; exact q
        · rw [(c2 hc).1, (c2 hc).2]; exact q
    · have q := (pw w).2 (by omega)
      by_cases hc : c
      · rw [(c1 hc).1, (c1 hc).2, upd_ne (by omega), upd_ne (by omega)]; exact q
      · rw [(c2 hc).1, (c2 hc).2]; exact q)
  generalize fo W (workF G W B free (R 0 0 - R 0 0 / nI 12 * nI 12)) A = C at w1 ⊢
  have o : k89 (if B 0 3 = 0 then fo G outF C else C) C := k89_i (fo_inv (P := fun _ (p : Bk) => k89 p C) (fa := outF) (a := C) G k89_r (fun i p hi hp => k89_t hp ⟨out_at.2.2.2.2 0 (by decide) (by decide) (by decide) (by decide), out_at.2.2.2.2 8 (by decide) (by decide) (by decide) (by decide), out_at.2.2.2.2 9 (by decide) (by decide) (by decide) (by decide)⟩)) k89_r
  generalize (if B 0 3 = 0 then fo G outF C else C) = D at o ⊢
  intro w
  rw [u2_row (by decide), u2_row (by decide), o.2.1, o.2.2]
  by_cases hw : w < W
  · exact (w1.2 w).1 hw
  · exact Or.inl ((w1.2 w).2 (by omega))
def wlP (R : Bk) (w : Nat) : Prop := 0 < R 8 w ∧ R 9 w = R 0 0 - nI 1
theorem wl_t {w : Nat} (h : wlP R w) : bI (0 < R 8 w ∧ R 9 w = R 0 0 - nI 1) = nI 1 := bI_t (c := 0 < R 8 w ∧ R 9 w = R 0 0 - nI 1) h
theorem wl_f {w : Nat} (h : ¬ wlP R w) : bI (0 < R 8 w ∧ R 9 w = R 0 0 - nI 1) = nI 0 := bI_f (c := 0 < R 8 w ∧ R 9 w = R 0 0 - nI 1) h
/-- it went at some time: before, or now -/
theorem wl_new {V : Bk} {n N w : Nat} (hn : n ≤ 200) (h : HB G W N n B V R) (hw : w < W) : (0 < passF G W B free R 8 w) = (0 < R 8 w ∨ wlP (passF G W B free R) w) := by
  obtain ⟨_, k, k1, k2, _, _, k5⟩ := h.2.2.2.2.2.2.2.2 w hw
  have r0 : R 0 0 = nI n := h.2.2.2.2.1
  have p0 : passF G W B free R 0 0 - nI 1 = nI n := by rw [passF_0, r0, nI_add, nI_subq (by omega), Nat.add_sub_cancel]
  unfold wlP
  rw [p0]
  rcases pass_89 (G := G) (W := W) (B := B) (R := R) (free := free) w with ⟨a, b⟩ | ⟨a, b⟩
  · rw [a, b]
    refine propext ⟨Or.inl, fun z => z.elim id (fun y => ?_)⟩
    exact y.1
  · rw [a, b, k2, r0, nI_add]
    have z : (0 : Int32) < nI (k + 1) := by
      rw [← nI_0, nI_ltq (by omega) (by omega)]; omega
    exact propext ⟨fun _ => Or.inr ⟨z, rfl⟩, fun _ => z⟩
end MP9
section MHr
variable {X : mC} {h x m r : Nat} {μ μ1 : Mem} {K : MV → Mem → Prop} {Q Q0 B P R : Bk} {G W n : Nat} {q : Nat → Int32} {N : Nat → Int64}
theorem sb_same {i n : Nat} (hR : ∀ k, k < n → μ.1 (i + k) = R k) : sb μ i n R = μ := by
  refine Prod.ext (funext fun j => ?_) rfl
  show (if i ≤ j ∧ j < i + n then R (j - i) else μ.1 j) = μ.1 j
  split
  · rename_i hj
    rw [← hR (j - i) (by omega), show i + (j - i) = j by omega]
  · rfl
/-- the class's trial at x + r holds R -/
def tri (x r : Nat) (μ μ1 : Mem) (R : Bk) : Prop := frZ x μ μ1 ∧ ∀ k, k < 12 → μ1.1 (x + r + k) = R k
theorem tri_B (h : frZ x μ μ1) : ∀ k, k < 12 → μ1.1 (x + 4 + k) = bk μ (x + 4) k := fun k hk => by
  rw [Nat.add_assoc, h.2 _ (by omega), ← Nat.add_assoc]; rfl
theorem d_pass {free : Int32} (hr : r = 62 ∨ r = 74) (rb : RBB G W q N (bk μ (x + 4))) (hf : tri x r μ μ1 R) (hK : ∀ μ2, tri x r μ μ2 (passF G W (bk μ (x + 4)) free R) → (∀ i, (i < x + r ∨ x + r + 12 ≤ i) → μ2.1 i = μ1.1 i) → K (.inl 0) μ2) : mMet X (h + 3) m_X4_pass [.inr (.inr (3, 0, x + r)), .inr (.inr (0, 0, x + 4)), .inl free] μ1 K := by
  have e := sb_same hf.2
  have key := c_pass (X := X) (h := h) (r := x + r) (b := x + 4) (K := K) (μ := μ1) (R := R) (free := free) (tri_B hf.1) rb.b0 rb.g6 rb.b1 rb.w8 (by omega) (hK _ ⟨frZ_sb hf.1 (by omega), fun k hk => sb_in hk⟩ (fun i hi => sb_out (by omega)))
  rw [e] at key
  exact key
theorem d_passMany {free : Int32} (hn : n ≤ 300) (hr : r = 62 ∨ r = 74) (rb : RBB G W q N (bk μ (x + 4))) (hf : tri x r μ μ1 R) (hK : ∀ μ2, tri x r μ μ2 (fo n (fun _ => passF G W (bk μ (x + 4)) free) R) → (∀ i, (i < x + r ∨ x + r + 12 ≤ i) → μ2.1 i = μ1.1 i) → K (.inl 0) μ2) : mMet X (h + 4) m_X4_passMany [.inr (.inr (3, 0, x + r)), .inr (.inr (0, 0, x + 4)), .inl free, .inl (nI n)] μ1 K := by
  have e := sb_same hf.2
  have key := c_passMany (X := X) (h := h) (r := x + r) (b := x + 4) (K := K) (μ := μ1) (R := R) (free := free) (n := n) (by omega) (tri_B hf.1) rb.b0 rb.g6 rb.b1 rb.w8 (by omega) (hK _ ⟨frZ_sb hf.1 (by omega), fun k hk => sb_in hk⟩ (fun i hi => sb_out (by omega)))
  rw [e] at key
  exact key
theorem d_start (hr : r = 62 ∨ r = 74) (hf : frZ x μ μ1) (hK : ∀ R μ2, tri x r μ μ2 (startF (bk μ (x + 4)) R) → (∀ i, (i < x + r ∨ x + r + 12 ≤ i) → μ2.1 i = μ1.1 i) → K (.inl 0) μ2) : mMet X (h + 3) m_X4_startAsTold [.inr (.inr (3, 0, x + r)), .inr (.inr (0, 0, x + 4))] μ1 K := by
  refine cls_in (i := x + r) (n := 12) ?_
  exact c_startAsTold (tri_B hf) (by omega) (hK _ _ ⟨frZ_sb hf (by omega), fun k hk => sb_in hk⟩ (fun i hi => sb_out (by omega)))
/-- the reference's trial: n HOURS, as the class's R -/
def TI (G W n : Nat) (q : Nat → Int32) (B Q0 R Q : Bk) : Prop := Q 2 = q ∧ FB G W (Q 10) B ∧ (Q 10 0 = nI G ∧ Q 10 1 = nI W) ∧ (Q 0 27 = nI 0 ∧ Q 0 28 = -1 ∧ Q 0 29 = nI 0) ∧ HB G W (864 * n) n B (vw 11 0 Q) R ∧ frK Q0 Q
theorem HB_vt {N : Nat} {V : Bk} (w8 : W ≤ 8) (g6 : G ≤ 6) (h : HB G W N n B V R) : HB G W N n B (vw 11 0 (rb 11 0 Q V)) R :=
  HB_eq h w8 g6 eqB_r eqR_r (fun k j a b c hk hj => by
    have e := ek_lt a b c hk hj
    show (if k = 5 then rb 11 0 Q V 12 j else if k = 6 then rb 11 0 Q V 13 j else if k = 7 then rb 11 0 Q V 14 j else rb 11 0 Q V 11 (0 + ek k j)) = V k j
    rw [if_neg a, if_neg b, if_neg c, rb_seg e.2.2, e.2.1])
theorem d_startT (hr : RBB G W q N B) (hq : Q 2 = q) (hf : frK Q0 Q) (R : Bk) (hK : ∀ Q2, TI G W 0 q B Q0 (startF B R) Q2 → K (.inl 0) (sb μ m 21 Q2)) : mMet X (h + 1) m_X9_start [.inr (.inr (8, 0, m)), .inr (.inr (16, 296, m + 11)), .inl (nI 0)] (sb μ m 21 (layF Q)) K := by
  subst hq
  have e := rb_self (r := 11) (base := 0) (Q := layF Q) (by decide)
  have hF : FB G W (layF Q 10) B := RBB_FB (RBB_eq hr eqB_r (fun j hj => lay_10 hj) (fun _ _ => rfl))
  have hS := start_rel (V := vw 11 0 (layF Q)) (R := R) hF hr.g6 hr.w8
  have key := c_startR (X := X) (h := h) (m := m) (r := 11) (base := 0) (n := 296) (μ := μ) (Q := layF Q) (V := vw 11 0 (layF Q)) (K := K) (Or.inr rfl) (by omega) (by omega)
  rw [e] at key
  generalize startV (layF Q 10) (vw 11 0 (layF Q)) = S at key hS
  refine key (hK _ ⟨?_, ?_, ⟨?_, ?_⟩, ⟨?_, ?_, ?_⟩, HB_vt hr.w8 hr.g6 hS, ?_⟩)
  · rw [rb_else (by decide) (by decide) (by decide) (by decide), lay_k (by decide) (by decide)]
  · rw [rb_else (by decide) (by decide) (by decide) (by decide)]; exact hF
  · rw [rb_else (by decide) (by decide) (by decide) (by decide), lay_10 (by omega)]; exact hr.q0
  · rw [rb_else (by decide) (by decide) (by decide) (by decide), lay_10 (by omega)]; exact hr.q1
  · rw [rb_else (by decide) (by decide) (by decide) (by decide)]; exact lay_f.1
  · rw [rb_else (by decide) (by decide) (by decide) (by decide)]; exact lay_f.2.1
  · rw [rb_else (by decide) (by decide) (by decide) (by decide)]; exact lay_f.2.2
  · exact frK_t hf (frK_t frK_lay ⟨fun k h0 hk => rb_else (by omega) (by omega) (by omega) (by omega), fun j _ => by rw [rb_else (by decide) (by decide) (by decide) (by decide)]⟩)
theorem d_hourT (hr : RBB G W q N B) (hP : PL G W P q) (hn : n < 2000) (hT : TI G W n q B Q0 R Q) (hK : ∀ Q2, TI G W (n + 1) q B Q0 (passF G W B (nI 1 <<< (nI W &&& 31) - nI 1) R) Q2 → K (.inl 0) (sb μ m 21 Q2)) : mMet X (h + 4) m_X9_hour [.inr (.inr (8, 0, m)), .inr (.inr (16, 296, m + 11)), .inl (nI 0)] (sb μ m 21 Q) K := by
  obtain ⟨t1, t2, ⟨t3, t4⟩, ⟨t5, t6, t7⟩, t8, t9⟩ := hT
  have g6 := hr.g6
  have w8 := hr.w8
  obtain ⟨L, l1, l2, l3⟩ := PL_acts g6 w8 hP
  have v0 : vw 11 0 Q 0 0 = nI n := t8.2.2.2.2.2.1
  have e := rb_self (r := 11) (base := 0) (Q := Q) (by decide)
  have hH := hour_rel (free := nI 1 <<< (nI W &&& 31) - nI 1) t2 (by omega) g6 w8 (by omega) t8
  rw [show 864 * n + 864 = 864 * (n + 1) by omega] at hH
  have key := c_hourR (X := X) (h := h) (m := m) (r := 11) (base := 0) (n := 296) (free := nI 1 <<< (nI W &&& 31) - nI 1) (V := vw 11 0 Q) (V0 := vw 11 0 Q) (μ := μ) (Q := Q) (K := K) (L := L) (Or.inr rfl) (by omega) (by omega) t3 g6 t4 w8 (by rw [t1]; exact l2) l1 (by rw [t1]; exact l3) (fun w hw => by
    rw [v0, t5, t6, t7]
    have z : ¬ stpP (Q 2) (nI 0) L (nI w) (nI n) := stp_no rfl
    have y : ¬ nI n / nI 12 = -1 := by rw [pk_div (by omega) (by decide) (by decide), nI_m1 (by omega)]; exact id
    have b := bit_free (k := 0) w8 hw (by omega)
    exact ⟨fun a => b.mp ⟨a.1, by rw [pk_div (by omega) (by decide) (by decide), nI_m1 (by omega)]; exact id⟩, fun a => ⟨(b.mpr a).1, y, z⟩⟩) (by rw [if_pos (show Q 0 29 = 0 from t7)])
  rw [v0, e] at key
  generalize hourV G W (Q 10) (nI 1 <<< (nI W &&& 31) - nI 1) (nI n) (vw 11 0 Q) = S at key hH
  refine key (hK _ ⟨?_, ?_, ⟨?_, ?_⟩, ⟨?_, ?_, ?_⟩, HB_vt w8 g6 hH, ?_⟩)
  · rw [rb_else (by decide) (by decide) (by decide) (by decide)]; exact t1
  · rw [rb_else (by decide) (by decide) (by decide) (by decide)]; exact t2
  · rw [rb_else (by decide) (by decide) (by decide) (by decide)]; exact t3
  · rw [rb_else (by decide) (by decide) (by decide) (by decide)]; exact t4
  · rw [rb_else (by decide) (by decide) (by decide) (by decide)]; exact t5
  · rw [rb_else (by decide) (by decide) (by decide) (by decide)]; exact t6
  · rw [rb_else (by decide) (by decide) (by decide) (by decide)]; exact t7
  · exact frK_t t9 ⟨fun k h0 hk => rb_else (by omega) (by omega) (by omega) (by omega), fun j _ => by rw [rb_else (by decide) (by decide) (by decide) (by decide)]⟩
/-- the RUN of all, whatever the trial held before -/
theorem can_eq {R' : Bk} {f fr : Nat → Int32} (hF : FB G W f B) (g6 : G ≤ 6) (w8 : W ≤ 8) (hn : n ≤ 2000) : (∀ w, w < W → (wlP (runC G W B fr R n) w ↔ wlP (runC G W B fr R' n) w) ∧ runC G W B fr R n 8 w = runC G W B fr R' n 8 w) ∧ (∀ c, c < 48 → runC G W B fr R n 1 c = runC G W B fr R' n 1 c) ∧ ∀ g, g < 6 → runC G W B fr R n 5 g = runC G W B fr R' n 5 g := by
  have h1 := run_rel (V := fun _ _ => nI 0) (R := R) (fr := fr) hF g6 w8 n hn
  have h2 := run_rel (V := fun _ _ => nI 0) (R := R') (fr := fr) hF g6 w8 n hn
  generalize runV G W f fr n (fun _ _ => nI 0) = V at h1 h2
  refine ⟨fun w hw => ⟨?_, ?_⟩, fun c hc => ?_, fun g hg => ?_⟩
  · obtain ⟨_, _, _, _, _, a, _⟩ := h1.2.2.2.2.2.2.2.2 w hw
    obtain ⟨_, _, _, _, _, b, _⟩ := h2.2.2.2.2.2.2.2.2 w hw
    have ab := a.symm.trans b
    unfold wlP
    constructor
    · intro z
      by_cases y : 0 < runC G W B fr R' n 8 w ∧ runC G W B fr R' n 9 w = runC G W B fr R' n 0 0 - nI 1
      · exact y
      · rw [bI_t z, bI_f y] at ab
        exact absurd ab (by decide)
    · intro z
      by_cases y : 0 < runC G W B fr R n 8 w ∧ runC G W B fr R n 9 w = runC G W B fr R n 0 0 - nI 1
      · exact y
      · rw [bI_f y, bI_t z] at ab
        exact absurd ab (by decide)
  · exact (h1.1 8 w (by omega) (by rw [show szR 6 8 = 8 by decide]; omega)).symm.trans (h2.1 8 w (by omega) (by rw [show szR 6 8 = 8 by decide]; omega))
  · exact (h1.1 1 c (by omega) (by rw [show szR 6 1 = 48 by decide]; omega)).symm.trans (h2.1 1 c (by omega) (by rw [show szR 6 1 = 48 by decide]; omega))
  · by_cases hg2 : g < G
    · exact (h1.2.1 g hg2).1.symm.trans (h2.2.1 g hg2).1
    · rw [(h1.2.2.1 g (by omega) hg).1, (h2.2.2.1 g (by omega) hg).1]
end MHr
