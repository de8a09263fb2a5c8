/-! what holds at the law's entry -/
abbrev nrw : Cond := Jvm.Cond.and given_1 narrow_1
abbrev tmK : Term := .string RX6 20
abbrev tmV : Term := .field tmK "java/lang/String" "value" "[B"
abbrev tmF : Term := .static "WasteBrook" "FACTORIALS" "[I"
theorem kw_words : ∀ j, j < 114 → Cond.eq (.elem tmV (.int (Int32.ofNat j))) (.int (kwB.getD j 0)) ∈ flatC nrw := by decide +kernel
theorem fc_words : ∀ j, j < 9 → Cond.eq (.elem tmF (.int (Int32.ofNat j))) (.int (mFac j)) ∈ flatC nrw := by decide +kernel
theorem vw_inst : ∀ (k : Nat) (r : vw_C), vwCl[k]? = some r → Cond.instantiable r.1 r.2.2 ∈ mTb := by
  intro c r h
  match c, h with
  | 0, h => cases h; decide +kernel
  | 1, h => cases h; decide +kernel
  | 2, h => cases h; decide +kernel
  | 3, h => cases h; decide +kernel
  | 4, h => cases h; decide +kernel
  | 5, h => cases h; decide +kernel
  | 6, h => cases h; decide +kernel
  | 7, h => cases h; decide +kernel
  | 8, h => cases h; decide +kernel
  | k + 9, h => simp [vwCl] at h
section MSt
variable {s : State} {b : Nat}
theorem lAA_lt : ∀ a : Nat, a < s.heap.size → ¬ lAA s a := fun a h z => Nat.not_le_of_lt h z
theorem st_D (hts : ∀ w ∈ mTb, w.before #[Value.ref b] s = true) : ∃ D : va_G, ∀ (k : Nat) (r : vw_C), vwCl[k]? = some r → u_Kn s r.1 r.2.1 r.2.2 (D.1 k) (D.2 k) := by
  have h : ∀ k : Nat, ∃ q : ClassId × (Nat → Nat), ∀ r : vw_C, vwCl[k]? = some r → u_Kn s r.1 r.2.1 r.2.2 q.1 q.2 := by
    intro k
    cases hk : vwCl[k]? with
    | none => exact ⟨(0, fun _ => 0), fun r hr => by cases hr⟩
    | some r =>
      obtain ⟨cC, iS, h⟩ := u_known hts (vwCl_ok k r hk).1 (hts _ (vw_inst k r hk))
      exact ⟨(cC, iS), fun r' hr => by cases hr; exact h⟩
  exact ⟨(fun k => (Classical.choose (h k)).1, fun k => (Classical.choose (h k)).2), fun k r hk => Classical.choose_spec (h k) r hk⟩
theorem st_K (hts : ∀ w ∈ mTb, w.before #[Value.ref b] s = true) (hao : va_AO "WasteBrook$Image" s) : ∃ (D : va_G) (cA : Nat → ClassId), va_K D vwCl [(cA 0, .int), (cA 1, .long), (cA 2, .boolean), (cA 3, .object "WasteBrook$Image")] s := by
  obtain ⟨D, hD⟩ := st_D hts
  obtain ⟨c0, k0, p0, a0, b0, d0⟩ := Cond.arrayClass_spec (hts _ ar_words.1)
  obtain ⟨c1, k1, p1, a1, b1, d1⟩ := Cond.arrayClass_spec (hts _ ar_words.2.1)
  obtain ⟨c2, k2, p2, a2, b2, d2⟩ := Cond.arrayClass_spec (hts _ ar_words.2.2)
  obtain ⟨p3, c3, k3, e3, f3, b3, d3, a3⟩ := Cond.arrayOver_spec hao
  refine ⟨D, fun k => if k = 0 then c0 else if k = 1 then c1 else if k = 2 then c2 else c3, hD, fun k q hk => ?_⟩
  match k, hk with
  | 0, hk => cases hk; exact ⟨fun n z => ⟨fun k h => (by cases h), k0, b0, p0, d0⟩, a0⟩
  | 1, hk => cases hk; exact ⟨fun n z => ⟨fun k h => (by cases h), k1, b1, p1, d1⟩, a1⟩
  | 2, hk => cases hk; exact ⟨fun n z => ⟨fun k h => (by cases h), k2, b2, p2, d2⟩, a2⟩
  | 3, hk => cases hk; exact ⟨fun n z => ⟨fun k h => (by cases h), k3, b3, p3, d3⟩, k3, p3, b3, d3, e3, a3⟩
  | k + 4, hk => simp at hk
theorem fcw : Cond.laysStatic "WasteBrook" "FACTORIALS" "[I" ∈ lw_tbl ∧ Cond.initialized "WasteBrook" ∈ lw_tbl ∧ Cond.arrayOf tmF .int ∈ flatC nrw ∧ Cond.eq (.length tmF) (.int (Int32.ofNat 9)) ∈ flatC nrw := by decide +kernel
theorem st_F (hts : ∀ w ∈ lw_tbl, w.before #[Value.ref b] s = true) (hs : ∀ w ∈ flatC nrw, w.before #[Value.ref b] s = true) : ∃ t : Nat, va_Z "WasteBrook" "FACTORIALS" "[I" (.ref t) (lAA s) s s.heap ∧ va_T .int t 9 (fun j => .int (mFac j)) (lAA s) s s.heap := by
  obtain ⟨t, ht, hT⟩ := va_Tof (args := #[Value.ref b]) (s := s) (tm := tmF) (ty := .int) (N := 9) (f := fun j => .int (mFac j)) (A := lAA s) (by decide) (hs _ fcw.2.2.1) (va_eqt (hs _ fcw.2.2.2)) (fun j hj => va_eqt (hs _ (fc_words j hj))) lAA_lt
  exact ⟨t, va_Zof (hts _ fcw.1) (hts _ fcw.2.1) ht lAA_lt, hT⟩
theorem sxw : Cond.exactly tmK "java/lang/String" ∈ flatC nrw ∧ Cond.arrayOf tmV .byte ∈ flatC nrw ∧ Cond.eq (.length tmV) (.int (Int32.ofNat 114)) ∈ flatC nrw ∧ Cond.eq (.field tmK "java/lang/String" "coder" "B") (.int 0) ∈ flatC nrw ∧ Cond.eq (.static "java/lang/String" "COMPACT_STRINGS" "Z") (.int 1) ∈ flatC nrw ∧ Cond.isRef (.static "jdk/internal/util/Preconditions" "SIOOBE_FORMATTER" "Ljava/util/function/BiFunction;") ∈ flatC nrw := by decide +kernel
theorem sxt : Cond.laysStatic "java/lang/String" "COMPACT_STRINGS" "Z" ∈ lw_tbl ∧ Cond.initialized "java/lang/String" ∈ lw_tbl ∧ Cond.laysStatic "jdk/internal/util/Preconditions" "SIOOBE_FORMATTER" "Ljava/util/function/BiFunction;" ∈ lw_tbl ∧ Cond.initialized "jdk/internal/util/Preconditions" ∈ lw_tbl ∧ Cond.stringRef RX6 20 kwTx ∈ lw_tbl ∧ Cond.arrayOver (.object "WasteBrook$Image") ∈ lw_tbl := by decide +kernel
theorem st_S (hts : ∀ w ∈ lw_tbl, w.before #[Value.ref b] s = true) (hs : ∀ w ∈ flatC nrw, w.before #[Value.ref b] s = true) : ∃ ak av : Nat, mSx ak av (lAA s) s s.heap := by
  obtain ⟨a, c, cA, kA, q1, q2, q3, q4, q5, q6, -⟩ := Cond.exactly_spec (args := #[Value.ref b]) (first := s) (o := none) (s := s) (idx := []) (t := tmK) (cls := "java/lang/String") (hs _ sxw.1)
  obtain ⟨t, ht, hT⟩ := va_Tof (args := #[Value.ref b]) (s := s) (tm := tmV) (ty := .byte) (N := 114) (f := fun j => .int (kwB.getD j 0)) (A := lAA s) (by decide) (hs _ sxw.2.1) (va_eqt (hs _ sxw.2.2.1)) (fun j hj => va_eqt (hs _ (kw_words j hj))) lAA_lt
  exact ⟨a, t, va_Zof (hts _ sxt.1) (hts _ sxt.2.1) (va_eqi (hs _ sxw.2.2.2.2.1)) lAA_lt, ⟨cA, q3, q5, by rw [q6]; exact q2, lAA_lt a (Array.getElem?_eq_some_iff.mp q3).1⟩, vk_OFof q1 (va_eqt (hs _ sxw.2.2.2.1)) lAA_lt, vk_OFof q1 ht lAA_lt, hT, va_Zqof (hts _ sxt.2.2.1) (hts _ sxt.2.2.2.1) (hs _ sxw.2.2.2.2.2) lAA_lt, vk_R.of (hts _ sxt.2.2.2.2.1) q1⟩
theorem thw : Cond.exactly (.string RX8 136) "java/lang/String" ∈ flatC nrw ∧ Cond.exactly (.string RX8 303) "java/lang/String" ∈ flatC nrw ∧ Cond.isRef (.static Bundle.tN "UNASSIGNED_STACK" Bundle.steD) ∈ flatC nrw ∧ Cond.isRef (.static Bundle.tN "SUPPRESSED_SENTINEL" Bundle.listD) ∈ flatC nrw := by decide +kernel
theorem tht : (Cond.castable nsE nsE ∈ lw_tbl ∧ Cond.declares (Bundle.initS "java/lang/RuntimeException") ∈ lw_tbl ∧ Cond.declares (Bundle.initS "java/lang/Exception") ∈ lw_tbl ∧ Cond.declares (Bundle.initS Bundle.tN) ∈ lw_tbl) ∧ Cond.laysStatic Bundle.tN "UNASSIGNED_STACK" Bundle.steD ∈ lw_tbl ∧ Cond.laysStatic Bundle.tN "SUPPRESSED_SENTINEL" Bundle.listD ∈ lw_tbl ∧ Cond.initialized Bundle.tN ∈ lw_tbl ∧ Cond.stringRef RX8 136 tx1 ∈ lw_tbl ∧ Cond.stringRef RX8 303 tx2 ∈ lw_tbl := by decide +kernel
theorem st_T (hts : ∀ w ∈ lw_tbl, w.before #[Value.ref b] s = true) (hs : ∀ w ∈ flatC nrw, w.before #[Value.ref b] s = true) : ∃ sa sc : Nat, mTh sa sc (lAA s) s s.heap := by
  obtain ⟨a1, -, -, -, q1, -⟩ := Cond.exactly_spec (args := #[Value.ref b]) (first := s) (o := none) (s := s) (idx := []) (t := .string RX8 136) (cls := "java/lang/String") (hs _ thw.1)
  obtain ⟨a2, -, -, -, q2, -⟩ := Cond.exactly_spec (args := #[Value.ref b]) (first := s) (o := none) (s := s) (idx := []) (t := .string RX8 303) (cls := "java/lang/String") (hs _ thw.2.1)
  exact ⟨a1, a2, ⟨va_Nw.of rfl (hts _ tht.1.1), va_Nw.of rfl (hts _ tht.1.2.1), va_Nw.of rfl (hts _ tht.1.2.2.1), va_Nw.of rfl (hts _ tht.1.2.2.2)⟩, vx_Zqof (hts _ tht.2.1) (hts _ tht.2.2.2.1) (hs _ thw.2.2.1) lAA_lt, vx_Zqof (hts _ tht.2.2.1) (hts _ tht.2.2.2.1) (hs _ thw.2.2.2) lAA_lt, vk_R.of (hts _ tht.2.2.2.2.1) q1, vk_R.of (hts _ tht.2.2.2.2.2) q2⟩
end MSt
