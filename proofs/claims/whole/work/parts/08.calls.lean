section MMC
variable {X : mC} {M h : Nat} {K : MV → Mem → Prop} {q a b : Nat} {ls : List (Nat × MV)} {st : List MV} {μ : Mem}
theorem mTb_good {w : Cond} (h : w ∈ mTb) : (w.onTables && w.keeps) = true ∨ ∃ ty, w = .arrayClass ty := good_of_word (List.mem_filter.mp h).2
/-- what mChkM says -/
theorem mChkM_spec {M : Nat} (h : mChkM M = true) : Cond.code (mY M) (mCd M) (mMx M) (mRt M) ∈ mTb ∧ Cond.initialized (mY M).cls ∈ mTb ∧ (mSc M = true → Cond.static (mY M) ∈ mTb) ∧ (mSc M = false → Cond.instanceMethod (mY M) ∈ mTb ∧ Cond.selects (mY M).cls (mY M) (mY M) ∈ mTb) ∧ mMx M ≤ 40 ∧ plainName (mY M).cls = true ∧ (mY M).cls ≠ "java/lang/invoke/MethodHandle" ∧ (mY M).cls ≠ "java/lang/invoke/VarHandle" := by
  unfold mChkM at h
  simp only [Bool.and_eq_true, decide_eq_true_eq] at h
  obtain ⟨⟨⟨⟨⟨⟨h1, h2⟩, h3⟩, h4⟩, h5⟩, h6⟩, h7⟩ := h
  refine ⟨wAt_mem h1, wAt_mem h2, fun hs => ?_, fun hs => ?_, h4, h5, h6, h7⟩
  · rw [if_pos hs] at h3
    exact wAt_mem h3
  · rw [if_neg (by rw [hs]; decide)] at h3
    rw [Bool.and_eq_true] at h3
    exact ⟨wAt_mem h3.1, wAt_mem h3.2⟩
theorem mPre_blind {as : List Value} : FrameBlind (va_Pc as (mPre X μ)) := by
  intro a' U g mk hq
  obtain ⟨e1, e2, e3, e4, e5⟩ := hq
  exact ⟨e1, e2, va_K.moved (u := U) (U := U.calling g mk a') (Vm.Alike.refl U.vm) e3, e4, mSt_move (U := U.calling g mk a') e5 (Vm.Alike.refl U.vm) (Nat.le_refl _) (fun _ _ _ => rfl) (fun _ h => h)⟩
/-- the callee's start, at the caller's heap -/
theorem mPre_at {A : Nat → Prop} {p : Program} {R : Room} {s : State} {m : MethodId} {args : Array Value} {c : Code} {cells slots : Nat} {H : Heap} {locs : List Loc} (hF : mFx X M h A p R s m args c cells slots) (hW : mWd X μ H) (hD : va_D A (mW X μ)) (hS : va_S A s.heap H locs) : ∀ U : State, U.heap = H → s.WarmedH U.vm → mPre X μ U := by
  intro U hU hWm
  subst hU
  exact ⟨hW, va_K.moved hWm.alike hF.2.2.2.2.2.2.2.1, mD_A X hD, mSt_move hF.2.2.2.2.2.2.1 hWm.alike hS.1 hS.2.1 hF.2.2.2.2.2.2.2.2⟩
theorem W.calc {p : Program} {l : Launch} {e : Env} {R : Room} {s : State} {m : MethodId} {args : Array Value} {below : List Frame} {meth : Method} {c : Code} {H : Heap} {locs : List Loc} {cells slots : Nat} {Q : State → Prop} {g : JFrame} {c2 s2 : Nat} (h1 : c2 = cells) (h2 : s2 = slots) (k : W p l e R s m args below meth c H locs c2 s2 Q g) : W p l e R s m args below meth c H locs cells slots Q g := by subst h1; subst h2; exact k
/-- behind a call, whatever it answers -/
theorem at_ret {M2 : Nat} {rest : List MV} {ret : Option FieldType} (hret : mRt M2 = ret) {K2 : MV → Mem → Prop} {c0 : Nat} (hc0 : c0 = 0 ↔ mRt M2 = none)
    (kk : ∀ r μ', K2 r μ' → mAt X M h K (q + 3) ls (if c0 = 0 then rest else r :: rest) μ')
    {p : Program} {e : Env} {R : Room} {s : State} {m : MethodId} {args : Array Value} {below : List Frame} {meth : Method} {c : Code} {cells slots : Nat} {Q : State → Prop} {A : Nat → Prop} {H : Heap} {locs : List Loc} {lsA : Array Slot} {st0 : List Value} {av : Array Value}
    (hF : mFx X M h A p R s m args c cells slots) (hR : mRh X M K A p e R s m args below meth c cells slots Q) (hD : va_D A (mW X μ)) (hS : va_S A s.heap H locs) (h1 : ∀ q ∈ ls, mOk q.2) (h2 : ∀ v ∈ rest, mOk v) (hl : lv_has lsA (mMx M) (mLs X ls))
    (run : va_Run p (mcL X) e R s m args below meth c H locs cells slots 0 0 (F0 m q lsA st0) (rest.map (mTr X)) (mQ X M2 K2 av) (mA X)) : W p (mcL X) e R s m args below meth c H locs cells slots Q (F0 m q lsA st0) := by
  have hA := hF.2.2.2.2.2.2.2.2
  unfold mQ at run
  rw [hret] at run hc0
  split at run
  · refine va_callv run hS (fun q _ z => hA q z) hA (fun u t H1 locs1 ht hvm hw hB hz1 hk1 hS1 => ?_)
    have k2 := kk _ u hw
    rw [if_pos (hc0.mpr rfl)] at k2
    obtain ⟨b1, b2⟩ := hB
    rw [ht] at b1
    exact k2 p e R s m args below meth c cells slots Q A H1 locs1 lsA hF hR b1 (mD_any X hD u) hS1 h1 h2 hl
  · refine va_calll run hS (fun q _ z => hA q z) hA (fun r u t H1 locs1 ht hvm hw hB hz1 hk1 hS1 => ?_)
    have k2 := kk _ u hw
    rw [if_neg (fun z => by have := hc0.mp z; cases this)] at k2
    obtain ⟨b1, b2⟩ := hB
    rw [ht] at b1
    exact k2 p e R s m args below meth c cells slots Q A H1 locs1 lsA hF hR b1 (mD_any X hD u) hS1 h1 (ok_cl h2) hl
  · refine va_calli run hS (fun q _ z => hA q z) hA (fun r u t H1 locs1 ht hvm hw hB hz1 hk1 hS1 => ?_)
    have k2 := kk _ u hw
    rw [if_neg (fun z => by have := hc0.mp z; cases this)] at k2
    obtain ⟨b1, b2⟩ := hB
    rw [ht] at b1
    exact k2 p e R s m args below meth c cells slots Q A H1 locs1 lsA hF hR b1 (mD_any X hD u) hS1 h1 (ok_ci h2) hl
theorem mGood (hm : mChkM a = true) : ∀ w ∈ mWs a, w ∈ mTb ∧ ((w.onTables && w.keeps) = true ∨ ∃ ty, w = .arrayClass ty) := by
  intro w hw
  rcases List.mem_cons.mp hw with e | e
  · rw [e]
    exact ⟨(mChkM_spec hm).1, mTb_good (mChkM_spec hm).1⟩
  · exact ⟨e, mTb_good e⟩
theorem at_invS {idx : Nat} {as rest : List MV} {c0 : Nat} (hdg : decode (mCd M) q = .ok (.invokestatic idx, 3)) (hm : mChkM a = true) (hs : mSc a = true) (hlink : Cond.methodLink (mY M).cls idx (mY a) ∈ mTb) (hpar : (parseMethodDescriptor (mY a).desc).map (fun d => d.parameters.length) = some as.length) (hc0 : c0 = 0 ↔ mRt a = none) (hcat : mCat rest ≤ 8)
    {K2 : MV → Mem → Prop} (hmet : mMet X h a as μ K2) (kk : ∀ r μ', K2 r μ' → mAt X M h K (q + 3) ls (if c0 = 0 then rest else r :: rest) μ') : mAt X M h K q ls (as.reverse ++ rest) μ := by
  intro p e R s m args below meth c cells slots Q A H locs lsA hF hR hW hD hS h1 h2 hl
  have g1 : ∀ v ∈ as, mOk v := fun v hv => h2 v (List.mem_append_left _ (List.mem_reverse.mpr hv))
  have g2 : ∀ v ∈ rest, mOk v := fun v hv => h2 v (List.mem_append_right _ hv)
  obtain ⟨m1, m2, m3, m4, m5, m6, m7, m8⟩ := mChkM_spec hm
  refine at_ret (M2 := a) (rest := rest) rfl hc0 kk hF hR hD hS h1 g2 hl (va_runS (Ts := mTb) (own := (mY M).cls) (y := mY a) (As := as.map (mTr X)) ⟨hF.1, hF.2.1, hF.2.2.1, hF.2.2.2.1, hF.2.2.2.2.1⟩ (hmet g1) (va_cwS as.length hF.2.2.2.2.1 ?_ rfl rfl rfl ⟨m7, m8, hpar⟩ ⟨?_, ?_⟩) ⟨mPre_blind, fun U hU hWm => ⟨rfl, mPre_at hF hW hD hS U hU hWm⟩⟩ rfl (by rw [List.length_map]) hl.1 ?_ ?_ hdg ⟨hF.2.2.2.2.2.1.2.2.1, hF.2.2.2.2.2.1.2.2.2⟩)
  · intro w hw
    unfold va_wsS at hw
    rcases List.mem_append.mp hw with z | z
    · simp only [List.mem_cons, List.not_mem_nil, or_false] at z
      rcases z with rfl | rfl | rfl
      · exact ⟨hlink, mTb_good hlink⟩
      · exact ⟨m3 hs, mTb_good (m3 hs)⟩
      · exact ⟨m2, mTb_good m2⟩
    · exact mGood hm w z
  · have := hF.2.2.2.2.2.1.1
    show h + 1 + 1 ≤ R.frames
    omega
  · have := hF.2.2.2.2.2.1.2.1
    show 8 + (mMx a + 11) + 64 * (h + 1) ≤ R.locals
    omega
  · show List.map (mTr X) (as.reverse ++ rest) = (as.map (mTr X)).reverse ++ rest.map (mTr X)
    rw [List.map_append, List.map_reverse]
  · exact lv_room (by rw [mCat_sum]; exact hcat)
theorem at_invV {idx : Nat} {as rest : List MV} {c0 ci n0 i0 : Nat} (hdg : decode (mCd M) q = .ok (.invokevirtual idx, 3)) (hm : mChkM a = true) (hs : mSc a = false) (hlink : Cond.methodLink (mY M).cls idx (mY a) ∈ mTb) (hpar : (parseMethodDescriptor (mY a).desc).map (fun d => d.parameters.length) = some as.length) (hci : (vwCl[ci]?).map (fun r => r.1) = some (mY a).cls) (hc16 : ci < 16) (hc0 : c0 = 0 ↔ mRt a = none) (hcat : mCat rest ≤ 8)
    {K2 : MV → Mem → Prop} (hmet : mMet X h a (.inr (.inr (ci, n0, i0)) :: as) μ K2) (kk : ∀ r μ', K2 r μ' → mAt X M h K (q + 3) ls (if c0 = 0 then rest else r :: rest) μ') : mAt X M h K q ls (as.reverse ++ .inr (.inr (ci, n0, i0)) :: rest) μ := by
  intro p e R s m args below meth c cells slots Q A H locs lsA hF hR hW hD hS h1 h2 hl
  have g0 : mOk (.inr (.inr (ci, n0, i0))) := h2 _ (List.mem_append_right _ List.mem_cons_self)
  have g1 : ∀ v ∈ (.inr (.inr (ci, n0, i0)) :: as : List MV), mOk v := ok_cons g0 (fun v hv => h2 v (List.mem_append_left _ (List.mem_reverse.mpr hv)))
  have g2 : ∀ v ∈ rest, mOk v := fun v hv => h2 v (List.mem_append_right _ (List.mem_cons_of_mem _ hv))
  obtain ⟨m1, m2, m3, m4, m5, m6, m7, m8⟩ := mChkM_spec hm
  obtain ⟨hsh, htr⟩ := mTr_cell (X := X) g0 (by omega) (by omega)
  have hme := hmet g1
  rw [List.map_cons, htr] at hme
  obtain ⟨r, hr, hrn⟩ : ∃ r, vwCl[ci]? = some r ∧ r.1 = (mY a).cls := by
    cases hz : vwCl[ci]? with
    | none => rw [hz] at hci; cases hci
    | some r => rw [hz] at hci; exact ⟨r, rfl, Option.some.inj hci⟩
  have hg := mW_get X μ hsh
  rw [mCell_obj X μ i0 hc16] at hg
  have hrcv := va_recv hF.2.2.2.2.2.2.2.1 hW hr hg
  rw [hrn] at hrcv
  refine at_ret (M2 := a) (rest := rest) rfl hc0 kk hF hR hD hS h1 g2 hl (va_runV (Ts := mTb) (own := (mY M).cls) (C := (mY a).cls) (y := mY a) (b := mAd X i0) (As := as.map (mTr X)) ⟨hF.1, hF.2.1, hF.2.2.1, hF.2.2.2.1, hF.2.2.2.2.1⟩ hme (cwV as.length hF.2.2.2.2.1 ?_ rfl rfl rfl ⟨rfl, m7, m8, hpar⟩ ⟨?_, ?_⟩) ⟨mPre_blind, hrcv, fun U hU hWm => ⟨rfl, mPre_at hF hW hD hS U hU hWm⟩⟩ rfl (by rw [List.length_map]) hl.1 ?_ ?_ hdg ⟨hF.2.2.2.2.2.1.2.2.1, hF.2.2.2.2.2.1.2.2.2⟩)
  · intro w hw
    unfold wsV at hw
    rcases List.mem_append.mp hw with z | z
    · simp only [List.mem_cons, List.not_mem_nil, or_false] at z
      rcases z with rfl | rfl | rfl | rfl
      · exact ⟨hlink, mTb_good hlink⟩
      · exact ⟨(m4 hs).1, mTb_good (m4 hs).1⟩
      · exact ⟨(m4 hs).2, mTb_good (m4 hs).2⟩
      · exact ⟨m2, mTb_good m2⟩
    · exact mGood hm w z
  · have := hF.2.2.2.2.2.1.1
    show h + 1 + 1 ≤ R.frames
    omega
  · have := hF.2.2.2.2.2.1.2.1
    show 8 + (mMx a + 11) + 64 * (h + 1) ≤ R.locals
    omega
  · show List.map (mTr X) (as.reverse ++ .inr (.inr (ci, n0, i0)) :: rest) = (as.map (mTr X)).reverse ++ .ref (mAd X i0) :: rest.map (mTr X)
    rw [List.map_append, List.map_reverse, List.map_cons, htr]
  · exact lv_room (by rw [mCat_sum]; exact hcat)
theorem arraycopy_words : Cond.native arraycopyName ∈ mTb ∧ Cond.static arraycopyName ∈ mTb ∧ Cond.initialized "java/lang/System" ∈ mTb := by decide +kernel
theorem at_copy {idx : Nat} {n0 i0 n1 i1 sj dj nj : Nat} (hdg : decode (mCd M) q = .ok (.invokestatic idx, 3)) (hlink : Cond.methodLink (mY M).cls idx arraycopyName ∈ mTb) (hcat : mCat st ≤ 8) (l1 : sj + nj ≤ n0) (l2 : dj + nj ≤ n1)
    (kk : mAt X M h K (q + 3) ls st (cpI μ i1 (va_cpy (μ.1 i0) (μ.1 i1) sj dj nj))) : mAt X M h K q ls (.inl (nI nj) :: .inl (nI dj) :: .inr (.inr (16, n1, i1)) :: .inl (nI sj) :: .inr (.inr (16, n0, i0)) :: st) μ := by
  intro p e R s m args below meth c cells slots Q A H locs lsA hF hR hW hD hS h1 h2 hl
  obtain ⟨s1, e1⟩ := mTr_cell (X := X) (h2 (.inr (.inr (16, n1, i1))) (by simp)) (by decide) (by decide)
  obtain ⟨s0, e0⟩ := mTr_cell (X := X) (h2 (.inr (.inr (16, n0, i0))) (by simp)) (by decide) (by decide)
  rw [List.map_cons, List.map_cons, List.map_cons, List.map_cons, List.map_cons, e1, e0]
  have b0 := mSh_lt s0
  have b1 := mSh_lt s1
  obtain ⟨w1, w2, w3⟩ := arraycopy_words
  have cs : (nI sj).toNatClampNeg = sj := nI_clamp (by omega)
  have cd : (nI dj).toNatClampNeg = dj := nI_clamp (by omega)
  have cn : (nI nj).toNatClampNeg = nj := nI_clamp (by omega)
  refine va_copyi hF.1 hF.2.1 (by rw [hF.2.2.1]; exact hl.1.symm) hF.2.2.2.1 (hF.2.2.2.2.1 _ hlink) (hF.2.2.2.2.1 _ w1) (hF.2.2.2.2.1 _ w2) (hF.2.2.2.2.1 _ w3) hF.2.2.2.2.2.2.2.1 hW hD hS i0 i1 0 0 (mW_get X μ s0) (mW_get X μ s1) rfl rfl rfl (nI_pos (by omega)) (nI_pos (by omega)) (nI_pos (by omega)) (by rw [cs, cn]; exact l1) (by rw [cd, cn]; exact l2) (fun _ _ => rfl) ?_ ?_ hdg (fun H1 locs1 hP1 hD1 hS1 => ?_)
  · have := hF.2.2.2.2.2.1.1
    omega
  · have := hF.2.2.2.2.2.1.2.1
    have hn : nativeFrameWords "java/lang/System" "arraycopy" 5 ≤ 40 := by decide +kernel
    rw [mCat_sum]
    omega
  · rw [cs, cd, cn, mW_set X (μ := μ) (μ' := cpI μ i1 (va_cpy (μ.1 i0) (μ.1 i1) sj dj nj)) s1 (fun j' hj' => up_off j' hj') (fun _ _ => rfl) (by show _ = mCell X (cpI μ i1 (va_cpy (μ.1 i0) (μ.1 i1) sj dj nj)) i1 (16, n1); unfold mCell cpI; simp [up_at])] at hP1 hD1
    exact kk p e R s m args below meth c cells slots Q A H1 locs1 lsA hF hR hP1 hD1 hS1 h1 (ok_tail (ok_tail (ok_tail (ok_tail (ok_tail h2))))) hl
theorem math_words : (Cond.initialized "java/lang/Math" ∈ mTb) ∧ (Cond.static Lib.Math.min.name ∈ mTb ∧ Cond.code Lib.Math.min.name Lib.Math.min.code 2 (some .int) ∈ mTb) ∧ (Cond.static Lib.Math.max.name ∈ mTb ∧ Cond.code Lib.Math.max.name Lib.Math.max.code 2 (some .int) ∈ mTb) ∧ (Cond.static Lib.MathLoose.max_long.x ∈ mTb ∧ Cond.code Lib.MathLoose.max_long.x Lib.MathLoose.max_long.code 4 (some .long) ∈ mTb) ∧ (Cond.static Lib.MathLoose.abs_long.x ∈ mTb ∧ Cond.code Lib.MathLoose.abs_long.x Lib.MathLoose.abs_long.code 2 (some .long) ∈ mTb) := by decide +kernel
theorem at_min {idx : Nat} {x y : Int32} (hdg : decode (mCd M) q = .ok (.invokestatic idx, 3)) (hlink : Cond.methodLink (mY M).cls idx Lib.Math.min.name ∈ mTb) (hcat : mCat st ≤ 8) (kk : mAt X M h K (q + 3) ls (.inl (if y < x then y else x) :: st) μ) : mAt X M h K q ls (.inl y :: .inl x :: st) μ :=
  at_st (fun h _ => ok_ci (ok_tail (ok_tail h))) (fun p e R s m args below meth c cells slots Q A H locs lsA hF hW hS h2 h1 hl k => by
    obtain ⟨w1, w2⟩ := math_words
    have f1 := hF.2.2.2.2.2.1.1
    have f2 := hF.2.2.2.2.2.1.2.1
    refine va_mmin hF.1 hF.2.1 (by rw [hF.2.2.1]; exact hl.1.symm) hF.2.2.2.1 (hF.2.2.2.2.1 _ hlink) (hF.2.2.2.2.1 _ math_words.2.1.1) (hF.2.2.2.2.1 _ math_words.1) (hF.2.2.2.2.1 _ math_words.2.1.2) (by omega) (by rw [mCat_sum]; omega) hF.2.2.2.2.2.1.2.2.1 hF.2.2.2.2.2.1.2.2.2 hdg k) kk
theorem at_max {idx : Nat} {x y : Int32} (hdg : decode (mCd M) q = .ok (.invokestatic idx, 3)) (hlink : Cond.methodLink (mY M).cls idx Lib.Math.max.name ∈ mTb) (hcat : mCat st ≤ 8) (kk : mAt X M h K (q + 3) ls (.inl (if x < y then y else x) :: st) μ) : mAt X M h K q ls (.inl y :: .inl x :: st) μ :=
  at_st (fun h _ => ok_ci (ok_tail (ok_tail h))) (fun p e R s m args below meth c cells slots Q A H locs lsA hF hW hS h2 h1 hl k => by
    obtain ⟨w1, w2⟩ := math_words
    have f1 := hF.2.2.2.2.2.1.1
    have f2 := hF.2.2.2.2.2.1.2.1
    refine va_mmax hF.1 hF.2.1 (by rw [hF.2.2.1]; exact hl.1.symm) hF.2.2.2.1 (hF.2.2.2.2.1 _ hlink) (hF.2.2.2.2.1 _ math_words.2.2.1.1) (hF.2.2.2.2.1 _ math_words.1) (hF.2.2.2.2.1 _ math_words.2.2.1.2) (by omega) (by rw [mCat_sum]; omega) hF.2.2.2.2.2.1.2.2.1 hF.2.2.2.2.2.1.2.2.2 hdg k) kk
theorem at_maxl {idx : Nat} {x y : Int64} (hdg : decode (mCd M) q = .ok (.invokestatic idx, 3)) (hlink : Cond.methodLink (mY M).cls idx Lib.MathLoose.max_long.x ∈ mTb) (hcat : mCat st ≤ 8) (kk : mAt X M h K (q + 3) ls (.inr (.inl (if y < x then x else y)) :: st) μ) : mAt X M h K q ls (.inr (.inl y) :: .inr (.inl x) :: st) μ :=
  at_st (fun h _ => ok_cl (ok_tail (ok_tail h))) (fun p e R s m args below meth c cells slots Q A H locs lsA hF hW hS h2 h1 hl k => by
    obtain ⟨w1, w2⟩ := math_words
    have f1 := hF.2.2.2.2.2.1.1
    have f2 := hF.2.2.2.2.2.1.2.1
    refine va_mmax_long hF.1 hF.2.1 (by rw [hF.2.2.1]; exact hl.1.symm) hF.2.2.2.1 (hF.2.2.2.2.1 _ hlink) (hF.2.2.2.2.1 _ math_words.2.2.2.1.1) (hF.2.2.2.2.1 _ math_words.1) (hF.2.2.2.2.1 _ math_words.2.2.2.1.2) (by omega) (by rw [mCat_sum]; omega) hF.2.2.2.2.2.1.2.2.1 hF.2.2.2.2.2.1.2.2.2 hdg k) kk
theorem at_absl {idx : Nat} {x : Int64} (hdg : decode (mCd M) q = .ok (.invokestatic idx, 3)) (hlink : Cond.methodLink (mY M).cls idx Lib.MathLoose.abs_long.x ∈ mTb) (hcat : mCat st ≤ 8) (kk : mAt X M h K (q + 3) ls (.inr (.inl (if 0 < x then x else -x)) :: st) μ) : mAt X M h K q ls (.inr (.inl x) :: st) μ :=
  at_st (fun h _ => ok_cl (ok_tail h)) (fun p e R s m args below meth c cells slots Q A H locs lsA hF hW hS h2 h1 hl k => by
    obtain ⟨w1, w2⟩ := math_words
    have f1 := hF.2.2.2.2.2.1.1
    have f2 := hF.2.2.2.2.2.1.2.1
    refine va_mabs_long hF.1 hF.2.1 (by rw [hF.2.2.1]; exact hl.1.symm) hF.2.2.2.1 (hF.2.2.2.2.1 _ hlink) (hF.2.2.2.2.1 _ math_words.2.2.2.2.1) (hF.2.2.2.2.1 _ math_words.1) (hF.2.2.2.2.1 _ math_words.2.2.2.2.2) (by omega) (by rw [mCat_sum]; omega) hF.2.2.2.2.2.1.2.2.1 hF.2.2.2.2.2.1.2.2.2 hdg k) kk
end MMC
