section MMM
variable {X : mC} {M h : Nat} {K : MV → Mem → Prop} {q a b : Nat} {ls : List (Nat × MV)} {st : List MV} {μ : Mem}
theorem mTr_cell {X : mC} {c n i : Nat} (h : mOk (.inr (.inr (c, n, i)))) (h1 : c ≠ 20) (h2 : c ≠ 21) : mSh[i]? = some (c, n) ∧ mTr X (.inr (.inr (c, n, i))) = .ref (mAd X i) := by
  refine ⟨?_, ?_⟩
  · have h3 : (if c = 20 then n = 9 else if c = 21 then True else mSh[i]? = some (c, n)) := h
    rw [if_neg h1, if_neg h2] at h3
    exact h3
  · show (if c = 20 then Value.ref (mcF X) else if c = 21 then .ref (mcB X) else .ref (mAd X i)) = _
    rw [if_neg h1, if_neg h2]
theorem mOk_cell {c n i : Nat} (h1 : c ≠ 20) (h2 : c ≠ 21) (h : mSh[i]? = some (c, n)) : mOk (.inr (.inr (c, n, i))) := by
  show (if c = 20 then n = 9 else if c = 21 then True else mSh[i]? = some (c, n))
  rw [if_neg h1, if_neg h2]
  exact h
theorem mCell_obj (X : mC) (μ : Mem) (i : Nat) {c n : Nat} (hc : c < 16) : mCell X μ i (c, n) = .inr (c, mObj X μ i c) := by
  unfold mCell
  rw [if_neg (show ¬ c = 16 by omega), if_neg (show ¬ c = 17 by omega), if_neg (show ¬ c = 18 by omega), if_neg (show ¬ c = 19 by omega)]
theorem mObj_at (X : mC) (μ : Mem) (i : Nat) {c b : Nat} {t : Nat × Nat × Nat × Nat} (h : (mF c)[b]? = some t) : (mObj X μ i c)[b]? = some (mFv X μ i b t) := by
  unfold mObj
  rw [List.getElem?_mapIdx, h]
  rfl
theorem mObj_set (X : mC) {μ μ' : Mem} (i : Nat) {c b : Nat} {t : Nat × Nat × Nat × Nat} (h : (mF c)[b]? = some t) (h1 : ∀ k, k ≠ b → μ'.1 i k = μ.1 i k) (h2 : ∀ k, k ≠ b → μ'.2 i k = μ.2 i k) : (mObj X μ i c).set b (mFv X μ' i b t) = mObj X μ' i c := by
  apply List.ext_getElem?
  intro j
  unfold mObj
  rw [List.getElem?_set, List.getElem?_mapIdx, List.getElem?_mapIdx, List.length_mapIdx]
  by_cases hj : b = j
  · subst hj
    have hl := (List.getElem?_eq_some_iff.mp h).1
    rw [if_pos rfl, if_pos hl, h]
    rfl
  · rw [if_neg hj]
    cases hq : (mF c)[j]? with
    | none => rfl
    | some r =>
      show some (mFv X μ i j r) = some (mFv X μ' i j r)
      unfold mFv
      rw [h1 j (fun e => hj e.symm), h2 j (fun e => hj e.symm)]
theorem mLk_spec {own : String} {i : Instr} {a b c : Nat} {v : MV} {ts : List Nat} {fin : Bool} {idx : Nat} (h : mLk own i a b c v ts fin idx = true) : ∃ (r : vw_C) (t : Nat × Nat × Nat × Nat), vwCl[a]? = some r ∧ (mF a)[b]? = some t ∧ Cond.fieldLink own idx (r.2.1 b).1 (r.2.1 b).2.1 (r.2.1 b).2.2.1 ∈ mTb ∧ b < r.2.2 ∧ t.1 = c ∧ (c = 3 → v = .inr (.inr (t.2.1, t.2.2.1, t.2.2.2))) ∧ a < 16
    ∧ (fin = false → (r.2.1 b).2.2.2 = false ∧ (c = 0 → parseFieldDescriptor (r.2.1 b).2.2.1 = some .int) ∧ (c = 1 → parseFieldDescriptor (r.2.1 b).2.2.1 = some .long) ∧ (c = 2 → parseFieldDescriptor (r.2.1 b).2.2.1 = some .boolean)) := by
  unfold mLk at h
  split at h
  · rename_i C T N t h1 h2
    simp only [Bool.and_eq_true, Bool.or_eq_true, decide_eq_true_eq] at h
    obtain ⟨⟨⟨⟨⟨h3, h4⟩, h5⟩, h6⟩, h7⟩, h8⟩ := h
    refine ⟨(C, T, N), t, h1, h2, wAt_mem h3, h4, h5, h6, h7, fun hf => ?_⟩
    rcases h8 with h8 | ⟨⟨⟨g1, g2⟩, g3⟩, g4⟩
    · rw [h8] at hf; cases hf
    · exact ⟨g1, g2, g3, g4⟩
  · cases h
/-- reading a field -/
theorem at_getf {k : Nat} {r : vw_C} {t : Nat × Nat × Nat × Nat} {n0 i0 : Nat} (hdg : decode (mCd M) q = .ok (.getfield k, 3)) (hr : vwCl[a]? = some r) (ht : (mF a)[b]? = some t) (hlink : Cond.fieldLink (mY M).cls k (r.2.1 b).1 (r.2.1 b).2.1 (r.2.1 b).2.2.1 ∈ mTb) (hb : b < r.2.2) (ha : a < 16)
    {w : MV} (hw : mSh[i0]? = some (a, n0) → mOk w) (htr : mSh[i0]? = some (a, n0) → mTr X w = mFv X μ i0 b t) (kk : mAt X M h K (q + 3) ls (w :: st) μ) : mAt X M h K q ls (.inr (.inr (a, n0, i0)) :: st) μ :=
  at_st (fun h _ => ok_cons (hw (mTr_cell (X := X) (h _ List.mem_cons_self) (by omega) (by omega)).1) (ok_tail h)) (fun p e R s m args below meth c cells slots Q A H locs lsA hF hW hS h2 h1 hl k => by
    obtain ⟨hs, he⟩ := mTr_cell (X := X) (h2 _ List.mem_cons_self) (by omega) (by omega)
    rw [List.map_cons, he]
    obtain ⟨C, T, N⟩ := r
    have hg := mW_get X μ hs
    rw [mCell_obj X μ i0 ha] at hg
    refine va_get hF.1 hF.2.1 hF.2.2.2.2.1 (vwCl_ok a _ hr).1 hF.2.2.2.1 hF.2.2.2.2.2.2.2.1 hW i0 hg hr b hb (hF.2.2.2.2.1 _ hlink) (fun x hx => hx) (mObj_at X μ i0 ht) hdg ?_
    rw [List.map_cons, htr hs] at k
    exact k) kk
/-- writing a field -/
theorem at_putf {k : Nat} {r : vw_C} {t : Nat × Nat × Nat × Nat} {n0 i0 : Nat} (hdg : decode (mCd M) q = .ok (.putfield k, 3)) (hr : vwCl[a]? = some r) (ht : (mF a)[b]? = some t) (hlink : Cond.fieldLink (mY M).cls k (r.2.1 b).1 (r.2.1 b).2.1 (r.2.1 b).2.2.1 ∈ mTb) (hb : b < r.2.2) (ha : a < 16) (hfin : (r.2.1 b).2.2.2 = false)
    {ty : FieldType} (hty : parseFieldDescriptor (r.2.1 b).2.2.1 = some ty) {w : MV} {μ' : Mem} (hnar : narrow ty (mTr X w) = mTr X w) (hfit : fits ty (mTr X w) = true) (htr : mTr X w = mFv X μ' i0 b t)
    (g1 : ∀ j, j ≠ i0 → μ'.1 j = μ.1 j) (g2 : ∀ j, j ≠ i0 → μ'.2 j = μ.2 j) (g3 : ∀ k, k ≠ b → μ'.1 i0 k = μ.1 i0 k) (g4 : ∀ k, k ≠ b → μ'.2 i0 k = μ.2 i0 k)
    (kk : mAt X M h K (q + 3) ls st μ') : mAt X M h K q ls (w :: .inr (.inr (a, n0, i0)) :: st) μ := by
  intro p e R s m args below meth c cells slots Q A H locs lsA hF hR hW hD hS h1 h2 hl
  obtain ⟨hs, he⟩ := mTr_cell (X := X) (h2 _ (List.mem_cons_of_mem _ List.mem_cons_self)) (by omega) (by omega)
  rw [List.map_cons, List.map_cons, he]
  obtain ⟨C, T, N⟩ := r
  have hg := mW_get X μ hs
  rw [mCell_obj X μ i0 ha] at hg
  obtain ⟨hin, ty0, hty0, hnm⟩ := vwCl_ok a _ hr
  have hlen : b < (mObj X μ i0 a).length := (List.getElem?_eq_some_iff.mp (mObj_at X μ i0 ht)).1
  refine va_put hF.1 hF.2.1 hF.2.2.2.2.1 hin ty0 hty0 hnm hF.2.2.2.1 hF.2.2.2.2.2.2.2.1 hW hD hS i0 hg hr b hb (hF.2.2.2.2.1 _ hlink) (fun x hx => hx) hfin hty hnar hfit hlen hdg (fun H1 locs1 hP1 hD1 hS1 => ?_)
  rw [htr, mObj_set X i0 ht g3 g4, mW_set X hs g1 g2 (mCell_obj X μ' i0 ha).symm] at hP1 hD1
  exact kk p e R s m args below meth c cells slots Q A H1 locs1 lsA hF hR hP1 hD1 hS1 h1 (ok_tail (ok_tail h2)) hl
theorem up_off {α : Type} {f : Nat → α} {i : Nat} {v : α} : ∀ j, j ≠ i → va_up f i v j = f j := fun j hj => by unfold va_up; rw [if_neg hj]
theorem up_at {α : Type} {f : Nat → α} {i : Nat} {v : α} : va_up f i v i = v := by unfold va_up; rw [if_pos rfl]
theorem upd_off {f : Nat → Int32} {k : Nat} {x : Int32} : ∀ j, j ≠ k → upd f k x j = f j := fun j hj => by unfold upd; rw [if_neg hj]
theorem updL_off {f : Nat → Int64} {k : Nat} {x : Int64} : ∀ j, j ≠ k → vp_updL f k x j = f j := fun j hj => by unfold vp_updL; rw [if_neg hj]
theorem nI_cl {j n : Nat} (h : j < n) (hn : n < 2 ^ 31) : vp_in (nI j) n ∧ (nI j).toNatClampNeg = j := ⟨vp_in_nI h hn, nI_clamp (Nat.lt_trans h hn)⟩
/-- rows of ints -/
theorem at_iald {n0 i0 j : Nat} (hdg : decode (mCd M) q = .ok (.iaload, 1)) (hj : j < n0) (kk : mAt X M h K (q + 1) ls (.inl (μ.1 i0 j) :: st) μ) : mAt X M h K q ls (.inl (nI j) :: .inr (.inr (16, n0, i0)) :: st) μ :=
  at_st (fun h _ => ok_ci (ok_tail (ok_tail h))) (fun p e R s m args below meth c cells slots Q A H locs lsA hF hW hS h2 h1 hl k => by
    obtain ⟨hs, he⟩ := mTr_cell (X := X) (h2 _ (List.mem_cons_of_mem _ List.mem_cons_self)) (by decide) (by decide)
    rw [List.map_cons, List.map_cons, he]
    obtain ⟨c1, c2⟩ := nI_cl hj (mSh_lt hs)
    refine va_iald hF.1 hF.2.1 hF.2.2.2.2.2.2.2.1 hW i0 0 (mW_get X μ hs) rfl c1 hdg ?_
    rw [c2]
    exact k) kk
theorem at_zald {n0 i0 j : Nat} (hdg : decode (mCd M) q = .ok (.baload, 1)) (hj : j < n0) (kk : mAt X M h K (q + 1) ls (.inl (μ.1 i0 j) :: st) μ) : mAt X M h K q ls (.inl (nI j) :: .inr (.inr (18, n0, i0)) :: st) μ :=
  at_st (fun h _ => ok_ci (ok_tail (ok_tail h))) (fun p e R s m args below meth c cells slots Q A H locs lsA hF hW hS h2 h1 hl k => by
    obtain ⟨hs, he⟩ := mTr_cell (X := X) (h2 _ (List.mem_cons_of_mem _ List.mem_cons_self)) (by decide) (by decide)
    rw [List.map_cons, List.map_cons, he]
    obtain ⟨c1, c2⟩ := nI_cl hj (mSh_lt hs)
    refine va_zald hF.1 hF.2.1 hF.2.2.2.2.2.2.2.1 hW i0 2 (mW_get X μ hs) rfl c1 hdg ?_
    rw [c2]
    exact k) kk
theorem at_lald {n0 i0 j : Nat} (hdg : decode (mCd M) q = .ok (.laload, 1)) (hj : j < n0) (kk : mAt X M h K (q + 1) ls (.inr (.inl (μ.2 i0 j)) :: st) μ) : mAt X M h K q ls (.inl (nI j) :: .inr (.inr (17, n0, i0)) :: st) μ :=
  at_st (fun h _ => ok_cl (ok_tail (ok_tail h))) (fun p e R s m args below meth c cells slots Q A H locs lsA hF hW hS h2 h1 hl k => by
    obtain ⟨hs, he⟩ := mTr_cell (X := X) (h2 _ (List.mem_cons_of_mem _ List.mem_cons_self)) (by decide) (by decide)
    rw [List.map_cons, List.map_cons, he]
    obtain ⟨c1, c2⟩ := nI_cl hj (mSh_lt hs)
    refine va_lald hF.1 hF.2.1 hF.2.2.2.2.2.2.2.1 hW i0 1 (mW_get X μ hs) rfl c1 hdg ?_
    rw [c2]
    exact k) kk
theorem at_aald {n0 i0 j : Nat} (hdg : decode (mCd M) q = .ok (.aaload, 1)) (hj : j < n0) (kk : mAt X M h K (q + 1) ls (.inr (.inr (1, 0, i0 + 1 + 36 * j)) :: st) μ) : mAt X M h K q ls (.inl (nI j) :: .inr (.inr (19, n0, i0)) :: st) μ :=
  at_st (fun h _ => ok_cons (mOk_cell (by decide) (by decide) (mLay_a (mTr_cell (X := X) (h _ (List.mem_cons_of_mem _ List.mem_cons_self)) (by decide) (by decide)).1 hj)) (ok_tail (ok_tail h))) (fun p e R s m args below meth c cells slots Q A H locs lsA hF hW hS h2 h1 hl k => by
    obtain ⟨hs, he⟩ := mTr_cell (X := X) (h2 _ (List.mem_cons_of_mem _ List.mem_cons_self)) (by decide) (by decide)
    rw [List.map_cons, List.map_cons, he]
    obtain ⟨c1, c2⟩ := nI_cl hj (mSh_lt hs)
    refine va_aldq hF.1 hF.2.1 hF.2.2.2.2.2.2.2.1 hW i0 3 (mW_get X μ hs) rfl c1 hdg ?_
    rw [c2]
    exact k) kk
theorem at_tald {j : Nat} (hdg : decode (mCd M) q = .ok (.iaload, 1)) (hj : j < 9) {i0 n0 : Nat} (kk : mAt X M h K (q + 1) ls (.inl (mFac j) :: st) μ) : mAt X M h K q ls (.inl (nI j) :: .inr (.inr (20, n0, i0)) :: st) μ :=
  at_st (fun h _ => ok_ci (ok_tail (ok_tail h))) (fun p e R s m args below meth c cells slots Q A H locs lsA hF hW hS h2 h1 hl k => by
    obtain ⟨c1, c2⟩ := nI_cl hj (by decide)
    refine va_ti hF.1 hF.2.1 hF.2.2.2.2.2.2.1.2.1 hS c1 rfl hdg ?_
    rw [c2]
    exact k) kk
theorem at_xald {j : Nat} (hdg : decode (mCd M) q = .ok (.iaload, 1)) (hj : j < mcN X) (hj2 : j < 2 ^ 31) {i0 n0 : Nat} (kk : mAt X M h K (q + 1) ls (.inl (mcX X j) :: st) μ) : mAt X M h K q ls (.inl (nI j) :: .inr (.inr (21, n0, i0)) :: st) μ :=
  at_st (fun h _ => ok_ci (ok_tail (ok_tail h))) (fun p e R s m args below meth c cells slots Q A H locs lsA hF hW hS h2 h1 hl k => by
    have c2 : (nI j).toNatClampNeg = j := nI_clamp hj2
    have c1 : vp_in (nI j) (mcN X) := by
      intro hh
      rcases hh with hh | hh
      · exact nI_pos hj2 hh
      · rw [c2] at hh; omega
    obtain ⟨-, -, g3, g4, g5⟩ := hF.2.2.2.2.2.2.1
    refine va_sld hF.1 hF.2.1 g3 g4 g5 hS c1 hdg ?_
    rw [c2]
    exact k) kk
theorem at_alen {n0 i0 : Nat} (hdg : decode (mCd M) q = .ok (.arraylength, 1)) (kk : mAt X M h K (q + 1) ls (.inl (nI n0) :: st) μ) : mAt X M h K q ls (.inr (.inr (16, n0, i0)) :: st) μ :=
  at_st (fun h _ => ok_ci (ok_tail h)) (fun p e R s m args below meth c cells slots Q A H locs lsA hF hW hS h2 h1 hl k => by
    obtain ⟨hs, he⟩ := mTr_cell (X := X) (h2 _ List.mem_cons_self) (by decide) (by decide)
    rw [List.map_cons, he]
    exact va_alen hF.1 hF.2.1 hF.2.2.2.2.2.2.2.1 hW i0 0 (mW_get X μ hs) rfl rfl hdg k) kk
theorem at_xlen {n0 i0 : Nat} (hdg : decode (mCd M) q = .ok (.arraylength, 1)) (kk : mAt X M h K (q + 1) ls (.inl (nI (mcN X)) :: st) μ) : mAt X M h K q ls (.inr (.inr (21, n0, i0)) :: st) μ :=
  at_st (fun h _ => ok_ci (ok_tail h)) (fun p e R s m args below meth c cells slots Q A H locs lsA hF hW hS h2 h1 hl k => by
    obtain ⟨-, -, g3, g4, g5⟩ := hF.2.2.2.2.2.2.1
    exact va_slen hF.1 hF.2.1 g3 g4 g5 hS hdg k) kk
theorem at_iast {n0 i0 j : Nat} {y : Int32} (hdg : decode (mCd M) q = .ok (.iastore, 1)) (hj : j < n0) (kk : mAt X M h K (q + 1) ls st (upI μ i0 j y)) : mAt X M h K q ls (.inl y :: .inl (nI j) :: .inr (.inr (16, n0, i0)) :: st) μ := by
  intro p e R s m args below meth c cells slots Q A H locs lsA hF hR hW hD hS h1 h2 hl
  obtain ⟨hs, he⟩ := mTr_cell (X := X) (h2 _ (List.mem_cons_of_mem _ (List.mem_cons_of_mem _ List.mem_cons_self))) (by decide) (by decide)
  rw [List.map_cons, List.map_cons, List.map_cons, he]
  obtain ⟨c1, c2⟩ := nI_cl hj (mSh_lt hs)
  refine va_iast hF.1 hF.2.1 hF.2.2.2.2.2.2.2.1 hW hD hS i0 0 (mW_get X μ hs) rfl c1 hdg (fun H1 locs1 hP1 hD1 hS1 => ?_)
  rw [c2, mW_set X (μ := μ) (μ' := upI μ i0 j y) hs (fun j' hj' => up_off j' hj') (fun _ _ => rfl) (by show _ = mCell X (upI μ i0 j y) i0 (16, n0); unfold mCell upI; simp [up_at])] at hP1 hD1
  exact kk p e R s m args below meth c cells slots Q A H1 locs1 lsA hF hR hP1 hD1 hS1 h1 (ok_tail (ok_tail (ok_tail h2))) hl
theorem at_zast {n0 i0 j : Nat} {y : Int32} (hdg : decode (mCd M) q = .ok (.bastore, 1)) (hj : j < n0) (hy : y = 0 ∨ y = 1) (kk : mAt X M h K (q + 1) ls st (upI μ i0 j y)) : mAt X M h K q ls (.inl y :: .inl (nI j) :: .inr (.inr (18, n0, i0)) :: st) μ := by
  intro p e R s m args below meth c cells slots Q A H locs lsA hF hR hW hD hS h1 h2 hl
  obtain ⟨hs, he⟩ := mTr_cell (X := X) (h2 _ (List.mem_cons_of_mem _ (List.mem_cons_of_mem _ List.mem_cons_self))) (by decide) (by decide)
  rw [List.map_cons, List.map_cons, List.map_cons, he]
  obtain ⟨c1, c2⟩ := nI_cl hj (mSh_lt hs)
  have hy2 : vp_nar .boolean y = y := by rcases hy with rfl | rfl <;> rfl
  refine va_zast hF.1 hF.2.1 hF.2.2.2.2.2.2.2.1 hW hD hS i0 2 (mW_get X μ hs) rfl c1 hdg (fun H1 locs1 hP1 hD1 hS1 => ?_)
  rw [c2, hy2, mW_set X (μ := μ) (μ' := upI μ i0 j y) hs (fun j' hj' => up_off j' hj') (fun _ _ => rfl) (by show _ = mCell X (upI μ i0 j y) i0 (18, n0); unfold mCell upI; simp [up_at])] at hP1 hD1
  exact kk p e R s m args below meth c cells slots Q A H1 locs1 lsA hF hR hP1 hD1 hS1 h1 (ok_tail (ok_tail (ok_tail h2))) hl
theorem at_last {n0 i0 j : Nat} {y : Int64} (hdg : decode (mCd M) q = .ok (.lastore, 1)) (hj : j < n0) (kk : mAt X M h K (q + 1) ls st (upL μ i0 j y)) : mAt X M h K q ls (.inr (.inl y) :: .inl (nI j) :: .inr (.inr (17, n0, i0)) :: st) μ := by
  intro p e R s m args below meth c cells slots Q A H locs lsA hF hR hW hD hS h1 h2 hl
  obtain ⟨hs, he⟩ := mTr_cell (X := X) (h2 _ (List.mem_cons_of_mem _ (List.mem_cons_of_mem _ List.mem_cons_self))) (by decide) (by decide)
  rw [List.map_cons, List.map_cons, List.map_cons, he]
  obtain ⟨c1, c2⟩ := nI_cl hj (mSh_lt hs)
  refine va_last hF.1 hF.2.1 hF.2.2.2.2.2.2.2.1 hW hD hS i0 1 (mW_get X μ hs) rfl c1 hdg (fun H1 locs1 hP1 hD1 hS1 => ?_)
  rw [c2, mW_set X (μ := μ) (μ' := upL μ i0 j y) hs (fun _ _ => rfl) (fun j' hj' => up_off j' hj') (by show _ = mCell X (upL μ i0 j y) i0 (17, n0); unfold mCell upL; simp [up_at])] at hP1 hD1
  exact kk p e R s m args below meth c cells slots Q A H1 locs1 lsA hF hR hP1 hD1 hS1 h1 (ok_tail (ok_tail (ok_tail h2))) hl
end MMM
